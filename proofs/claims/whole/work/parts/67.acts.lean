/-! ===== cross, back, law, undo ===== -/
theorem sRel_eq2 {f g : Nat → Int → Int} {A : Nat} {N M : Int → Int} (h5 : g 242 5 = f 242 5) (h6 : g 242 6 = f 242 6) (hf : ∀ a k, A ≤ a → a ≤ A + 5 → g a k = f a k) (hN : ∀ i, 0 ≤ i → i < 37 → i ≠ 29 + N 28 → M i = N i) (b1 : f 242 5 ≤ 8) (b2 : f 242 6 ≤ 6) (b3 : N 28 ≤ 8) (b4 : 0 ≤ N 28) (h : sRel f A N) : sRel g A M := by
  obtain ⟨q1, q2, q3, q4, q5, q6⟩ := h
  refine ⟨?_, ?_, ?_, ?_, ?_, ?_⟩
  · rw [hf _ _ (by omega) (by omega), hN 0 (by omega) (by omega) (by omega)]; exact q1
  · rw [hf _ _ (by omega) (by omega), hN 1 (by omega) (by omega) (by omega)]; exact q2
  · intro p p1 p2
    rw [h5] at p2
    rw [hf _ _ (by omega) (by omega), hN _ (by omega) (by omega) (by omega)]; exact q3 p p1 p2
  · intro w w1 w2
    rw [h6] at w2
    rw [hf _ _ (by omega) (by omega), hf _ _ (by omega) (by omega), hf _ _ (by omega) (by omega), hN _ (by omega) (by omega) (by omega), hN _ (by omega) (by omega) (by omega), hN _ (by omega) (by omega) (by omega)]; exact q4 w w1 w2
  · rw [hf _ _ (by omega) (by omega), hN 28 (by omega) (by omega) (by omega)]; exact q5
  · intro k k1 k2
    rw [hN 28 (by omega) (by omega) (by omega)] at k2
    rw [hf _ _ (by omega) (by omega), hN _ (by omega) (by omega) (by omega)]; exact q6 k k1 k2
theorem nInv_eq2 {a b c : Int} {N M : Int → Int} (hb : b ≤ 8) (hc0 : 0 ≤ c) (hc : c ≤ 6) (hcb : c ≤ b) (hN : ∀ i, 0 ≤ i → i < 37 → i ≠ 29 + (b - c) → M i = N i) (h : nInv a b c N) : nInv a b c M := by
  obtain ⟨q1, q2, q3, q4, q5, q6, q7, q8, q9⟩ := h
  refine ⟨?_, ?_, ?_, ?_, ?_, ?_, ?_, ?_, ?_⟩
  · rw [hN 0 (by omega) (by omega) (by omega)]; exact q1
  · rw [hN 1 (by omega) (by omega) (by omega)]; exact q2
  · intro p p1 p2; rw [hN _ (by omega) (by omega) (by omega)]; exact q3 p p1 p2
  · intro w w1 w2; rw [hN _ (by omega) (by omega) (by omega), hN (11 + 3 * w) (by omega) (by omega) (by omega), hN (12 + 3 * w) (by omega) (by omega) (by omega)]; exact q4 w w1 w2
  · rw [hN 28 (by omega) (by omega) (by omega)]; exact q5
  · intro k k1 k2; rw [hN _ (by omega) (by omega) (by omega)]; exact q6 k k1 k2
  · intro v w v1 v2 v3; rw [hN _ (by omega) (by omega) (by omega), hN (10 + 3 * w) (by omega) (by omega) (by omega)]; exact q7 v w v1 v2 v3
  · intro j k v1 v2 v3; rw [hN _ (by omega) (by omega) (by omega), hN (29 + k) (by omega) (by omega) (by omega)]; exact q8 j k v1 v2 v3
  · intro w k v1 v2 v3 v4; rw [hN _ (by omega) (by omega) (by omega), hN (29 + k) (by omega) (by omega) (by omega)]; exact q9 w k v1 v2 v3 v4
/-- what an act may change -/
def Act (L : Nat) (a : Nat) (k : Int) : Prop := (28 ≤ a ∧ a ≤ 33) ∨ a = 254 ∨ (a = 0 ∧ (k = 16 ∨ k = 17)) ∨ (89 ≤ a ∧ a ≤ 208) ∨ (a = 209 ∧ (k = 74 ∨ k = 75)) ∨ a = 262 ∨ Scr L a k
theorem R_act {n : Nat} {s t : zS} (hR : R n s) (hA : FrJ (Act (s.2.2 1)) s t) (h6 : rNow t.1) (h7 : rPast t.1) : R (n + 1) t := by
  have hLL := R_LL hR
  have hM := hA.2
  have g : ∀ a k, ¬ Act (s.2.2 1) a k → t.1 a k = s.1 a k := fun a k q => (hA.1 a k q).1
  have gj : ∀ a k, ¬ Act (s.2.2 1) a k → t.2.1 a k = s.2.1 a k := fun a k q => (hA.1 a k q).2
  unfold Act Scr at g gj
  refine R_of (n := n) (s := s) hR hM (fun a k q => ⟨g a k (by unfold Stt at q; omega), gj a k (by unfold Stt at q; omega)⟩) ?_ ?_ ?_ ?_ ?_ h6 h7
  · exact rTape_eq (g _ _ (by omega)) (g _ _ (by omega)) (fun k => g _ _ (by omega)) (fun k => g _ _ (by omega)) (g _ _ (by omega)) (g _ _ (by omega)) (g _ _ (by omega)) (g _ _ (by omega)) (R_tape hR)
  · exact rRefu_eq (fun k => g _ _ (by omega)) (fun k => g _ _ (by omega)) (R_refu hR)
  · exact rSeed_eq (g _ _ (by omega)) (gj _ _ (by omega)) (R_seed hR)
  · exact rImg_eq (g _ _ (by omega)) (g _ _ (by omega)) (fun k => g _ _ (by omega)) (fun k => g _ _ (by omega)) (R_img hR)
  · exact rRows_eq (g _ _ (by omega)) (g _ _ (by omega)) (fun k => g _ _ (by omega)) (fun k => g _ _ (by omega)) (fun k => g _ _ (by omega)) (g _ _ (by omega)) (R_rows hR)
/-- what the class, the reference change beside -/
theorem actB {L a : Nat} {k : Int} (h : (28 ≤ a ∧ a ≤ 33) ∨ a = 11 ∨ (13 ≤ a ∧ a ≤ 19) ∨ (34 ≤ a ∧ a ≤ 39) ∨ a = L + 19 ∨ a = L + 22 ∨ (a = 0 ∧ k = 18)) : Act L a k ∨ (a = 0 ∧ k = 18) ∨ (a = 209 ∧ k = 76) := by
  have sc : Scr L a k → Act L a k := fun z => Or.inr (Or.inr (Or.inr (Or.inr (Or.inr (Or.inr z)))))
  rcases h with h | h | h | h | h | h | h
  · exact Or.inl (Or.inl h)
  · exact Or.inl (sc (Or.inr (Or.inl (by omega))))
  · exact Or.inl (sc (Or.inr (Or.inl (by omega))))
  · exact Or.inl (sc (Or.inr (Or.inr (Or.inr (Or.inr (Or.inl h))))))
  · exact Or.inl (sc (Or.inr (Or.inr (Or.inr (Or.inr (Or.inr (Or.inl h)))))))
  · exact Or.inl (sc (Or.inr (Or.inr (Or.inr (Or.inr (Or.inr (Or.inr (Or.inl h))))))))
  · exact Or.inr (Or.inl h)
theorem actC {L a : Nat} {k : Int} (h : a = 254 ∨ (a = 209 ∧ (k = 53 ∨ k = 58 ∨ k = 59 ∨ k = 60 ∨ k = 61 ∨ k = 62 ∨ k = 106 ∨ k = 76)) ∨ a = 287 ∨ a = 256) : Act L a k ∨ (a = 0 ∧ k = 18) ∨ (a = 209 ∧ k = 76) := by
  have sc : Scr L a k → Act L a k := fun z => Or.inr (Or.inr (Or.inr (Or.inr (Or.inr (Or.inr z)))))
  rcases h with h | ⟨h, hk⟩ | h | h
  · exact Or.inl (Or.inr (Or.inl h))
  · by_cases e : k = 76
    · exact Or.inr (Or.inr ⟨h, e⟩)
    · refine Or.inl (sc (Or.inr (Or.inr (Or.inr (Or.inr (Or.inr (Or.inr (Or.inr (Or.inr (Or.inl ⟨h, ?_⟩))))))))))
      omega
  · exact Or.inl (sc (Or.inr (Or.inr (Or.inr (Or.inr (Or.inr (Or.inr (Or.inr (Or.inr (Or.inr (Or.inr (Or.inr (by omega)))))))))))))
  · exact Or.inl (sc (Or.inr (Or.inr (Or.inr (Or.inr (Or.inr (Or.inr (Or.inr (Or.inr (Or.inr (Or.inl (by omega))))))))))))
theorem actK {L a : Nat} {k : Int} (h : (89 ≤ a ∧ a ≤ 208) ∨ (a = 0 ∧ (k = 16 ∨ k = 17)) ∨ (a = 209 ∧ (k = 74 ∨ k = 75)) ∨ a = 262) : Act L a k := by
  rcases h with h | h | h | h
  · exact Or.inr (Or.inr (Or.inr (Or.inl h)))
  · exact Or.inr (Or.inr (Or.inl h))
  · exact Or.inr (Or.inr (Or.inr (Or.inr (Or.inl h))))
  · exact Or.inr (Or.inr (Or.inr (Or.inr (Or.inr (Or.inl h)))))
/-- both have kept what was now, and changed only what is now since -/
theorem keep_all {n : Nat} {s s1 s2 t1 t : zS} {B C : Nat → Int → Prop} (hR : R n s)
    (h1 : s1.1 0 17 = (if s.1 0 17 < 20 then s.1 0 17 + 1 else s.1 0 17) ∧ s1.1 0 16 = (if s.1 0 17 < 20 then s.1 0 16 else (s.1 0 16 + 1) % 20) ∧ sRel s1.1 (89 + 6 * ((s.1 0 16 + s.1 0 17) % 20).toNat) (fun i => s.1 254 i) ∧ Fr (fun a q => (89 + 6 * ((s.1 0 16 + s.1 0 17) % 20).toNat ≤ a ∧ a ≤ 94 + 6 * ((s.1 0 16 + s.1 0 17) % 20).toNat) ∨ (a = 0 ∧ (q = 16 ∨ q = 17))) s s1)
    (h2 : FrJ B s1 s2) (hB : ∀ a k, B a k → (28 ≤ a ∧ a ≤ 33) ∨ a = 11 ∨ (13 ≤ a ∧ a ≤ 19) ∨ (34 ≤ a ∧ a ≤ 39) ∨ a = s.2.2 1 + 19 ∨ a = s.2.2 1 + 22 ∨ (a = 0 ∧ k = 18))
    (h3 : t1.1 209 75 = (s2.1 209 75 + 1) % 20 ∧ t1.1 209 74 = (if s2.1 209 74 < 20 then s2.1 209 74 + 1 else s2.1 209 74) ∧ (∀ i, 0 ≤ i → i < 37 → t1.1 262 (37 * ((s2.1 209 75 + 1) % 20) + i) = s2.1 254 i) ∧ (∀ a q, ¬ (a = 262 ∧ 37 * ((s2.1 209 75 + 1) % 20) ≤ q ∧ q < 37 * ((s2.1 209 75 + 1) % 20) + 37) → ¬ (a = 209 ∧ (q = 74 ∨ q = 75)) → t1.1 a q = s2.1 a q) ∧ t1.2 = s2.2)
    (h4 : FrJ C t1 t) (hC : ∀ a k, C a k → a = 254 ∨ (a = 209 ∧ (k = 53 ∨ k = 58 ∨ k = 59 ∨ k = 60 ∨ k = 61 ∨ k = 62 ∨ k = 106 ∨ k = 76)) ∨ a = 287 ∨ a = 256) :
    rPast t.1 ∧ FrJ (fun a k => Act (s.2.2 1) a k ∨ (a = 0 ∧ k = 18) ∨ (a = 209 ∧ k = 76)) s t := by
  have hLL := R_LL hR
  obtain ⟨p1, p2, p3, p4⟩ := h1
  obtain ⟨r1, r2, r3, r4, r5⟩ := h3
  obtain ⟨q1, q2, q3, q4, q5, q6, q7, q8⟩ := R_past hR
  generalize hsl : (s.1 0 16 + s.1 0 17) % 20 = sl at *
  have sl0 : 0 ≤ sl ∧ sl < 20 := by omega
  have ref : ∀ a k, 209 ≤ a → s2.1 a k = s.1 a k := fun a k h => by
    rw [(h2.1 a k (fun z => by have := hB a k z; omega)).1, p4.1 a k (by omega)]
  rw [ref 209 75 (by omega)] at r1 r3 r4
  rw [ref 209 74 (by omega)] at r2
  have cls : ∀ a k, a < 209 → t.1 a k = s2.1 a k := fun a k h => by
    rw [(h4.1 a k (fun z => by have := hC a k z; omega)).1, r4 a k (by omega) (by omega)]
  have c1 : ∀ a k, a = 0 ∧ k ≠ 18 ∨ (89 ≤ a ∧ a ≤ 208) → t.1 a k = s1.1 a k := fun a k h => by
    rw [cls a k (by omega), (h2.1 a k (fun z => by have := hB a k z; omega)).1]
  have t209 : ∀ a k, 209 ≤ a → a ≠ 254 → a ≠ 287 → a ≠ 256 → ¬ (a = 209 ∧ (k = 53 ∨ k = 58 ∨ k = 59 ∨ k = 60 ∨ k = 61 ∨ k = 62 ∨ k = 106 ∨ k = 76)) → t.1 a k = t1.1 a k := fun a k x1 x2 x3 x4 x5 => (h4.1 a k (fun z => by have := hC a k z; omega)).1
  refine ⟨?_, ?_, ?_⟩
  · refine past_keep (f := s.1) (R_cnt hR) (fun k => ?_) (R_past hR) (R_now hR).2 ?_ ?_ ?_ ?_ ?_ ?_ ?_ ?_
    · rw [t209 242 k (by omega) (by omega) (by omega) (by omega) (by omega), r4 242 k (by omega) (by omega)]; exact ref 242 k (by omega)
    · rw [c1 0 17 (by omega)]; exact p1
    · rw [c1 0 16 (by omega)]; exact p2
    · rw [hsl]
      have hc := R_cnt hR
      obtain ⟨_, _, _, _, a5, _, a7, a8, a9, _⟩ := hc
      have h28 := R_28 hR
      have e242 : ∀ k, s1.1 242 k = s.1 242 k := fun k => p4.1 242 k (by omega)
      refine sRel_eq (f := s1.1) ?_ ?_ (fun a k y1 y2 => c1 a k (by omega)) (fun i _ _ => rfl) (by rw [e242]; exact a5) (by rw [e242]; exact a8) (by show s.1 254 28 ≤ 8; omega) p3
      · rw [t209 242 5 (by omega) (by omega) (by omega) (by omega) (by omega), r4 242 5 (by omega) (by omega), ref 242 5 (by omega), e242]
      · rw [t209 242 6 (by omega) (by omega) (by omega) (by omega) (by omega), r4 242 6 (by omega) (by omega), ref 242 6 (by omega), e242]
    · rw [hsl]
      intro a k y1 y2 y3
      rw [c1 a k (by omega)]; exact p4.1 a k (by omega)
    · rw [t209 209 75 (by omega) (by omega) (by omega) (by omega) (by omega)]; exact r1
    · rw [t209 209 74 (by omega) (by omega) (by omega) (by omega) (by omega)]; exact r2
    · intro i i0 i1
      rw [t209 262 _ (by omega) (by omega) (by omega) (by omega) (by omega), r3 i i0 i1]; exact ref 254 i (by omega)
    · intro q hq
      rw [t209 262 _ (by omega) (by omega) (by omega) (by omega) (by omega), r4 262 q (by omega) (by omega)]; exact ref 262 q (by omega)
  · intro a k hn
    have x1 := h4.1 a k (fun z => hn (actC (hC a k z)))
    have x2 := r4 a k (fun z => hn (Or.inl (actK (Or.inr (Or.inr (Or.inr z.1)))))) (fun z => hn (Or.inl (actK (Or.inr (Or.inr (Or.inl z))))))
    have x3 := h2.1 a k (fun z => hn (actB (hB a k z)))
    have x4 := p4.1 a k (fun z => hn (Or.inl (actK (by rcases z with z | z <;> omega))))
    exact ⟨by rw [x1.1, x2, x3.1, x4], by rw [x1.2, r5, x3.2, p4.2.1]⟩
  · rw [h4.2, r5, h2.2, p4.2.2]
section
variable {n : Nat} {s : zS} {x : Int}
/-- the reference's test, by its own cells -/
theorem e215m (b7 : 0 ≤ s.1 242 6) (b8 : s.1 242 6 ≤ 6) (hp : ∀ w, 0 ≤ w → w < s.1 242 6 → 0 ≤ s.1 254 (11 + 3 * w) ∧ s.1 254 (11 + 3 * w) ≤ 7) : m215 x s = some (if ((0 ≤ x ∧ x < s.1 242 6) ∧ s.1 254 (11 + 3 * x) = 0) ∧ 0 < s.1 254 28 then 1 else 0, s) := by
  unfold m215
  rw [e186 b7 b8, oC_some]
  by_cases c : 0 ≤ x ∧ x < s.1 242 6
  · have hw := hp x c.1 c.2
    rw [if_pos c, if_neg (by decide), e189 c.1 (by omega) (by omega) (by omega), oC_some]
    by_cases d : s.1 254 (11 + 3 * x) = 0
    · rw [if_pos (by omega), oX_pos (by omega) (by omega), oV_eq]
      by_cases e : 0 < s.1 254 28
      · rw [if_pos e, if_pos ⟨⟨c, d⟩, e⟩]
      · rw [if_neg e, if_neg (fun z => e z.2)]
    · rw [if_neg (by omega), if_neg (fun z => d z.1.2)]
  · rw [if_neg c, if_pos rfl, if_neg (fun z => c z.1.1)]
end
theorem t124 : T124 := by
  intro n s x hx hR hn
  obtain ⟨b1, b2, b3, b4, b5, b6, b7, b8, b9, b10⟩ := R_cnt hR
  have hLL := R_LL hR
  have h28 := R_28 hR
  have h285 := R_285 hR
  have h287 := R_287 hR
  have hp := R_hp hR
  obtain ⟨q1, q2, q3, q4, q5, q6, q7, q8⟩ := R_past hR
  by_cases c : ((0 ≤ x ∧ x < s.1 242 6) ∧ s.1 254 (11 + 3 * x) = 0) ∧ 0 < s.1 254 28
  · unfold Two m124
    refine k_e (e137 hR) ?_
    rw [if_pos c.1]
    refine k_q (by decide) (k_v (k_q (by omega) (k_c (p145 hR) ?_)))
    intro _ s1 h1
    have f1 := h1.2.2.2
    generalize hsl : (s.1 0 16 + s.1 0 17) % 20 = sl at f1
    have sl0 : 0 ≤ sl ∧ sl < 20 := by omega
    have e1 : ∀ a k, a ≠ 0 → ¬ (89 ≤ a ∧ a ≤ 208) → s1.1 a k = s.1 a k := fun a k z1 z2 => f1.1 a k (by omega)
    have hM1 : s1.2 = s.2 := Prod.ext f1.2.1 f1.2.2
    refine k_v (k_v ?_)
    rw [show s1.2.2 1 = s.2.2 1 by rw [hM1], e1 28 7 (by omega) (by omega), h287.1]
    have e242 : s1.1 242 = s.1 242 := funext fun k => e1 242 k (by omega) (by omega)
    have hL1 : rLand s1.1 s1.2.1 (s.2.2 1) := rLand_eq (fun a k z => e1 a k (by omega) (by omega)) (fun k => by rw [hM1]) (R_land hR)
    have hS1 : sRel s1.1 28 (fun i => s.1 254 i) := sRel_eq (by rw [e242]) (by rw [e242]) (fun a k z1 z2 => e1 a k (by omega) (by omega)) (fun _ _ _ => rfl) b5 b8 (by show s.1 254 28 ≤ 8; omega) (R_now hR).1
    have eq1 : eqL s.1 s1.1 := ⟨e242, funext fun k => e1 245 k (by omega) (by omega), funext fun k => e1 246 k (by omega) (by omega), funext fun k => e1 248 k (by omega) (by omega), funext fun k => e1 249 k (by omega) (by omega), funext fun k => e1 250 k (by omega) (by omega), funext fun k => e1 251 k (by omega) (by omega), funext fun k => e1 253 k (by omega) (by omega)⟩
    refine k_c (p62 (A := 28) (L := s.2.2 1) (w := x) (law := s.1 254 1) (N := fun i => s.1 254 i) (c := s.1 254 28) hL1 hS1 (by rw [e242]; exact (R_now hR).2) (by omega) c.1.1.1 (by rw [e242]; exact c.1.1.2) rfl (by omega)) ?_
    intro r s2 h2
    obtain ⟨g1, g2, g3⟩ := h2
    have etg : ∀ w p, tgt s1.1 w p = tgt s.1 w p := fun w p => by unfold tgt; rw [eq1.2.1, eq1.2.2.1]
    simp only [etg] at g1 g2
    generalize hk : chc (fun k => tgt s.1 x (s.1 254 (29 + k))) (s.1 254 1) (s.1 254 28) = kk at g1 g2
    refine k_r ?_
    have ref : ∀ a k, 209 ≤ a → s2.1 a k = s.1 a k := fun a k z => by rw [g3.1 a k (by omega)]; exact e1 a k (by omega) (by omega)
    have r242 : s2.1 242 = s.1 242 := funext fun k => ref 242 k (by omega)
    have r254 : s2.1 254 = s.1 254 := funext fun k => ref 254 k (by omega)
    unfold m241
    refine k_e (e215m (by rw [r242]; exact b7) (by rw [r242]; exact b8) (by rw [r242, r254]; exact hp)) ?_
    rw [r242, r254, if_pos c]
    refine k_q (by decide) (k_c (p239 (by rw [ref 209 75 (by omega)]; exact q6) (by rw [ref 209 75 (by omega)]; exact q7) (by rw [ref 209 74 (by omega)]; omega) (by rw [ref 209 74 (by omega)]; omega)) ?_)
    intro _ t1 h3
    have hr4 := h3.2.2.2.1
    have tref : ∀ a k, 242 ≤ a → a ≠ 262 → t1.1 a k = s.1 a k := fun a k z1 z2 => by rw [hr4 a k (by omega) (by omega)]; exact ref a k (by omega)
    have t254 : t1.1 254 = s.1 254 := funext fun k => tref 254 k (by omega) (by omega)
    have eqt : eqL s.1 t1.1 := ⟨funext fun k => tref 242 k (by omega) (by omega), funext fun k => tref 245 k (by omega) (by omega), funext fun k => tref 246 k (by omega) (by omega), funext fun k => tref 248 k (by omega) (by omega), funext fun k => tref 249 k (by omega) (by omega), funext fun k => tref 250 k (by omega) (by omega), funext fun k => tref 251 k (by omega) (by omega), funext fun k => tref 253 k (by omega) (by omega)⟩
    refine k_x (by omega) (by omega) (k_v ?_)
    refine k_c (p228 (w := x) (law := t1.1 254 1) (c := s.1 254 28) (mLand_eq eqt (R_ml hR)) (by rw [eqt.1, t254]; exact (R_now hR).2) c.1.1.1 (by rw [eqt.1]; exact c.1.1.2) (by rw [t254]) (by omega) (by rw [t254]; omega)) ?_
    intro r' t h4
    obtain ⟨y1, y2, y3⟩ := h4
    have etg' : ∀ w p, tgt t1.1 w p = tgt s.1 w p := fun w p => by unfold tgt; rw [eqt.2.1, eqt.2.2.1]
    simp only [etg', t254, hk] at y1 y2
    refine k_r ⟨by rw [g1, y1], ?_⟩
    have ka := keep_all hR h1 (frj_of g3) (fun a k z => by omega) h3 (frj_of y3) (fun a k z => Or.inl z)
    refine R_act hR ⟨fun a k z => ?_, ka.2.2⟩ ?_ ka.1
    · by_cases e0 : (a = 0 ∧ k = 18) ∨ (a = 209 ∧ k = 76)
      · have z1 := y3.1 a k (by omega)
        have z2 := hr4 a k (by omega) (by omega)
        have z3 := g3.1 a k (by omega)
        refine ⟨by rw [z1, z2, z3, f1.1 a k (by omega)], by rw [y3.2.1, h3.2.2.2.2, g3.2.1, hM1]⟩
      · exact ka.2.1 a k (fun w => w.elim z e0)
    · have tc : ∀ a k, a < 209 → t.1 a k = s2.1 a k := fun a k z => by rw [y3.1 a k (by omega), hr4 a k (by omega) (by omega)]
      have tt : ∀ k, t.1 242 k = s.1 242 k := fun k => by rw [y3.1 242 k (by omega)]; exact tref 242 k (by omega) (by omega)
      have hin := chc_in (g := fun k => tgt s.1 x (s.1 254 (29 + k))) (law := s.1 254 1) (c := s.1 254 28) (by omega)
      rw [hk] at hin
      have x28 : exN (fun i => s.1 254 i) x kk (s.1 254 28) 1 28 = s.1 254 28 := exN_0 c.1.1.1 (by omega) (by omega)
      refine ⟨sRel_eq (f := s2.1) (by rw [tt, r242]) (by rw [tt, r242]) (fun a k z1 z2 => tc a k (by omega)) y2 (by rw [r242]; exact b5) (by rw [r242]; exact b8) (by rw [x28]; omega) g2, ?_⟩
      rw [tt, tt, tt]
      refine nInv_eq b5 b7 b8 y2 (nInv_ex b5 b8 c.1.1.1 c.1.1.2 h28 hin.1 (Or.inl hin.2) (by omega) ?_ (R_now hR).2)
      have := (R_ml hR).2.2.1 x c.1.1.1 c.1.1.2
      omega
  · refine two_ref (j := 2) (r := -1) hR hn (by omega) (by omega) ?_ (fun u hu h1 h2 => ?_)
    · unfold m124
      rw [e137 hR, oC_some]
      by_cases c1 : (0 ≤ x ∧ x < s.1 242 6) ∧ s.1 254 (11 + 3 * x) = 0
      · rw [if_pos c1, if_neg (by decide), oV_eq, if_pos (by have : ¬ 0 < s.1 254 28 := fun z => c ⟨c1, z⟩; omega), e136 hR hn (by omega) (by omega), oC_some]
      · rw [if_neg c1, if_pos rfl, e136 hR hn (by omega) (by omega), oC_some]
    · have u242 : u.1 242 = s.1 242 := funext fun k => hu 242 k (by omega)
      have u254 : u.1 254 = s.1 254 := funext fun k => hu 254 k (by omega)
      unfold m241
      rw [e215m (by rw [u242]; exact b7) (by rw [u242]; exact b8) (by rw [u242, u254]; exact hp), oC_some, u242, u254, if_neg c, if_pos rfl, e232 h1 h2 (by omega) (by omega), oC_some]
