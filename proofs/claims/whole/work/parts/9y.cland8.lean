/-! ===== the class tells a land: from the start ===== -/
theorem dInv_nil : dInv dNil := by
  have z : ∀ r k, r ≠ 6 → dNil.1 r k = 0 := fun r k h => if_neg (fun y => h y.1)
  have z0 : dNil.1 6 0 = 0 := rfl
  have z1 : dNil.1 6 1 = 3 := rfl
  have z2 : dNil.1 6 2 = 0 := rfl
  refine ⟨?_, fun a b _ _ _ _ => ?_, fun p p0 p1 => ?_, fun w w0 w1 => ?_, fun v w v0 vw w1 => ?_, ?_, Or.inl rfl, Or.inl rfl⟩
  · rw [z 0 0 (by decide), z 0 1 (by decide), z 0 2 (by decide), z 0 3 (by decide)]; omega
  · rw [z 2 _ (by decide), z 2 _ (by decide)]; omega
  · rw [z 0 1 (by decide)] at p1; omega
  · rw [z 0 2 (by decide)] at w1; omega
  · rw [z 0 2 (by decide)] at w1; omega
  · rw [z0, z1, z2]; omega
section
variable {g : Int → Int} {e F E : Int} {L : Nat} {D D' : dL} {s s0 : zS} {v : Int}
theorem p39 (hc : s.1 (L + 1) 1 = 7 ∧ s.1 (L + 3) 1 = 8 ∧ s.1 (L + 5) 1 = 6) : Ok (m39 L s) (fun _ t => cD L dNil t ∧ Fr (fun a k => L ≤ a ∧ a ≤ L + 22 ∧ ¬ (k = 1 ∧ (a = L + 1 ∨ a = L + 3 ∨ a = L + 5))) s t) := by
  unfold m39
  refine k_v (k_v (k_v (k_v (k_v (k_v (k_v (k_v (k_v (k_v ?_)))))))))
  generalize hu : sI (sI (sI (sI (sI (sI (sI (sI (sI (sI s (L + 1) 0 0) (L + 3) 0 0) (L + 5) 0 0) (L + 17) 2 0) (L + 20) 2 0) L 15 0) L 16 0) L 17 0) L 18 3) L 19 0 = u
  have fu : Fr (fun a k => (a = L + 1 ∧ k = 0) ∨ (a = L + 3 ∧ k = 0) ∨ (a = L + 5 ∧ k = 0) ∨ (a = L + 17 ∧ k = 2) ∨ (a = L + 20 ∧ k = 2) ∨ (a = L ∧ 15 ≤ k ∧ k ≤ 19)) s u := by
    rw [← hu]
    exact fr_trans (fr_I (by omega)) (fr_trans (fr_I (by omega)) (fr_trans (fr_I (by omega)) (fr_trans (fr_I (by omega)) (fr_trans (fr_I (by omega)) (fr_trans (fr_I (by omega)) (fr_trans (fr_I (by omega)) (fr_trans (fr_I (by omega)) (fr_trans (fr_I (by omega)) (fr_I (by omega))))))))))
  have u19 : u.1 L 19 = 0 := by rw [← hu, sI_e]
  have u18 : u.1 L 18 = 3 := by rw [← hu, sI_k (by decide), sI_e]
  have u17 : u.1 L 17 = 0 := by rw [← hu, sI_k (by decide), sI_k (by decide), sI_e]
  have u16 : u.1 L 16 = 0 := by rw [← hu, sI_k (by decide), sI_k (by decide), sI_k (by decide), sI_e]
  have u15 : u.1 L 15 = 0 := by rw [← hu, sI_k (by decide), sI_k (by decide), sI_k (by decide), sI_k (by decide), sI_e]
  have u20 : u.1 (L + 20) 2 = 0 := by rw [← hu, sI_a (by omega), sI_a (by omega), sI_a (by omega), sI_a (by omega), sI_a (by omega), sI_e]
  have u17' : u.1 (L + 17) 2 = 0 := by rw [← hu, sI_a (by omega), sI_a (by omega), sI_a (by omega), sI_a (by omega), sI_a (by omega), sI_a (by omega), sI_e]
  have u5 : u.1 (L + 5) 0 = 0 := by rw [← hu, sI_a (by omega), sI_a (by omega), sI_a (by omega), sI_a (by omega), sI_a (by omega), sI_a (by omega), sI_a (by omega), sI_e]
  have u3 : u.1 (L + 3) 0 = 0 := by rw [← hu, sI_a (by omega), sI_a (by omega), sI_a (by omega), sI_a (by omega), sI_a (by omega), sI_a (by omega), sI_a (by omega), sI_a (by omega), sI_e]
  have u1 : u.1 (L + 1) 0 = 0 := by rw [← hu, sI_a (by omega), sI_a (by omega), sI_a (by omega), sI_a (by omega), sI_a (by omega), sI_a (by omega), sI_a (by omega), sI_a (by omega), sI_a (by omega), sI_e]
  refine k_c (p293m (m := 49) (a := L + 7) (v := 1000) (s := u) (by omega)) ?_
  rintro _ t ⟨t1, t2⟩
  have ro : ∀ a k, a ≠ L + 7 → t.1 a k = u.1 a k := fun a k h => t2.1 a k (fun z => h z.1)
  have z : ∀ r k, r ≠ 6 → dNil.1 r k = 0 := fun r k h => if_neg (fun y => h y.1)
  refine k_r ⟨⟨⟨⟨?_, ?_, ?_, ?_, ?_⟩, ?_, ?_, ?_⟩, ⟨fun w w0 w1 => ?_, fun w w0 w1 => ?_, fun w w0 w1 => ?_⟩, fun a b a0 a1 b0 b1 => ?_, fun j j0 j1 => ?_, fun w w0 w1 => ?_, ⟨?_, ?_, ?_⟩, ⟨?_, fun i hi => absurd hi (by show ¬ i < 0; omega)⟩, ⟨?_, fun i hi => absurd hi (by show ¬ i < 0; omega)⟩⟩, fr_trans (fr_mono (fun a k z => by omega) fu) (fr_mono (fun a k z => by omega) t2)⟩
  · rw [ro _ _ (by omega), z 0 0 (by decide)]; exact u1
  · rw [ro _ _ (by omega), z 0 1 (by decide)]; exact u3
  · rw [ro _ _ (by omega), z 0 2 (by decide)]; exact u5
  · rw [ro _ _ (by omega), z 0 3 (by decide)]; exact u16
  · rw [ro _ _ (by omega)]; exact u15
  · rw [ro _ _ (by omega), fu.1 _ _ (by omega)]; exact hc.1
  · rw [ro _ _ (by omega), fu.1 _ _ (by omega)]; exact hc.2.1
  · rw [ro _ _ (by omega), fu.1 _ _ (by omega)]; exact hc.2.2
  · rw [z 0 0 (by decide)] at w1; omega
  · rw [z 0 1 (by decide)] at w1; omega
  · rw [z 0 2 (by decide)] at w1; omega
  · rw [z 2 _ (by decide), if_neg (by omega)]; exact t1 _ (by omega) (by omega)
  · rw [z 0 1 (by decide)] at j1; omega
  · rw [z 0 2 (by decide)] at w1; omega
  · rw [ro _ _ (by omega)]; exact u17
  · rw [ro _ _ (by omega)]; exact u18
  · rw [ro _ _ (by omega)]; exact u19
  · rw [ro _ _ (by omega)]; exact u17'
  · rw [ro _ _ (by omega)]; exact u20
/-- the whole telling -/
theorem p87 {P : dL → zS → Prop} (ht : tOk g e) (hL : L = 43 ∨ L = 66) (hs : cTp g e s) (hc : s.1 (L + 1) 1 = 7 ∧ s.1 (L + 3) 1 = 8 ∧ s.1 (L + 5) 1 = 6) (hm : ∀ v D F E u, v.1 1 5 = 0 → v.1 1 6 = -1 → FrK (clG L) s v → dInv D → lxW g e F E → dLn D ≤ F → 0 ≤ D.2.2.2 → D.2.2.2 ≤ 80 → cD L D u → FrK (clF L) v u → Ok (m44 L u) (fun _ t => P D t)) : Ok (m87 L s) (cTl L s P (dLoop g e 80 dNil (lxS g e 4 0) (-1))) := by
  unfold m87
  refine k_c (p39 hc) ?_
  rintro _ t ⟨t1, t2⟩
  refine k_c (p75 ht (cTp_fr (fun a k z => by omega) t2 hs)) ?_
  rintro _ v ⟨v1, v2, v5, v6, v3⟩
  have fv : FrK (clG L) s v := frk_of (fr_trans (fr_mono (fun a k z => by omega) t2) (fr_mono (fun a k z => by omega) v3))
  have dv : cD L dNil v := cDx_fr (fun a k a0 a1 a2 => v3.1 a k (by omega)) t1
  refine k_m (p87_13 (s0 := v) (P := P) ht hL (fun D F E u h1 h2 h3 h4 h5 h6 h7 => hm v D F E u v5 v6 fv h1 h2 h3 h4 h5 h6 h7) zFu 80 0 dNil _ _ v (by omega) (by unfold zFu; omega) (by decide) (by decide) dInv_nil (by show (0 : Int) ≤ _; exact v2.1) v2 v1 dv ⟨fun a k n => rfl, rfl, fun q n => rfl⟩) ?_
  intro r t hr
  rcases hz : dLoop g e 80 dNil (lxS g e 4 0) (-1) with q | q
  · rw [hz] at hr
    obtain ⟨r0, t5, t6, t3⟩ := hr
    exact ⟨r0, t5, t6, frk_trans fv t3⟩
  · rw [hz] at hr
    exact hr
end
