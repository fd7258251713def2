/-! ===== land ===== -/
section
variable {g : Int → Int} {e : Int} {s s0 u : zS} {P : Int → zS → Prop}
theorem p177_65 (ht : tOk g e) (hK : ∀ t, (∀ k, 0 ≤ k → k < 49 → t.1 244 k = 0) → (t.1 249 0 = -1 ∧ t.1 249 1 = -1 ∧ t.1 248 0 = 0 ∧ t.1 248 1 = 3 ∧ t.1 248 2 = 0) → Fr (fun a k => (a = 244 ∧ k < 49) ∨ (a = 249 ∧ k < 2) ∨ (a = 248 ∧ k < 3)) s0 t → Ok (m177_119 zFu t) P) : ∀ (n j : Nat) (x : Int) (s : zS), x = 49 - (j : Int) → 0 ≤ x → j < n → (∀ k, 0 ≤ k → k < x → s.1 244 k = 0) → Fr (fun a k => (a = 244 ∧ k < 49) ∨ (a = 249 ∧ k < 2) ∨ (a = 248 ∧ k < 3)) s0 s → Ok (m177_65 n x s) P := by
  intro n
  induction n with
  | zero => intro j x s _ _ h; omega
  | succ n ih =>
    intro j x s hx x0 hj hs hf
    rw [m177_65]
    cases j with
    | zero =>
      refine k_q (by omega) (k_x (by omega) (by omega) (k_v (k_x (by omega) (by omega) (k_v (k_x (by omega) (by omega) (k_v (k_x (by omega) (by omega) (k_v (k_x (by omega) (by omega) (k_v (hK _ (fun k k0 k1 => ?_) ⟨?_, ?_, ?_, ?_, ?_⟩ ?_)))))))))))
      · rw [sI_a (by decide), sI_a (by decide), sI_a (by decide), sI_a (by decide), sI_a (by decide)]; exact hs k k0 (by omega)
      · rw [sI_a (by decide), sI_a (by decide), sI_a (by decide), sI_k (by decide), sI_e]
      · rw [sI_a (by decide), sI_a (by decide), sI_a (by decide), sI_e]
      · rw [sI_k (by decide), sI_k (by decide), sI_e]
      · rw [sI_k (by decide), sI_e]
      · rw [sI_e]
      · exact fr_trans hf (fr_trans (fr_I (by omega)) (fr_trans (fr_I (by omega)) (fr_trans (fr_I (by omega)) (fr_trans (fr_I (by omega)) (fr_I (by omega))))))
    | succ j =>
      refine k_p (by omega) (k_x (by omega) (by omega) (k_v (k_z (by omega) (by omega) ?_)))
      refine ih j (x + 1) _ (by omega) (by omega) (by omega) (fun k k0 k1 => ?_) (fr_trans hf (fr_I (by omega)))
      by_cases z : k = x
      · rw [z, sI_e]
      · rw [sI_k z]; exact hs k k0 (by omega)
theorem p177_45 (hK : ∀ t, (∀ k, 0 ≤ k → k < 4 → t.1 242 k = 0) → Fr (fun a k => a = 242 ∧ k < 4) s0 t → Ok (m177_65 zFu 0 t) P) : ∀ (n j : Nat) (x : Int) (s : zS), x = 4 - (j : Int) → 0 ≤ x → j < n → (∀ k, 0 ≤ k → k < x → s.1 242 k = 0) → Fr (fun a k => a = 242 ∧ k < 4) s0 s → Ok (m177_45 n x s) P := by
  intro n
  induction n with
  | zero => intro j x s _ _ h; omega
  | succ n ih =>
    intro j x s hx x0 hj hs hf
    rw [m177_45]
    cases j with
    | zero => exact k_q (by omega) (hK s (fun k k0 k1 => hs k k0 (by omega)) hf)
    | succ j =>
      refine k_p (by omega) (k_x (by omega) (by omega) (k_v (k_z (by omega) (by omega) ?_)))
      refine ih j (x + 1) _ (by omega) (by omega) (by omega) (fun k k0 k1 => ?_) (fr_trans hf (fr_I (by omega)))
      by_cases z : k = x
      · rw [z, sI_e]
      · rw [sI_k z]; exact hs k k0 (by omega)
abbrev l0F (a : Nat) (k : Int) : Prop := a = 209 ∧ ((1 ≤ k ∧ k ≤ 6) ∨ k = 51 ∨ k = 52)
/-- the reference tells a land -/
theorem p177 (ht : tOk g e) (h1 : s.1 209 1 = e) (h210 : ∀ k, 0 ≤ k → k < 1600 → s.1 210 k = g k) (hw : ∀ q, q ∈ wTab → rWd s q.1 q.2) (hP : ∀ u t, Fr l0F s u → u.1 209 1 = 0 → rTl g e u (dLoop g e 80 dNil (lxS g e 4 0) (-1)) t → Ok (m177_141 t) P) : Ok (m177 s) P := by
  unfold m177
  refine k_v (k_v (k_v (k_v (k_v (k_v (k_v (k_v (k_v ?_))))))))
  rw [h1]
  generalize hu : sI (sI (sI (sI (sI (sI (sI (sI s 209 3 e) 209 1 0) 209 2 0) 209 4 (-1)) 209 5 0) 209 6 (-1)) 209 52 0) 209 51 0 = u
  have fu : Fr l0F s u := by
    rw [← hu]
    exact fr_trans (fr_I (by omega)) (fr_trans (fr_I (by omega)) (fr_trans (fr_I (by omega)) (fr_trans (fr_I (by omega)) (fr_trans (fr_I (by omega)) (fr_trans (fr_I (by omega)) (fr_trans (fr_I (by omega)) (fr_I (by omega))))))))
  have e1 : u.1 209 1 = 0 := by rw [← hu]; simp [sI_if]
  have e2 : u.1 209 2 = 0 := by rw [← hu]; simp [sI_if]
  have e3 : u.1 209 3 = e := by rw [← hu]; simp [sI_if]
  have e4 : u.1 209 4 = -1 := by rw [← hu]; simp [sI_if]
  have e5 : u.1 209 5 = 0 := by rw [← hu]; simp [sI_if]
  have e6 : u.1 209 6 = -1 := by rw [← hu]; simp [sI_if]
  have e51 : u.1 209 51 = 0 := by rw [← hu]; simp [sI_if]
  have e52 : u.1 209 52 = 0 := by rw [← hu]; simp [sI_if]
  have hp := lxS_p (g := g) (k := 4) (p := 0) ht.1
  have hPu := fun t => hP u t fu e1
  generalize lxS g e 4 0 = F0 at *
  have hW0 : lxW g e F0 (-1) := ⟨hp.1, hp.2.1, by have := hp.1; omega, hp.2.2.2⟩
  refine p177_45 (s0 := u) (fun t t1 t2 => ?_) zFu 4 0 u (by omega) (by omega) (by unfold zFu; omega) (fun k k0 k1 => by omega) fr_refl
  refine p177_65 (s0 := t) ht (fun v v1 v2 v3 => ?_) zFu 49 0 t (by omega) (by omega) (by unfold zFu; omega) (fun k k0 k1 => by omega) fr_refl
  have f9 : ∀ a k, a < 242 → v.1 a k = u.1 a k := fun a k h => by rw [v3.1 a k (by omega), t2.1 a k (by omega)]
  have g0 : gS g e dNil F0 (-1) u v := by
    refine ⟨⟨hW0, ⟨⟨by rw [f9 209 3 (by omega)]; exact e3, fun k k0 k1 => by rw [f9 210 k (by omega), fu.1 210 k (by omega)]; exact h210 k k0 k1⟩, by rw [f9 209 5 (by omega)]; exact e5, by rw [f9 209 2 (by omega), e2]; omega, by rw [f9 209 2 (by omega), e2]; exact hp, by rw [f9 209 4 (by omega)]; exact e4⟩, fun q hq i hi => ?_, by rw [f9 209 6 (by omega)]; exact e6⟩, ?_, ?_⟩
    · have := wTab_at q hq
      rw [v3.1 q.1 _ (by omega), t2.1 q.1 _ (by omega), fu.1 q.1 _ (by omega)]
      exact hw q hq i hi
    · have z : ∀ r k, r ≠ 6 → dNil.1 r k = 0 := fun r k h => if_neg (fun y => h y.1)
      refine ⟨⟨fun k k0 k1 => ?_, fun d i d0 d3 i0 i1 => ?_⟩, fun k k0 k1 => ?_, fun p p0 p1 => ?_, fun w w0 w1 => ?_, ⟨v2.2.2.1, v2.2.2.2.1, v2.2.2.2.2⟩, ⟨Or.inl ⟨rfl, v2.1⟩, Or.inl ⟨rfl, v2.2.1⟩⟩, by rw [f9 209 51 (by omega)]; exact e51, by rw [f9 209 52 (by omega)]; exact e52⟩
      · rw [z 0 k (by decide), v3.1 242 k (by omega)]; exact t1 k k0 k1
      · rw [z 0 d (by decide)] at i1; omega
      · rw [z 2 k (by decide)]; exact v1 k k0 k1
      · rw [z 0 1 (by decide)] at p1; omega
      · rw [z 0 2 (by decide)] at w1; omega
    · refine frj_trans (frj_of (fr_mono (fun a k z => ?_) t2)) (frj_of (fr_mono (fun a k z => ?_) v3))
      · rw [z.1]; exact (rlF_c z.2).2.2
      · rcases z with z | z | z
        · rw [z.1]; exact (rlF_r z.2).2.2
        · rw [z.1]; unfold rlF; simp [z.2]
        · rw [z.1]; exact (rlF_s z.2).2.2
  exact p177_119 ht zFu 80 dNil F0 (-1) v (by decide) (by unfold zFu; omega) ⟨dInv_nil, by decide, by decide⟩ (by show (0 : Int) ≤ F0; exact hp.1) g0 hPu
end
theorem rlF_out {a : Nat} {k : Int} (h : rlF a k) : (a = 209 ∧ ((1 ≤ k ∧ k ≤ 8) ∨ k = 40 ∨ (51 ≤ k ∧ k ≤ 53) ∨ k = 67 ∨ k = 74 ∨ k = 100 ∨ (102 ≤ k ∧ k ≤ 104))) ∨ (242 ≤ a ∧ a ≤ 254) ∨ a = 285 ∨ a = 286 := by
  rcases h with ⟨h1, h2⟩ | h | h | h | h | h | h | h | h | h | h | h | h
  · refine Or.inl ⟨h1, ?_⟩
    rcases h2 with rfl | rfl | rfl | rfl | rfl | rfl | rfl | rfl | rfl | rfl | rfl | rfl <;> decide
  · exact Or.inr (Or.inr (Or.inl h))
  · exact Or.inr (Or.inr (Or.inr h))
  · exact Or.inr (Or.inl (by omega))
  · exact Or.inr (Or.inl (by omega))
  · exact Or.inr (Or.inl (by omega))
  · exact Or.inr (Or.inl (by omega))
  · exact Or.inr (Or.inl (by omega))
  · exact Or.inr (Or.inl (by omega))
  · exact Or.inr (Or.inl (by omega))
  · exact Or.inr (Or.inl (by omega))
  · exact Or.inr (Or.inl (by omega))
  · exact Or.inr (Or.inl (by omega))
theorem t103 : T103 := by
  intro n s hR hn
  have hT := R_tape hR
  have hRf := R_refs hR
  have hMo := R_most hR
  have h41 := R_refu hR 1 (by omega) (by omega)
  have ht : tOk (s.1 2) (s.1 1 2) := ⟨hT.2.1, hT.2.2.1, fun k k0 k1 => (hT.2.2.2.1 k k0 k1).2⟩
  have hs : cTp (s.1 2) (s.1 1 2) s := ⟨rfl, fun k _ _ => rfl, (R_words hR).1⟩
  have hLL : (s.2.2 1 = 43 ∧ s.2.2 2 = 66) ∨ (s.2.2 1 = 66 ∧ s.2.2 2 = 43) := hRf.1
  generalize hL : s.2.2 2 = L at *
  have hL2 : L = 43 ∨ L = 66 := by omega
  have hc : s.1 (L + 1) 1 = 7 ∧ s.1 (L + 3) 1 = 8 ∧ s.1 (L + 5) 1 = 6 := by
    obtain ⟨m1, m2, m3, m4, m5, m6⟩ := hMo
    rcases hL2 with rfl | rfl
    · exact ⟨m1, m2, m3⟩
    · exact ⟨m4, m5, m6⟩
  refine k_m (p103 (L := L) (L' := s.2.2 1) ht hL2 hL rfl hs hc (by omega)) ?_
  intro r t hr
  -- the reference's tape
  have ref : ∀ {P : Int → zS → Prop}, (∀ a k, 209 ≤ a → t.1 a k = s.1 a k) → (∀ u v, Fr l0F t u → u.1 209 1 = 0 → rTl (s.1 2) (s.1 1 2) u (dLoop (s.1 2) (s.1 1 2) 80 dNil (lxS (s.1 2) (s.1 1 2) 4 0) (-1)) v → Ok (m177_141 v) P) → Ok (m177 t) P := fun hf hP => p177 ht (by rw [hf 209 1 (by omega)]; exact hT.1.symm) (fun k k0 k1 => by rw [hf 210 k (by omega)]; exact (hT.2.2.2.1 k k0 k1).1.symm) (fun q hq i hi => by have := wTab_at q hq; rw [hf q.1 _ (by omega)]; exact (R_words hR).2 q hq i hi) hP
  rcases hz : dLoop (s.1 2) (s.1 1 2) 80 dNil (lxS (s.1 2) (s.1 1 2) 4 0) (-1) with q | q
  · rw [hz] at hr ref
    obtain ⟨rfl, ⟨t2, t5, t6⟩, t41, tf⟩ := hr
    refine ref (fun a k h => tf.1 a k (by omega)) (fun u v fu u1 hv => ?_)
    have hv : bT u q v := hv
    obtain ⟨b1, b5, b6, bf⟩ := hv
    have nrl : ∀ a k, (a < 209 ∨ a = 210 ∨ a = 211 ∨ (a = 209 ∧ (k = 1 ∨ k = 7 ∨ k = 8))) → ¬ rlF a k := fun a k h z => by unfold rlF at z; omega
    have v211 : v.1 211 1 = s.1 211 1 := by rw [(bf.1 211 1 (nrl _ _ (by omega))).1, fu.1 211 1 (by omega), tf.1 211 1 (by omega)]
    unfold m177_141
    refine k_v (k_v (k_v (k_v (k_v ?_))))
    rw [sI_k (show (6 : Int) ≠ 7 by decide), sI_k (show (5 : Int) ≠ 8 by decide), sI_k (show (5 : Int) ≠ 7 by decide), b5, b6]
    refine k_q b1 (k_x (by omega) (by omega) (k_v ?_))
    rw [sI_a (by decide), sI_a (by decide), v211]
    refine k_z (by omega) (by omega) (k_x (by omega) (by omega) (k_v (k_r ⟨rfl, ?_⟩)))
    have zc : ∀ a k, ¬ (a = 209 ∧ (k = 7 ∨ k = 8)) → ¬ (a = 211 ∧ k = 1) → (sI (sI (sI v 209 7 q.1) 209 8 q.2) 211 1 (s.1 211 1 + 1)).1 a k = v.1 a k := fun a k h1 h2 => by rw [sI_if, if_neg h2, sI_if, if_neg (by omega), sI_if, if_neg (by omega)]
    have z7 : (sI (sI (sI v 209 7 q.1) 209 8 q.2) 211 1 (s.1 211 1 + 1)).1 209 7 = q.1 := by rw [sI_a (by decide), sI_k (by decide), sI_e]
    have z8 : (sI (sI (sI v 209 7 q.1) 209 8 q.2) 211 1 (s.1 211 1 + 1)).1 209 8 = q.2 := by rw [sI_a (by decide), sI_e]
    have z11 : (sI (sI (sI v 209 7 q.1) 209 8 q.2) 211 1 (s.1 211 1 + 1)).1 211 1 = s.1 211 1 + 1 := sI_e
    have zj : (sI (sI (sI v 209 7 q.1) 209 8 q.2) 211 1 (s.1 211 1 + 1)).2 = v.2 := rfl
    generalize sI (sI (sI v 209 7 q.1) 209 8 q.2) 211 1 (s.1 211 1 + 1) = z at *
    have zlow : ∀ a k, a < 209 ∨ a = 210 → z.1 a k = t.1 a k := fun a k h => by rw [zc a k (by omega) (by omega), (bf.1 a k (nrl _ _ (by omega))).1, fu.1 a k (by omega)]
    refine R_bad hR hL (fun a k h => ⟨?_, ?_⟩) (fun q hq => ?_) ?_ (by rw [zlow 41 1 (by omega)]; exact t41) z11
    · have h1 : ¬ rlF a k := fun y => h (Or.inr (Or.inr (Or.inr (Or.inr (Or.inl y)))))
      have h2 : ¬ (a = 209 ∧ (k = 2 ∨ k = 4 ∨ k = 5 ∨ k = 6 ∨ k = 51 ∨ k = 52)) := fun y => h1 (Or.inl ⟨y.1, by omega⟩)
      have h3 : ¬ (clG L a k ∨ (a = 1 ∧ k = 2) ∨ (a = 41 ∧ k = 1)) := fun y => h (by rcases y with y | y | y; exact Or.inl y; exact Or.inr (Or.inl y); exact Or.inr (Or.inr (Or.inl y)))
      have h4 : ¬ (a = 211 ∧ k = 1) := fun y => h (Or.inr (Or.inr (Or.inr (Or.inl y))))
      have h5 : ¬ (a = 209 ∧ (k = 1 ∨ k = 3 ∨ k = 7 ∨ k = 8)) := fun y => h (Or.inr (Or.inr (Or.inr (Or.inr (Or.inr y)))))
      clear h
      rw [zc a k (by omega) h4, (bf.1 a k h1).1, fu.1 a k (by omega)]
      exact tf.1 a k h3
    · have h1 : ¬ rlF a k := fun y => h (Or.inr (Or.inr (Or.inr (Or.inr (Or.inl y)))))
      rw [zj, (bf.1 a k h1).2, fu.2.1, tf.2.1]
    · rw [zj, bf.2, fu.2.2, tf.2.2 q (by omega)]
    · refine ⟨?_, ?_, ?_, fun k k0 k1 => ?_, ?_, ?_⟩
      · rw [zlow 1 2 (by omega), t2, zc 209 1 (by omega) (by omega), (bf.1 209 1 (nrl _ _ (by omega))).1, u1]
      · rw [zlow 1 2 (by omega), t2]; omega
      · rw [zlow 1 2 (by omega), t2]; omega
      · rw [zlow 2 k (by omega), zlow 210 k (by omega), tf.1 2 k (by omega), tf.1 210 k (by omega)]
        exact hT.2.2.2.1 k k0 k1
      · rw [zlow 1 5 (by omega), t5, z7]
      · rw [zlow 1 6 (by omega), t6, z8]
  · rw [hz] at hr ref
    obtain ⟨rfl, hI, ⟨t2, t5, t6⟩, ⟨t24, t17⟩, tr, tj, tB, tW, tS, tf⟩ := hr
    refine ref (fun a k h => tf a k (by omega)) (fun u v fu u1 hv => ?_)
    have hv : gS (s.1 2) (s.1 1 2) q.1 q.2.1 q.2.2 u v ∧ dOk q.1 ∧ dLn q.1 ≤ q.2.1 := hv
    obtain ⟨gv, hO, hln⟩ := hv
    have hle := gv.1.1.2.1
    have hle2 := ht.2.1
    have bf := gv.2.2
    have nrl : ∀ a k, (a < 209 ∨ a = 210 ∨ a = 211 ∨ (a = 209 ∧ (k = 1 ∨ k = 7 ∨ k = 8))) → ¬ rlF a k := fun a k h z => by unfold rlF at z; omega
    unfold m177_141
    refine k_v (k_v (k_v (k_v (k_v ?_))))
    rw [sI_k (show (6 : Int) ≠ 7 by decide), sI_k (show (5 : Int) ≠ 8 by decide), sI_k (show (5 : Int) ≠ 7 by decide), gS_5 gv, gv.1.2.2.2]
    refine k_p rfl ?_
    have wc : ∀ a k, ¬ (a = 209 ∧ (k = 7 ∨ k = 8)) → (sI (sI v 209 7 0) 209 8 (-1)).1 a k = v.1 a k := fun a k h1 => by rw [sI_if, if_neg (by omega), sI_if, if_neg (by omega)]
    have w7 : (sI (sI v 209 7 0) 209 8 (-1)).1 209 7 = 0 := by rw [sI_k (by decide), sI_e]
    have w8 : (sI (sI v 209 7 0) 209 8 (-1)).1 209 8 = -1 := sI_e
    have wD : rD q.1 (sI (sI v 209 7 0) 209 8 (-1)) := rD_fr (A := fun a k => a = 209 ∧ (k = 7 ∨ k = 8)) (fun a k z => by omega) (frj_trans (frj_I (by omega)) (frj_I (by omega))) gv.2.1
    have wj : (sI (sI v 209 7 0) 209 8 (-1)).2 = v.2 := rfl
    generalize sI (sI v 209 7 0) 209 8 (-1) = w at *
    refine k_c (p178 wD hI (by omega)) ?_
    rintro _ z ⟨_, hz2⟩
    have fz := hz2.2.2.2.2.2.2.2.2.2
    refine k_v (k_r ⟨?_, ?_⟩)
    · rw [(fz.1 209 52 (by omega)).1, wD.2.2.2.2.2.2.2]
    have zlow : ∀ a k, a < 209 ∨ a = 210 ∨ a = 211 → z.1 a k = t.1 a k := fun a k h => by rw [(fz.1 a k (by omega)).1, wc a k (by omega), (bf.1 a k (nrl _ _ (by omega))).1, fu.1 a k (by omega)]
    have zr : z.2.2 = t.2.2 := by rw [fz.2, wj, bf.2, fu.2.2]
    refine R_nwl (D := q.1) (v := w) hR hL hI (by rw [zr]; exact tr) ?_ (by rw [zlow 24 0 (by omega)]; exact t24) (by rw [zlow 0 17 (by omega)]; exact t17) ?_ ?_ ?_ hz2 ?_ (fun a k h => ?_)
    · refine ⟨?_, ?_, ?_, fun k k0 k1 => ?_, ?_, ?_⟩
      · rw [zlow 1 2 (by omega), t2, (fz.1 209 1 (by omega)).1, wc 209 1 (by omega), (bf.1 209 1 (nrl _ _ (by omega))).1, u1]
      · rw [zlow 1 2 (by omega), t2]; omega
      · rw [zlow 1 2 (by omega), t2]; omega
      · rw [zlow 2 k (by omega), zlow 210 k (by omega), tf 2 k (by omega), tf 210 k (by omega)]
        exact hT.2.2.2.1 k k0 k1
      · rw [zlow 1 5 (by omega), t5, (fz.1 209 7 (by omega)).1, w7]
      · rw [zlow 1 6 (by omega), t6, (fz.1 209 8 (by omega)).1, w8]
    · obtain ⟨x, x1, x2⟩ := tB
      exact ⟨x, x1, fun a k h1 h2 h3 h4 => by rw [zlow a k (by omega)]; exact x2 a k h1 h2 h3 h4⟩
    · obtain ⟨a1, a2, a3, a4⟩ := tW
      exact ⟨cFd_fr a1 (fun a k y => zlow a k (by omega)), cFd_fr a2 (fun a k y => zlow a k (by omega)), fun a b a0 a1 b0 b1 => by rw [zlow _ _ (by omega)]; exact a3 a b a0 a1 b0 b1, fun a b a0 a1 b0 b1 => by rw [zlow _ _ (by omega)]; exact a4 a b a0 a1 b0 b1⟩
    · obtain ⟨a1, a2, a3, a4, a5, a6⟩ := tS
      refine ⟨by rw [zlow _ _ (by omega)]; exact a1, by rw [zlow _ _ (by omega)]; exact a2, fun i i0 i1 => ?_, by rw [zlow _ _ (by omega)]; exact a4, fun k k0 k1 => by rw [zlow _ _ (by omega)]; exact a5 k k0 k1, fun p p0 p1 => by rw [zlow _ _ (by omega)]; exact a6 p p0 p1⟩
      rw [zlow _ _ (by omega), zlow _ _ (by omega), zlow _ _ (by omega)]
      exact a3 i i0 i1
    · rw [(fz.1 209 76 (by omega)).2, wj, (bf.1 209 76 (fun z => by unfold rlF at z; omega)).2, fu.2.1, tj]
    · have h1 : ¬ rlF a k := fun y => h (Or.inr (Or.inr (Or.inr (Or.inr (Or.inr (rlF_out y))))))
      have n209 : ¬ (a = 209 ∧ ((1 ≤ k ∧ k ≤ 8) ∨ k = 40 ∨ (51 ≤ k ∧ k ≤ 53) ∨ k = 67 ∨ k = 74 ∨ k = 100 ∨ (102 ≤ k ∧ k ≤ 104))) := fun y => h (Or.inr (Or.inr (Or.inr (Or.inr (Or.inr (Or.inl y))))))
      have n242 : ¬ (242 ≤ a ∧ a ≤ 254) := fun y => h (Or.inr (Or.inr (Or.inr (Or.inr (Or.inr (Or.inr (Or.inl y)))))))
      have ntf : ¬ (clG L a k ∨ (a = 1 ∧ k = 2) ∨ (a = 24 ∧ k = 0) ∨ (a = 0 ∧ k = 17) ∨ (28 ≤ a ∧ a ≤ 33)) := fun y => h (by
        rcases y with y | y | y | y | y
        · exact Or.inl y
        · exact Or.inr (Or.inl y)
        · exact Or.inr (Or.inr (Or.inl y))
        · exact Or.inr (Or.inr (Or.inr (Or.inl y)))
        · exact Or.inr (Or.inr (Or.inr (Or.inr (Or.inl y)))))
      have x1 := fz.1 a k (fun y => y.elim (fun y => n209 ⟨y.1, by omega⟩) n242)
      have x2 := fu.1 a k (fun y => n209 ⟨y.1, by omega⟩)
      have x3 := wc a k (fun y => n209 ⟨y.1, by omega⟩)
      rw [x1.1, x3, (bf.1 a k h1).1, x2]
      exact tf a k ntf
