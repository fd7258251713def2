/-! ===== footprints: the reference's, the calls ===== -/
abbrev hFr (a : Nat) (k : Int) : Prop := uFr a k ∨ (a = 209 ∧ 70 ≤ k ∧ k ≤ 72) ∨ a = 261
theorem scr_h {L a : Nat} {k : Int} (h : hFr a k) : Scr L a k := by
  rcases h with h | h | h
  · rcases h with ⟨h, hk⟩ | h | h
    · exact Or.inr (Or.inr (Or.inr (Or.inr (Or.inr (Or.inr (Or.inr (Or.inr (Or.inl ⟨h, by omega⟩))))))))
    · exact Or.inr (Or.inr (Or.inr (Or.inr (Or.inr (Or.inr (Or.inr (Or.inr (Or.inr (Or.inr (Or.inr (by omega)))))))))))
    · exact Or.inr (Or.inr (Or.inr (Or.inr (Or.inr (Or.inr (Or.inr (Or.inr (Or.inr (Or.inl (by omega))))))))))
  · exact Or.inr (Or.inr (Or.inr (Or.inr (Or.inr (Or.inr (Or.inr (Or.inr (Or.inl ⟨h.1, by omega⟩))))))))
  · exact Or.inr (Or.inr (Or.inr (Or.inr (Or.inr (Or.inr (Or.inr (Or.inr (Or.inr (Or.inr (Or.inl h))))))))))
section
variable {s : zS} {x : Int × Int}
theorem e234 {f : Nat → Int → Int} (hr : s.1 209 67 = f 209 67) (h0 : 0 ≤ f 209 67) (h1 : f 209 67 ≤ 16) (h260 : ∀ k, s.1 260 k = f 260 k) (hrw : ∀ k, 0 ≤ k → k < f 209 67 → 0 ≤ f 260 (2 * k) ∧ f 260 (2 * k) ≤ 30) (hp : ∀ j : Nat, j ≤ 30 → s.1 256 (j : Int) = pth f x j) : ∀ (n j : Nat) (k : Int), k = f 209 67 - (j : Int) → 0 ≤ k → j < n → m234_2 n k s = some (if snB (fun i => pth f x i.toNat) (fun k => f 260 (2 * k)) (fun k => f 260 (2 * k + 1)) j k = true then 1 else 0, s) := by
  intro n
  induction n with
  | zero => intro j k _ _ h; omega
  | succ n ih =>
    intro j k hk k0 hj
    rw [m234_2, oV_eq, hr]
    cases j with
    | zero => rw [if_neg (by omega)]; rfl
    | succ j =>
      have q := hrw k k0 (by omega)
      have e13 : s.1 256 (f 260 (2 * k)) = pth f x (f 260 (2 * k)).toNat := by
        have := hp (f 260 (2 * k)).toNat (by omega)
        rw [show (((f 260 (2 * k)).toNat : Nat) : Int) = f 260 (2 * k) by omega] at this
        exact this
      rw [if_pos (by omega), oZ_pos (by omega) (by omega), oX_pos (by omega) (by omega), oV_eq, h260, oX_pos q.1 (by omega), oV_eq, oZ_pos (by omega) (by omega), oZ_pos (by omega) (by omega), oX_pos (by omega) (by omega), oV_eq, e13, h260]
      show _ = some (if (decide (pth f x (f 260 (2 * k)).toNat = f 260 (2 * k + 1)) && snB _ _ _ j (k + 1)) = true then 1 else 0, s)
      by_cases c : pth f x (f 260 (2 * k)).toNat = f 260 (2 * k + 1)
      · rw [if_pos c, oZ_pos (by omega) (by omega), ih j (k + 1) (by omega) (by omega) (by omega)]
        simp only [c, decide_true, Bool.true_and]
      · rw [if_neg c]
        simp only [c, decide_false, Bool.false_and, Bool.false_eq_true, if_false]
end
/-- what the reference has laid -/
def mGot (f : Nat → Int → Int) (l : List (Int × Int)) (s : zS) : Prop := s.1 209 70 = (l.length : Int) ∧ s.1 209 71 = mkW l ∧ s.1 209 72 = mkP l ∧ ∀ (i n : Nat) (x : Int × Int), l[i]? = some x → n ≤ 30 → s.1 261 (31 * (i : Int) + (n : Int)) = pth f x n
/-- a way is laid beside the others -/
theorem p235_54 {s0 : zS} {f : Nat → Int → Int} {w k : Int} {l : List (Int × Int)} {K : Int → Int → zS → Option (Int × zS)} {P : Int → zS → Prop} (hl : l.length < 48) (hk0 : 0 ≤ k) (hk1 : k < 8) (hp : ∀ j : Nat, j ≤ 30 → s0.1 256 (j : Int) = pth f (w, k) j) (hG : mGot f l s0) (hK : ∀ t, mGot f (l ++ [(w, k)]) t → Fr (fun a q => a = 261 ∨ (a = 209 ∧ 70 ≤ q ∧ q ≤ 72)) s0 t → Ok (K w (k + 1) t) P) : ∀ (n j : Nat) (s : zS), j ≤ 31 → 31 - j < n → (∀ m : Nat, m < j → s.1 261 (31 * (l.length : Int) + (m : Int)) = pth f (w, k) m) → (∀ q, q < 31 * (l.length : Int) → s.1 261 q = s0.1 261 q) → Fr (fun a _ => a = 261) s0 s → Ok (m235_54 K n w k (j : Int) s) P := by
  obtain ⟨g1, g2, g3, g4⟩ := hG
  intro n
  induction n with
  | zero => intro j s h1 h2; omega
  | succ n ih =>
    intro j s h1 h2 hlo hold hs
    have e70 : s.1 209 70 = (l.length : Int) := by rw [hs.1 209 70 (by omega)]; exact g1
    rw [m235_54]
    by_cases hj : j = 31
    · subst hj
      refine k_p (by omega) (k_v ?_)
      rw [e70]
      refine k_z (by omega) (by omega) (k_v (k_v (k_v (k_v (k_v (k_v (k_v (k_v (k_v ?_)))))))))
      rw [sI_k (by omega), hs.1 209 71 (by omega), g2, sI_k (by omega), sI_k (by omega), hs.1 209 72 (by omega), g3]
      refine k_z (by omega) (by omega) (hK _ ⟨?_, ?_, ?_, fun i m x hx hm => ?_⟩ (fr_trans (fr_mono (fun a q z => Or.inl z) hs) (fr_trans (fr_I (by omega)) (fr_trans (fr_I (by omega)) (fr_I (by omega))))))
      · rw [sI_k (by omega), sI_k (by omega), sI_e, List.length_append, List.length_singleton]; omega
      · rw [sI_k (by omega), sI_e, mkW_snoc]
      · rw [sI_e, mkP_snoc]
      · rw [sI_a (by omega), sI_a (by omega), sI_a (by omega)]
        by_cases e : i < l.length
        · rw [List.getElem?_append_left e] at hx
          rw [hold _ (by omega)]; exact g4 i m x hx hm
        · have hi : i < (l ++ [(w, k)]).length := (List.getElem?_eq_some_iff.mp hx).1
          rw [List.length_append, List.length_singleton] at hi
          have ei : i = l.length := by omega
          subst ei
          rw [List.getElem?_append_right (Nat.le_refl _), Nat.sub_self] at hx
          cases hx
          exact hlo m (by omega)
    · refine k_q (by omega) (k_v ?_)
      rw [e70]
      refine k_z (by omega) (by omega) (k_z (by omega) (by omega) (k_x (by omega) (by omega) (k_v (k_x (by omega) (by omega) (k_v (k_z (by omega) (by omega) ?_))))))
      refine ih (j + 1) _ (by omega) (by omega) (fun m m1 => ?_) (fun q q1 => ?_) (fr_trans hs (fr_I rfl))
      · by_cases e : m = j
        · subst e; rw [sI_e, hs.1 256 _ (by omega)]; exact hp m (by omega)
        · rw [sI_k (by omega)]; exact hlo m (by omega)
      · rw [sI_k (by omega)]; exact hold q q1
theorem p235_27 {n0 : Nat} {s0 : zS} {w : Int} {K : Int → zS → Option (Int × zS)} {P : Int → zS → Prop} (hR : R n0 s0) (w0 : 0 ≤ w) (w1 : w < s0.1 242 6) : ∀ (n j : Nat) (k : Int) (s : zS) (l : List (Int × Int)), k = s0.1 242 5 - (j : Int) → 0 ≤ k → j < n → (l.length : Int) ≤ 8 * w + k → mGot s0.1 l s → FrJ hFr s0 s → (∀ t, mGot s0.1 (l ++ fitP s0.1 w j k) t → FrJ hFr s0 t → Ok (K (w + 1) t) P) → Ok (m235_27 K n w k s) P := by
  obtain ⟨b1, b2, b3, b4, b5, b6, b7, b8, b9, b10⟩ := R_cnt hR
  obtain ⟨r1, r2, r3, r4⟩ := R_rows hR
  intro n
  induction n with
  | zero => intro j k s l _ _ h; omega
  | succ n ih =>
    intro j k s l hk k0 hj hlen hG hs hK
    have g : ∀ a q, a ≠ 209 → a ≠ 287 → a ≠ 256 → a ≠ 261 → s.1 a q = s0.1 a q := fun a q m1 m2 m3 m4 => (hs.1 a q (by omega)).1
    have eqs : eqL s0.1 s.1 := eqL_frj hs (fun a k q => by omega)
    have e254 : s.1 254 = s0.1 254 := funext fun q => g 254 q (by omega) (by omega) (by omega) (by omega)
    rw [m235_27]
    refine k_e e182 ?_
    rw [eqs.1]
    cases j with
    | zero =>
      have := hK s (by show mGot s0.1 (l ++ []) s; rw [List.append_nil]; exact hG) hs
      exact k_q (by omega) (k_z (by omega) (by omega) this)
    | succ j =>
      have k1 : k < s0.1 242 5 := by omega
      refine k_p k1 (k_c (p218 (mLand_eq eqs (R_ml hR)) (by rw [eqs.1, e254]; exact R_hh hR) (by rw [e254]; exact R_dd hR) w0 (by rw [eqs.1]; exact w1) k0 (by rw [eqs.1]; exact k1)) ?_)
      intro r u hu
      obtain ⟨u1, u2, u3⟩ := hu
      have fu : FrJ hFr s0 u := frj_trans hs (frj_mono (fun a q z => Or.inl z) u3)
      have hpu : ∀ i : Nat, i ≤ 30 → u.1 256 (i : Int) = pth s0.1 (w, k) i := fun i hi => by
        rw [u2 i hi, (trT_eq eqs i).1, eqs.2.2.1, e254]; rfl
      have hGu : mGot s0.1 l u := ⟨by rw [(u3.1 209 70 (by omega)).1]; exact hG.1, by rw [(u3.1 209 71 (by omega)).1]; exact hG.2.1, by rw [(u3.1 209 72 (by omega)).1]; exact hG.2.2.1, fun i m x hx hm => by rw [(u3.1 261 _ (by omega)).1]; exact hG.2.2.2 i m x hx hm⟩
      have e234' : m234 u = some (if fitB s0.1 (w, k) = true then 1 else 0, u) := by
        unfold m234 fitB
        refine e234 (f := s0.1) (x := (w, k)) (fu.1 209 67 (by omega)).1 (by omega) (by omega) (fun q => (fu.1 260 q (by omega)).1) (fun q q0 q1 => ?_) hpu zFu (s0.1 209 67).toNat 0 (by omega) (by omega) (by unfold zFu; omega)
        have := r4 q q0 (by omega)
        omega
      refine k_e e234' ?_
      by_cases c : fitB s0.1 (w, k) = true
      · rw [if_pos c]
        refine k_q (by decide) (p235_54 (s0 := u) (f := s0.1) (w := w) (k := k) (l := l) (by omega) k0 (by omega) hpu hGu (fun t h1 h2 => ?_) zFu 0 u (by omega) (by unfold zFu; omega) (fun m hm => by omega) (fun q _ => rfl) fr_refl)
        refine ih j (k + 1) t (l ++ [(w, k)]) (by omega) (by omega) (by omega) (by rw [List.length_append, List.length_singleton]; omega) h1 (frj_trans fu (frj_mono (fun a q z => by omega) (frj_of h2))) (fun t' h3 h4 => hK t' ?_ h4)
        show mGot s0.1 (l ++ ((if fitB s0.1 (w, k) = true then [(w, k)] else []) ++ fitP s0.1 w j (k + 1))) t'
        rw [if_pos c, ← List.append_assoc]; exact h3
      · rw [if_neg c]
        refine k_p rfl (k_z (by omega) (by omega) (ih j (k + 1) u l (by omega) (by omega) (by omega) (by omega) hGu fu (fun t' h3 h4 => hK t' ?_ h4)))
        show mGot s0.1 (l ++ ((if fitB s0.1 (w, k) = true then [(w, k)] else []) ++ fitP s0.1 w j (k + 1))) t'
        rw [if_neg c, List.nil_append]; exact h3
theorem fitP_len {f : Nat → Int → Int} {w : Int} : ∀ (j : Nat) (k : Int), (fitP f w j k).length ≤ j := by
  intro j
  induction j with
  | zero => intro k; exact Nat.le_refl 0
  | succ j ih =>
    intro k
    show ((if fitB f (w, k) = true then [(w, k)] else []) ++ fitP f w j (k + 1)).length ≤ j + 1
    rw [List.length_append]
    have := ih (k + 1)
    split
    · simp only [List.length_singleton]; omega
    · simp only [List.length_nil]; omega
theorem p235_17 {n0 : Nat} {s0 : zS} (hR : R n0 s0) : ∀ (n j : Nat) (w : Int) (s : zS) (l : List (Int × Int)), w = s0.1 242 6 - (j : Int) → 0 ≤ w → j < n → (l.length : Int) ≤ 8 * w → mGot s0.1 l s → FrJ hFr s0 s → Ok (m235_17 n w s) (fun _ t => mGot s0.1 (l ++ fitW s0.1 j w) t ∧ FrJ hFr s0 t) := by
  obtain ⟨b1, b2, b3, b4, b5, b6, b7, b8, b9, b10⟩ := R_cnt hR
  intro n
  induction n with
  | zero => intro j w s l _ _ h; omega
  | succ n ih =>
    intro j w s l hw w0 hj hlen hG hs
    rw [m235_17]
    refine k_e e183 ?_
    rw [(hs.1 242 6 (by omega)).1]
    cases j with
    | zero => refine k_q (by omega) (k_r ⟨?_, hs⟩); show mGot s0.1 (l ++ []) s; rw [List.append_nil]; exact hG
    | succ j =>
      refine k_p (by omega) (p235_27 hR w0 (by omega) zFu (s0.1 242 5).toNat 0 s l (by omega) (by omega) (by unfold zFu; omega) (by omega) hG hs (fun t h1 h2 => ?_))
      have hl' := fitP_len (f := s0.1) (w := w) (s0.1 242 5).toNat 0
      have := ih j (w + 1) t _ (by omega) (by omega) (by omega) (by rw [List.length_append]; omega) h1 h2
      rw [List.append_assoc] at this
      exact this
theorem p235 {n0 : Nat} {s : zS} (hR : R n0 s) : Ok (m235 s) (fun _ t => mGot s.1 (fitW s.1 (s.1 242 6).toNat 0) t ∧ FrJ hFr s t) := by
  obtain ⟨b1, b2, b3, b4, b5, b6, b7, b8, b9, b10⟩ := R_cnt hR
  unfold m235
  refine k_v (k_v (k_v ?_))
  refine p235_17 hR zFu (s.1 242 6).toNat 0 _ [] (by omega) (by omega) (by unfold zFu; omega) (by simp only [List.length_nil]; omega) ⟨?_, ?_, ?_, fun i m x hx => ?_⟩ ?_
  · rw [sI_k (by omega), sI_k (by omega), sI_e]; rfl
  · rw [sI_k (by omega), sI_e]; rfl
  · rw [sI_e]; rfl
  · simp at hx
  · exact frj_trans (frj_I (by omega)) (frj_trans (frj_I (by omega)) (frj_I (by omega)))
/-- what is found does not hang on what may be forgotten -/
theorem fitW_eq {f g : Nat → Int → Int} (e : eqL f g) (e254 : g 254 = f 254) (e260 : g 260 = f 260) (e67 : g 209 67 = f 209 67) (j : Nat) (w : Int) : fitW g j w = fitW f j w := by
  have hB : ∀ x, fitB g x = fitB f x := by
    intro x
    unfold fitB
    rw [e260, e67]
    congr 1
    funext i
    exact pth_eq e e254 x i.toNat
  have hP : ∀ (w : Int) (j : Nat) (k : Int), fitP g w j k = fitP f w j k := by
    intro w j
    induction j with
    | zero => intro k; rfl
    | succ j ih => intro k; show (if fitB g (w, k) = true then [(w, k)] else []) ++ fitP g w j (k + 1) = (if fitB f (w, k) = true then [(w, k)] else []) ++ fitP f w j (k + 1); rw [hB, ih]
  induction j generalizing w with
  | zero => rfl
  | succ j ih => show fitP g w (g 242 5).toNat 0 ++ fitW g j (w + 1) = fitP f w (f 242 5).toNat 0 ++ fitW f j (w + 1); rw [e.1, hP, ih]
theorem fFr_keep {L : Nat} {s t : zS} (hLL : L = 43 ∨ L = 66) (h : Fr (fFr L) s t) : eqL s.1 t.1 ∧ t.1 254 = s.1 254 ∧ t.1 260 = s.1 260 ∧ t.1 209 67 = s.1 209 67 :=
  ⟨eqL_fr h (fun a k q => by omega), funext fun k => h.1 254 k (by omega), funext fun k => h.1 260 k (by omega), h.1 209 67 (by omega)⟩
theorem t122 : T122 := by
  intro n s x hx hR hn
  have hLL := R_LL hR
  by_cases c : 0 ≤ x ∧ x ≤ 2
  · unfold Two m122
    refine k_q (by omega) (k_q (by omega) (k_v (k_c (p13 hR) ?_)))
    intro _ s1 h1
    obtain ⟨⟨g1, g2, g3, g4⟩, f1⟩ := h1
    have hR1 : R n s1 := R_fr hR (frj_of (fr_mono (fun a k z => scr_f z) f1))
    obtain ⟨e1, e2, e3, e4⟩ := fFr_keep hLL f1
    have fin : ∀ r, (x = 0 → r = ((fitW s.1 (s.1 242 6).toNat 0).length : Int)) → (x = 1 → r = mkW (fitW s.1 (s.1 242 6).toNat 0)) → (x = 2 → r = mkP (fitW s.1 (s.1 242 6).toNat 0)) → Ok (m236 x s1) (fun r' s2 => r = r' ∧ R (n + 1) s2) := by
      intro r h0 h1 h2
      unfold m236
      refine k_e e150 ?_
      rw [if_pos c]
      refine k_q (by decide) (k_c (p235 hR1) ?_)
      intro _ t ht
      obtain ⟨⟨y1, y2, y3, y4⟩, ft⟩ := ht
      rw [fitW_eq e1 e2 e3 e4, e1.1] at y1 y2 y3
      have hRt := R_up (R_fr hR1 (frj_mono (fun a k z => scr_h z) ft))
      refine k_i (fun d => k_v (k_r ⟨by rw [h0 d, y1], hRt⟩)) (fun d => ?_)
      refine k_i (fun d' => k_v (k_r ⟨by rw [h1 d', y2], hRt⟩)) (fun d' => ?_)
      exact k_v (k_r ⟨by rw [h2 (by omega), y3], hRt⟩)
    refine k_i (fun d => k_v (k_r (fin _ (fun _ => g1) (fun z => by omega) (fun z => by omega)))) (fun d => ?_)
    refine k_i (fun d' => k_v (k_r (fin _ (fun z => by omega) (fun _ => g2) (fun z => by omega)))) (fun d' => ?_)
    exact k_v (k_r (fin _ (fun z => by omega) (fun z => by omega) (fun _ => g3)))
  · have fin : Ok (m236 x s) (fun r' s2 => -1 = r' ∧ R (n + 1) s2) := by
      unfold m236
      refine k_e e150 ?_
      rw [if_neg c]
      exact k_p rfl (k_r ⟨rfl, R_up hR⟩)
    unfold Two m122
    by_cases c0 : x < 0
    · exact k_p c0 (k_r fin)
    · exact k_q c0 (k_p (by omega) (k_r fin))
