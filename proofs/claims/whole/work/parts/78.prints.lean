/-! ===== footprints ===== -/
/-- where one tried in a pair is behind n legs -/
def pth (f : Nat → Int → Int) (x : Int × Int) (n : Nat) : Int := (trP f x.1 x.2 x.2 (f 246 (19 + 3 * x.1)) (f 254 0) (fun q => f 254 (2 + q)) n).1
/-- all is so, from row k on, j rows -/
def snB (g lg pl : Int → Int) : Nat → Int → Bool
  | 0, _ => true
  | j + 1, k => decide (g (lg k) = pl k) && snB g lg pl j (k + 1)
def fitB (f : Nat → Int → Int) (x : Int × Int) : Bool := snB (fun i => pth f x i.toNat) (fun k => f 260 (2 * k)) (fun k => f 260 (2 * k + 1)) (f 209 67).toNat 0
def fitP (f : Nat → Int → Int) (w : Int) : Nat → Int → List (Int × Int)
  | 0, _ => []
  | j + 1, k => (if fitB f (w, k) = true then [(w, k)] else []) ++ fitP f w j (k + 1)
def fitW (f : Nat → Int → Int) : Nat → Int → List (Int × Int)
  | 0, _ => []
  | j + 1, w => fitP f w (f 242 5).toNat 0 ++ fitW f j (w + 1)
def mkW (l : List (Int × Int)) : Int := l.foldl (fun m x => zOr m (zShl 1 x.1)) 0
def mkP (l : List (Int × Int)) : Int := l.foldl (fun m x => zOr m (zShl 1 x.2)) 0
/-- how many of them are at p behind n legs -/
def cnt (f : Nat → Int → Int) (l : List (Int × Int)) (n : Nat) (p : Int) : Int := (l.countP (fun x => decide (pth f x n = p)) : Nat)
/-- the greatest -/
def mx (g : Int → Int) : Nat → Int → Int → Int
  | 0, _, m => m
  | j + 1, k, m => mx g j (k + 1) (if m < g k then g k else m)
theorem mx_congr {g g' : Int → Int} : ∀ (j : Nat) (k m : Int), (∀ i, k ≤ i → i < k + (j : Int) → g i = g' i) → mx g j k m = mx g' j k m := by
  intro j
  induction j with
  | zero => intro k m _; rfl
  | succ j ih =>
    intro k m h
    show mx g j (k + 1) (if m < g k then g k else m) = mx g' j (k + 1) (if m < g' k then g' k else m)
    rw [h k (by omega) (by omega), ih (k + 1) _ (fun i a b => h i (by omega) (by omega))]
theorem mx_add {g : Int → Int} : ∀ (a b : Nat) (k m : Int), mx g (a + b) k m = mx g b (k + (a : Int)) (mx g a k m) := by
  intro a
  induction a with
  | zero => intro b k m; rw [Nat.zero_add]; show mx g b k m = mx g b (k + 0) m; rw [show k + 0 = k by omega]
  | succ a ih =>
    intro b k m
    rw [show a + 1 + b = (a + b) + 1 by omega]
    show mx g (a + b) (k + 1) _ = mx g b (k + ((a + 1 : Nat) : Int)) (mx g a (k + 1) _)
    rw [ih, show k + 1 + (a : Int) = k + ((a + 1 : Nat) : Int) by omega]
theorem mx_zero {g : Int → Int} : ∀ (j : Nat) (k m : Int), 0 ≤ m → (∀ i, k ≤ i → i < k + (j : Int) → g i = 0) → mx g j k m = m := by
  intro j
  induction j with
  | zero => intro k m _ _; rfl
  | succ j ih =>
    intro k m h0 h
    show mx g j (k + 1) (if m < g k then g k else m) = m
    rw [h k (by omega) (by omega), if_neg (by omega)]
    exact ih (k + 1) m h0 (fun i a b => h i (by omega) (by omega))
theorem mx_in {g : Int → Int} {c : Int} : ∀ (j : Nat) (k m : Int), 0 ≤ m → m ≤ c → (∀ i, k ≤ i → i < k + (j : Int) → g i ≤ c) → 0 ≤ mx g j k m ∧ mx g j k m ≤ c := by
  intro j
  induction j with
  | zero => intro k m h0 h1 _; exact ⟨h0, h1⟩
  | succ j ih =>
    intro k m h0 h1 h
    have := h k (by omega) (by omega)
    refine ih (k + 1) _ ?_ ?_ (fun i a b => h i (by omega) (by omega))
    · split <;> omega
    · split <;> omega
theorem cnt_in {f : Nat → Int → Int} {l : List (Int × Int)} {n : Nat} {p : Int} : 0 ≤ cnt f l n p ∧ cnt f l n p ≤ (l.length : Int) := by
  unfold cnt
  have := List.countP_le_length (p := fun x => decide (pth f x n = p)) (l := l)
  omega
theorem cnt_snoc {f : Nat → Int → Int} {l : List (Int × Int)} {x : Int × Int} {n : Nat} {p : Int} : cnt f (l ++ [x]) n p = cnt f l n p + (if pth f x n = p then 1 else 0) := by
  unfold cnt
  rw [List.countP_append, List.countP_singleton]
  by_cases c : pth f x n = p
  · simp [c]
  · simp [c]
theorem mkW_snoc {l : List (Int × Int)} {x : Int × Int} : mkW (l ++ [x]) = zOr (mkW l) (zShl 1 x.1) := by unfold mkW; rw [List.foldl_append]; rfl
theorem mkP_snoc {l : List (Int × Int)} {x : Int × Int} : mkP (l ++ [x]) = zOr (mkP l) (zShl 1 x.2) := by unfold mkP; rw [List.foldl_append]; rfl
abbrev fFr (L : Nat) (a : Nat) (k : Int) : Prop := tFr L a k ∨ (a = 24 ∧ 1 ≤ k) ∨ a = 27
theorem scr_f {L a : Nat} {k : Int} (h : fFr L a k) : Scr L a k := by
  rcases h with h | h | h
  · rcases h with h | h | h | h
    · exact Or.inr (Or.inl (by omega))
    · exact Or.inr (Or.inl (by omega))
    · exact Or.inr (Or.inr (Or.inr (Or.inr (Or.inr (Or.inl h)))))
    · exact Or.inr (Or.inr (Or.inr (Or.inr (Or.inr (Or.inr (Or.inl h))))))
  · exact Or.inr (Or.inr (Or.inl h))
  · exact Or.inr (Or.inr (Or.inr (Or.inl h)))
section
variable {s : zS} {x : Int × Int}
/-- the class: all rows are so -/
theorem e14 {f : Nat → Int → Int} (hr : s.1 24 0 = f 209 67) (h0 : 0 ≤ f 209 67) (h1 : f 209 67 ≤ 16) (hrw : ∀ k, 0 ≤ k → k < f 209 67 → s.1 25 k = f 260 (2 * k) ∧ s.1 26 k = f 260 (2 * k + 1) ∧ 0 ≤ s.1 25 k ∧ s.1 25 k ≤ 30) (hp : ∀ j : Nat, j ≤ 30 → s.1 13 (j : Int) = pth f x j) : ∀ (n j : Nat) (k : Int), k = f 209 67 - (j : Int) → 0 ≤ k → j < n → m14_2 n k s = some (if snB (fun i => pth f x i.toNat) (fun k => f 260 (2 * k)) (fun k => f 260 (2 * k + 1)) j k = true then 1 else 0, s) := by
  intro n
  induction n with
  | zero => intro j k _ _ h; omega
  | succ n ih =>
    intro j k hk k0 hj
    rw [m14_2, oV_eq, hr]
    cases j with
    | zero => rw [if_neg (by omega)]; rfl
    | succ j =>
      have q := hrw k k0 (by omega)
      have e13 : s.1 13 (s.1 25 k) = pth f x (s.1 25 k).toNat := by
        have := hp (s.1 25 k).toNat (by omega)
        rw [show (((s.1 25 k).toNat : Nat) : Int) = s.1 25 k by omega] at this
        exact this
      rw [if_pos (by omega), oX_pos k0 (by omega), oV_eq, oX_pos q.2.2.1 (by omega), oV_eq, oX_pos k0 (by omega), oV_eq, e13, q.1, q.2.1]
      show _ = some (if (decide (pth f x (f 260 (2 * k)).toNat = f 260 (2 * k + 1)) && snB _ _ _ j (k + 1)) = true then 1 else 0, s)
      by_cases c : pth f x (f 260 (2 * k)).toNat = f 260 (2 * k + 1)
      · rw [if_pos c, oZ_pos (by omega) (by omega), ih j (k + 1) (by omega) (by omega) (by omega)]
        simp only [c, decide_true, Bool.true_and]
      · rw [if_neg c]
        simp only [c, decide_false, Bool.false_and, Bool.false_eq_true, if_false]
/-- the class gathers a way -/
theorem p15_2 {f : Nat → Int → Int} {s0 : zS} {l : List (Int × Int)} (hl : l.length < 60) (hp : ∀ j : Nat, j ≤ 30 → s0.1 13 (j : Int) = pth f x j ∧ 0 ≤ pth f x j ∧ pth f x j < 7) (hc : ∀ (n : Nat) (p : Int), n ≤ 30 → 0 ≤ p → p < 7 → s0.1 27 (7 * (n : Int) + p) = cnt f l n p) : ∀ (n j : Nat) (s : zS), j ≤ 31 → 31 - j < n → (∀ (m : Nat) (p : Int), m < j → 0 ≤ p → p < 7 → s.1 27 (7 * (m : Int) + p) = cnt f (l ++ [x]) m p) → (∀ (m : Nat) (p : Int), j ≤ m → m ≤ 30 → 0 ≤ p → p < 7 → s.1 27 (7 * (m : Int) + p) = cnt f l m p) → Fr (fun a _ => a = 27) s0 s → Ok (m15_2 n (j : Int) s) (fun _ t => (∀ (m : Nat) (p : Int), m ≤ 30 → 0 ≤ p → p < 7 → t.1 27 (7 * (m : Int) + p) = cnt f (l ++ [x]) m p) ∧ Fr (fun a _ => a = 27) s0 t) := by
  intro n
  induction n with
  | zero => intro j s h1 h2; omega
  | succ n ih =>
    intro j s h1 h2 hlo hhi hs
    rw [m15_2]
    by_cases hj : j = 31
    · subst hj
      exact k_p (by omega) (k_r ⟨fun m p m1 p0 p1 => hlo m p (by omega) p0 p1, hs⟩)
    have q := hp j (by omega)
    have e13 : s.1 13 (j : Int) = pth f x j := by rw [hs.1 13 _ (by omega)]; exact q.1
    have hv := hhi j (pth f x j) (by omega) (by omega) q.2.1 q.2.2
    have hcn := cnt_in (f := f) (l := l) (n := j) (p := pth f x j)
    refine k_q (by omega) (k_z (by omega) (by omega) (k_x (by omega) (by omega) (k_v ?_)))
    rw [e13]
    refine k_z (by omega) (by omega) (k_x (by omega) (by omega) (k_v ?_))
    rw [show (j : Int) * 7 + pth f x j = 7 * (j : Int) + pth f x j by omega, hv]
    refine k_z (by omega) (by omega) (k_x (by omega) (by omega) (k_v (k_z (by omega) (by omega) ?_)))
    refine ih (j + 1) _ (by omega) (by omega) (fun m p m1 p0 p1 => ?_) (fun m p m0 m1 p0 p1 => ?_) (fr_trans hs (fr_I rfl))
    · by_cases e : m = j
      · subst e
        rw [cnt_snoc]
        by_cases e2 : p = pth f x m
        · rw [e2, sI_e, if_pos rfl]
        · rw [sI_k (by omega), if_neg (fun z => e2 z.symm), hhi m p (by omega) (by omega) p0 p1]; omega
      · rw [sI_k (by omega)]; exact hlo m p (by omega) p0 p1
    · rw [sI_k (by omega)]; exact hhi m p (by omega) m1 p0 p1
end
/-- what the class has gathered -/
def cGot (f : Nat → Int → Int) (l : List (Int × Int)) (s : zS) : Prop := s.1 24 1 = (l.length : Int) ∧ s.1 24 2 = mkW l ∧ s.1 24 3 = mkP l ∧ ∀ (n : Nat) (p : Int), n ≤ 30 → 0 ≤ p → p < 7 → s.1 27 (7 * (n : Int) + p) = cnt f l n p
theorem pth_eq {f g : Nat → Int → Int} (e : eqL f g) (e254 : g 254 = f 254) (x : Int × Int) (n : Nat) : pth g x n = pth f x n := by
  unfold pth
  rw [(trT_eq e n).1, e.2.2.1, e254]
theorem pth_in {n : Nat} {s : zS} (hR : R n s) {x : Int × Int} (h1 : 0 ≤ x.1) (h2 : x.1 < s.1 242 6) (h3 : 0 ≤ x.2) (h4 : x.2 < s.1 242 5) (j : Nat) : 0 ≤ pth s.1 x j ∧ pth s.1 x j < s.1 242 4 := by
  have hm := R_ml hR
  have := trP_in (will := s.1 246 (19 + 3 * x.1)) (day := s.1 254 0) (h0 := fun q => s.1 254 (2 + q)) hm (by have := hm.2.2.1 x.1 h1 h2; omega) h1 h2 h3 h4 h3 h4 (R_hh hR) j
  exact ⟨this.1, this.2.1⟩
/-- the class over the pairs of a walker, then on -/
theorem p13_41 {n0 : Nat} {s0 : zS} {w : Int} {K : Nat → Nat → Int → zS → Option (Int × zS)} {P : Int → zS → Prop} (hR : R n0 s0) (w0 : 0 ≤ w) (w1 : w < s0.1 242 6) : ∀ (n j : Nat) (k : Int) (s : zS) (l : List (Int × Int)), k = s0.1 242 5 - (j : Int) → 0 ≤ k → j < n → (l.length : Int) ≤ 8 * w + k → cGot s0.1 l s → Fr (fFr (s0.2.2 1)) s0 s → (∀ t, cGot s0.1 (l ++ fitP s0.1 w j k) t → Fr (fFr (s0.2.2 1)) s0 t → Ok (K 28 (s0.2.2 1) (w + 1) t) P) → Ok (m13_41 K n 28 (s0.2.2 1) w k s) P := by
  have hLL := R_LL hR
  obtain ⟨b1, b2, b3, b4, b5, b6, b7, b8, b9, b10⟩ := R_cnt hR
  obtain ⟨r1, r2, r3, r4⟩ := R_rows hR
  intro n
  induction n with
  | zero => intro j k s l _ _ h; omega
  | succ n ih =>
    intro j k s l hk k0 hj hlen hG hs hK
    have hRs : R n0 s := R_fr hR (frj_of (fr_mono (fun a k z => scr_f z) hs))
    have hM : s.2.2 = s0.2.2 := hs.2.2
    have eqs : eqL s0.1 s.1 := eqL_fr hs (fun a k q => by omega)
    have e254 : s.1 254 = s0.1 254 := funext fun q => hs.1 254 q (by omega)
    rw [m13_41]
    refine k_v ?_
    rw [hs.1 (s0.2.2 1 + 3) 0 (by omega), b4]
    cases j with
    | zero =>
      have := hK s (by show cGot s0.1 (l ++ []) s; rw [List.append_nil]; exact hG) hs
      exact k_q (by omega) (k_z (by omega) (by omega) this)
    | succ j =>
      have k1 : k < s0.1 242 5 := by omega
      have hwl := (R_land hR).2.2.2.1 w w0 w1
      refine k_p k1 (k_x w0 (by omega) (k_v ?_))
      rw [hs.1 (s0.2.2 1 + 14) w (by omega), hwl.2.1]
      refine k_c (p99 hRs w0 (by rw [eqs.1]; exact w1) k0 (by rw [eqs.1]; exact k1) k0 (by rw [eqs.1]; exact k1) (by omega) (by omega)) ?_
      intro r u hu
      obtain ⟨u1, u2, u3⟩ := hu
      rw [hM] at u3
      have fu : Fr (fFr (s0.2.2 1)) s0 u := fr_trans hs (fr_mono (fun a k z => Or.inl z) u3)
      have hpu : ∀ i : Nat, i ≤ 30 → u.1 13 (i : Int) = pth s0.1 (w, k) i := fun i hi => by
        rw [u2 i hi, (trT_eq eqs i).1, e254]; rfl
      have hGu : cGot s0.1 l u := ⟨by rw [u3.1 24 1 (by omega)]; exact hG.1, by rw [u3.1 24 2 (by omega)]; exact hG.2.1, by rw [u3.1 24 3 (by omega)]; exact hG.2.2.1, fun m p m1 p0 p1 => by rw [u3.1 27 _ (by omega)]; exact hG.2.2.2 m p m1 p0 p1⟩
      have e14' : m14 u = some (if fitB s0.1 (w, k) = true then 1 else 0, u) := by
        unfold m14 fitB
        refine e14 (f := s0.1) (x := (w, k)) (by rw [fu.1 24 0 (by omega)]; exact r1) (by omega) (by omega) (fun q q0 q1 => ?_) hpu zFu (s0.1 209 67).toNat 0 (by omega) (by omega) (by unfold zFu; omega)
        have := r4 q q0 (by omega)
        rw [fu.1 25 q (by omega), fu.1 26 q (by omega)]
        exact ⟨this.1, this.2.1, this.2.2.1, this.2.2.2.1⟩
      refine k_e e14' ?_
      have nx : ∀ (t : zS) (l' : List (Int × Int)), l' = l ++ (if fitB s0.1 (w, k) = true then [(w, k)] else []) → cGot s0.1 l' t → Fr (fFr (s0.2.2 1)) s0 t → Ok (m13_41 K n 28 (s0.2.2 1) w (k + 1) t) P := by
        intro t l' el hGt hft
        refine ih j (k + 1) t l' (by omega) (by omega) (by omega) ?_ hGt hft (fun t' h1 h2 => hK t' ?_ h2)
        · rw [el, List.length_append]
          split
          · simp only [List.length_singleton]; omega
          · simp only [List.length_nil]; omega
        · rw [el, List.append_assoc] at h1
          exact h1
      by_cases c : fitB s0.1 (w, k) = true
      · rw [if_pos c]
        obtain ⟨g1, g2, g3, g4⟩ := hGu
        refine k_q (by decide) (k_v ?_)
        rw [g1]
        refine k_z (by omega) (by omega) (k_v (k_v (k_v (k_v (k_v (k_v (k_v (k_v (k_v ?_)))))))))
        rw [sI_k (by omega), g2, sI_k (by omega), sI_k (by omega), g3]
        generalize hv : sI (sI (sI u 24 1 ((l.length : Int) + 1)) 24 2 (zOr (mkW l) (zShl 1 w))) 24 3 (zOr (mkP l) (zShl 1 k)) = v
        have fv : Fr (fun a q => a = 24 ∧ 1 ≤ q) u v := by rw [← hv]; exact fr_trans (fr_I (by omega)) (fr_trans (fr_I (by omega)) (fr_I (by omega)))
        refine k_c (Q := fun _ t => (∀ (m : Nat) (p : Int), m ≤ 30 → 0 ≤ p → p < 7 → t.1 27 (7 * (m : Int) + p) = cnt s0.1 (l ++ [(w, k)]) m p) ∧ Fr (fun a _ => a = 27) v t) ?_ ?_
        · unfold m15
          refine p15_2 (f := s0.1) (x := (w, k)) (s0 := v) (l := l) (by omega) (fun i hi => ?_) (fun m p m1 p0 p1 => ?_) zFu 0 v (by omega) (by unfold zFu; omega) (fun m p m1 => by omega) (fun m p m0 m1 p0 p1 => ?_) fr_refl
          · have := pth_in hR (x := (w, k)) w0 w1 k0 k1 i
            exact ⟨by rw [fv.1 13 _ (by omega)]; exact hpu i hi, this.1, by omega⟩
          · rw [fv.1 27 _ (by omega)]; exact g4 m p m1 p0 p1
          · rw [fv.1 27 _ (by omega)]; exact g4 m p m1 p0 p1
        · intro _ t ht
          refine k_z (by omega) (by omega) (nx t (l ++ [(w, k)]) (by rw [if_pos c]) ⟨?_, ?_, ?_, ht.1⟩ (fr_trans fu (fr_trans (fr_mono (fun a q z => Or.inr (Or.inl z)) fv) (fr_mono (fun a q z => Or.inr (Or.inr z)) ht.2))))
          · rw [ht.2.1 24 1 (by omega), ← hv, sI_k (by omega), sI_k (by omega), sI_e, List.length_append, List.length_singleton]; omega
          · rw [ht.2.1 24 2 (by omega), ← hv, sI_k (by omega), sI_e, mkW_snoc]
          · rw [ht.2.1 24 3 (by omega), ← hv, sI_e, mkP_snoc]
      · rw [if_neg c]
        refine k_p rfl (k_z (by omega) (by omega) (nx u l (by rw [if_neg c, List.append_nil]) hGu fu))
theorem p13_26 {n0 : Nat} {s0 : zS} (hR : R n0 s0) : ∀ (n j : Nat) (w : Int) (s : zS) (l : List (Int × Int)), w = s0.1 242 6 - (j : Int) → 0 ≤ w → j < n → (l.length : Int) ≤ 8 * w → cGot s0.1 l s → Fr (fFr (s0.2.2 1)) s0 s → Ok (m13_26 n 28 (s0.2.2 1) w s) (fun _ t => cGot s0.1 (l ++ fitW s0.1 j w) t ∧ Fr (fFr (s0.2.2 1)) s0 t) := by
  have hLL := R_LL hR
  obtain ⟨b1, b2, b3, b4, b5, b6, b7, b8, b9, b10⟩ := R_cnt hR
  have lenP : ∀ (w : Int) (j : Nat) (k : Int), (fitP s0.1 w j k).length ≤ j := by
    intro w j
    induction j with
    | zero => intro k; exact Nat.le_refl 0
    | succ j ih =>
      intro k
      show ((if fitB s0.1 (w, k) = true then [(w, k)] else []) ++ fitP s0.1 w j (k + 1)).length ≤ j + 1
      rw [List.length_append]
      have := ih (k + 1)
      split
      · simp only [List.length_singleton]; omega
      · simp only [List.length_nil]; omega
  intro n
  induction n with
  | zero => intro j w s l _ _ h; omega
  | succ n ih =>
    intro j w s l hw w0 hj hlen hG hs
    rw [m13_26]
    refine k_v ?_
    rw [hs.1 (s0.2.2 1 + 5) 0 (by omega), b6]
    cases j with
    | zero => refine k_q (by omega) (k_r ⟨?_, hs⟩); show cGot s0.1 (l ++ []) s; rw [List.append_nil]; exact hG
    | succ j =>
      refine k_p (by omega) (p13_41 hR w0 (by omega) zFu (s0.1 242 5).toNat 0 s l (by omega) (by omega) (by unfold zFu; omega) (by omega) hG hs (fun t h1 h2 => ?_))
      have hl' := lenP w (s0.1 242 5).toNat 0
      have := ih j (w + 1) t _ (by omega) (by omega) (by omega) (by rw [List.length_append]; omega) h1 h2
      rw [List.append_assoc] at this
      exact this
/-- the class has compared all -/
theorem p13 {n0 : Nat} {s : zS} (hR : R n0 s) : Ok (m13 28 (s.2.2 1) s) (fun _ t => cGot s.1 (fitW s.1 (s.1 242 6).toNat 0) t ∧ Fr (fFr (s.2.2 1)) s t) := by
  have hLL := R_LL hR
  obtain ⟨b1, b2, b3, b4, b5, b6, b7, b8, b9, b10⟩ := R_cnt hR
  unfold m13
  refine k_v (k_v (k_v ?_))
  generalize hv : sI (sI (sI s 24 1 0) 24 2 0) 24 3 0 = v
  have fv : Fr (fun a q => a = 24 ∧ 1 ≤ q) s v := by rw [← hv]; exact fr_trans (fr_I (by omega)) (fr_trans (fr_I (by omega)) (fr_I (by omega)))
  have fill : ∀ (n j : Nat) (u : zS), j ≤ 217 → 217 - j < n → (∀ i, 0 ≤ i → i < (j : Int) → u.1 27 i = 0) → Fr (fun a _ => a = 27) v u → Ok (m293_5 n 217 27 0 (j : Int) 217 u) (fun _ t => (∀ i, 0 ≤ i → i < 217 → t.1 27 i = 0) ∧ Fr (fun a _ => a = 27) v t) := by
    intro n
    induction n with
    | zero => intro j u h1 h2; omega
    | succ n ih =>
      intro j u h1 h2 hk hf
      rw [m293_5]
      by_cases hj : j = 217
      · subst hj; exact k_q (by omega) (k_r ⟨hk, hf⟩)
      · refine k_p (by omega) (k_x (by omega) (by omega) (k_v (k_z (by omega) (by omega) ?_)))
        refine ih (j + 1) _ (by omega) (by omega) (fun i i0 i1 => ?_) (fr_trans hf (fr_I rfl))
        by_cases e : i = (j : Int)
        · rw [e, sI_e]
        · rw [sI_k e]; exact hk i i0 (by omega)
  refine k_c (Q := fun _ t => (∀ i, 0 ≤ i → i < 217 → t.1 27 i = 0) ∧ Fr (fun a _ => a = 27) v t) ?_ ?_
  · unfold m293
    exact k_z (by omega) (by omega) (fill zFu 0 v (by omega) (by unfold zFu; omega) (fun i i0 i1 => by omega) fr_refl)
  · intro _ u hu
    have fu : Fr (fFr (s.2.2 1)) s u := fr_trans (fr_mono (fun a q z => Or.inr (Or.inl z)) fv) (fr_mono (fun a q z => Or.inr (Or.inr z)) hu.2)
    have hG : cGot s.1 [] u := by
      refine ⟨?_, ?_, ?_, fun m p m1 p0 p1 => ?_⟩
      · rw [hu.2.1 24 1 (by omega), ← hv, sI_k (by omega), sI_k (by omega), sI_e]; rfl
      · rw [hu.2.1 24 2 (by omega), ← hv, sI_k (by omega), sI_e]; rfl
      · rw [hu.2.1 24 3 (by omega), ← hv, sI_e]; rfl
      · rw [hu.1 _ (by omega) (by omega)]; rfl
    exact p13_26 hR zFu (s.1 242 6).toNat 0 u [] (by omega) (by omega) (by unfold zFu; omega) (by simp only [List.length_nil]; omega) hG fu
