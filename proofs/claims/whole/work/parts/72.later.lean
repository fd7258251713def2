/-! ===== ahead ===== -/
/-- rows that are alike for walker w -/
def eqW (w : Int) (N M : Int → Int) : Prop := N 0 = M 0 ∧ N (10 + 3 * w) = M (10 + 3 * w) ∧ N (11 + 3 * w) = M (11 + 3 * w) ∧ N (12 + 3 * w) = M (12 + 3 * w) ∧ N (2 + N (10 + 3 * w)) = M (2 + N (10 + 3 * w))
theorem eqW_refl {w : Int} {N : Int → Int} : eqW w N N := ⟨rfl, rfl, rfl, rfl, rfl⟩
def oneN (f : Nat → Int → Int) (w : Int) (N : Int → Int) : Int → Int := dayN (dyN f N w)
def onesN (f : Nat → Int → Int) (w : Int) : Nat → (Int → Int) → (Int → Int)
  | 0, N => N
  | j + 1, N => onesN f w j (oneN f w N)
section
variable {f : Nat → Int → Int} {N M : Int → Int} {w v a b c : Int}
theorem eqW_dy (h : eqW w N M) (hp0 : 0 ≤ N (10 + 3 * w)) (hp1 : N (10 + 3 * w) < 8) (w0 : 0 ≤ w) : eqW w (dyN f N w) (dyN f M w) := by
  obtain ⟨h1, h2, h3, h4, h5⟩ := h
  have hX : dyX f N w = dyX f M w := by
    unfold dyX
    rw [h1, h3, h4, h5, h2]
  have e10 : dyN f N w (10 + 3 * w) = N (10 + 3 * w) := dyN_o (by omega) (by omega) (by omega)
  have e10' : dyN f M w (10 + 3 * w) = M (10 + 3 * w) := dyN_o (by omega) (by omega) (by omega)
  have e0 : dyN f N w 0 = N 0 := dyN_o (by omega) (by omega) (by omega)
  have e0' : dyN f M w 0 = M 0 := dyN_o (by omega) (by omega) (by omega)
  unfold eqW
  rw [e10, e10', e0, e0']
  refine ⟨h1, h2, ?_, ?_, ?_⟩
  · unfold dyN; rw [hX, h3]
    by_cases d : M (11 + 3 * w) = 0
    · rw [if_pos d, if_pos d]
    · rw [if_neg d, if_neg d, if_pos rfl, if_pos rfl]
  · unfold dyN; rw [hX, h3, h4, h2]
  · unfold dyN; rw [hX, h3, h5, h2]
theorem eqW_oth (hb : b ≤ 8) (hI : nInv a b c N) (w0 : 0 ≤ w) (w1 : w < c) (v0 : 0 ≤ v) (v1 : v < c) (ne : v ≠ w) (h : eqW w N M) : eqW w (dyN f N v) M := by
  have q1 := hI.2.2.2.1 v v0 v1
  have q2 := hI.2.2.2.1 w w0 w1
  have dist : N (10 + 3 * v) ≠ N (10 + 3 * w) := by
    by_cases lt : v < w
    · exact hI.2.2.2.2.2.2.1 v w v0 lt w1
    · exact fun z => hI.2.2.2.2.2.2.1 w v w0 (by omega) v1 z.symm
  have o : ∀ i, i ≠ 11 + 3 * v → i ≠ 2 + N (10 + 3 * v) → i ≠ 12 + 3 * v → dyN f N v i = N i := fun i a b c => dyN_o a b c
  unfold eqW
  rw [o 0 (by omega) (by omega) (by omega), o (10 + 3 * w) (by omega) (by omega) (by omega), o (11 + 3 * w) (by omega) (by omega) (by omega), o (12 + 3 * w) (by omega) (by omega) (by omega), o (2 + N (10 + 3 * w)) (by omega) (by omega) (by omega)]
  exact h
theorem eqW_day (h : eqW w N M) (w0 : 0 ≤ w) (hp0 : 0 ≤ N (10 + 3 * w)) : eqW w (dayN N) (dayN M) := by
  obtain ⟨h1, h2, h3, h4, h5⟩ := h
  have o : ∀ (K : Int → Int) i, i ≠ 0 → dayN K i = K i := fun K i hi => if_neg hi
  unfold eqW
  rw [o N (10 + 3 * w) (by omega), o M (10 + 3 * w) (by omega), o N (11 + 3 * w) (by omega), o M (11 + 3 * w) (by omega), o N (12 + 3 * w) (by omega), o M (12 + 3 * w) (by omega), o N (2 + N (10 + 3 * w)) (by omega), o M (2 + N (10 + 3 * w)) (by omega)]
  exact ⟨by show N 0 + 1 = M 0 + 1; rw [h1], h2, h3, h4, h5⟩
theorem eqW_dys (hL : mLand f) (ea : a = f 242 4) (eb : b = f 242 5) (ec : c = f 242 6) (w0 : 0 ≤ w) (w1 : w < c) : ∀ (j : Nat) (k : Int) (N M : Int → Int), 0 ≤ k → k + (j : Int) ≤ c → nInv a b c N → eqW w N M → eqW w (dysN f noR j k N) (if k ≤ w ∧ w < k + (j : Int) then dyN f M w else M) := by
  have hm := hL.1
  intro j
  induction j with
  | zero => intro k N M _ _ _ h; rw [if_neg (by omega)]; exact h
  | succ j ih =>
    intro k N M k0 k1 hI h
    show eqW w (dysN f noR j (k + 1) (if noR k then N else dyN f N k)) _
    rw [if_neg (fun z => z)]
    have hI' := nInv_dy hL ea eb ec hI k0 (by omega)
    by_cases e : k = w
    · subst e
      have hq := hI.2.2.2.1 k k0 (by omega)
      have := ih (k + 1) (dyN f N k) (dyN f M k) (by omega) (by omega) hI' (eqW_dy h hq.1 (by omega) k0)
      rw [if_neg (by omega)] at this
      rw [if_pos (by omega)]; exact this
    · have := ih (k + 1) (dyN f N k) M (by omega) (by omega) hI' (eqW_oth (by omega) hI w0 w1 k0 (by omega) e h)
      by_cases d : k + 1 ≤ w ∧ w < k + 1 + (j : Int)
      · rw [if_pos d] at this; rw [if_pos (by omega)]; exact this
      · rw [if_neg d] at this; rw [if_neg (by omega)]; exact this
theorem eqW_all (hL : mLand f) (ea : a = f 242 4) (eb : b = f 242 5) (ec : c = f 242 6) (w0 : 0 ≤ w) (w1 : w < c) (hI : nInv a b c N) (h : eqW w N M) : eqW w (allN f N) (oneN f w M) := by
  have hm := hL.1
  have := eqW_dys hL ea eb ec w0 w1 (f 242 6).toNat 0 N M (by omega) (by omega) hI h
  rw [if_pos (by omega)] at this
  exact eqW_day this w0 ((nInv_dys hL ea eb ec _ 0 N (by omega) (by omega) hI).2.2.2.1 w w0 w1).1
theorem eqW_alls (hL : mLand f) (ea : a = f 242 4) (eb : b = f 242 5) (ec : c = f 242 6) (w0 : 0 ≤ w) (w1 : w < c) : ∀ (j : Nat) (N M : Int → Int), nInv a b c N → N 0 + (j : Int) ≤ 999 → eqW w N M → eqW w (allsN f j N) (onesN f w j M) := by
  intro j
  induction j with
  | zero => intro N M _ _ h; exact h
  | succ j ih =>
    intro N M hI h9 h
    exact ih (allN f N) (oneN f w M) (nInv_all hL ea eb ec hI (by omega)) (by rw [all_0 hL ea eb ec hI]; omega) (eqW_all hL ea eb ec w0 w1 hI h)
theorem nInv_alls (hL : mLand f) (ea : a = f 242 4) (eb : b = f 242 5) (ec : c = f 242 6) : ∀ (j : Nat) (N : Int → Int), nInv a b c N → N 0 + (j : Int) ≤ 999 → nInv a b c (allsN f j N) := by
  intro j
  induction j with
  | zero => intro N h _; exact h
  | succ j ih => intro N h h9; exact ih (allN f N) (nInv_all hL ea eb ec h (by omega)) (by rw [all_0 hL ea eb ec h]; omega)
theorem one_0 (hI : nInv a b c N) (w0 : 0 ≤ w) (w1 : w < c) : oneN f w N 0 = N 0 + 1 := by
  show (if (0 : Int) = 0 then dyN f N w 0 + 1 else dyN f N w 0) = _
  rw [if_pos rfl, dyN_0 w0 (hI.2.2.2.1 w w0 w1).1]
theorem nInv_one (hL : mLand f) (ea : a = f 242 4) (eb : b = f 242 5) (ec : c = f 242 6) (hI : nInv a b c N) (w0 : 0 ≤ w) (w1 : w < c) (h9 : N 0 < 999) : nInv a b c (oneN f w N) :=
  nInv_day (nInv_dy hL ea eb ec hI w0 w1) (by rw [dyN_0 w0 (hI.2.2.2.1 w w0 w1).1]; exact h9)
/-- behind how many days he is there -/
def arrS (g : Int) (w : Int) (stp : (Int → Int) → (Int → Int)) : Nat → Int → (Int → Int) → Int
  | 0, n, N => if N (11 + 3 * w) - 1 = g then n else -1
  | j + 1, n, N => if N (11 + 3 * w) - 1 = g then n else arrS g w stp j (n + 1) (stp N)
theorem arrS_eq {g : Int} (hL : mLand f) (ea : a = f 242 4) (eb : b = f 242 5) (ec : c = f 242 6) (w0 : 0 ≤ w) (w1 : w < c) : ∀ (j : Nat) (n : Int) (N M : Int → Int), nInv a b c N → N 0 + (j : Int) ≤ 999 → eqW w N M → arrS g w (allN f) j n N = arrS g w (oneN f w) j n M := by
  intro j
  induction j with
  | zero => intro n N M _ _ h; show (if N (11 + 3 * w) - 1 = g then n else -1) = (if M (11 + 3 * w) - 1 = g then n else -1); rw [h.2.2.1]
  | succ j ih =>
    intro n N M hI h9 h
    show (if N (11 + 3 * w) - 1 = g then n else arrS g w (allN f) j (n + 1) (allN f N)) = (if M (11 + 3 * w) - 1 = g then n else arrS g w (oneN f w) j (n + 1) (oneN f w M))
    rw [h.2.2.1, ih (n + 1) (allN f N) (oneN f w M) (nInv_all hL ea eb ec hI (by omega)) (by rw [all_0 hL ea eb ec hI]; omega) (eqW_all hL ea eb ec w0 w1 hI h)]
end
/-- the reference puts its row aside, takes it back -/
theorem p203 {s : zS} : Ok (m203 s) (fun _ t => (∀ i, 0 ≤ i → i < 37 → t.1 255 i = s.1 254 i) ∧ Fr (fun a _ => a = 255) s t) := by
  have : ∀ (n j : Nat) (u : zS), j ≤ 37 → 37 - j < n → (∀ i, 0 ≤ i → i < (j : Int) → u.1 255 i = s.1 254 i) → Fr (fun a _ => a = 255) s u → Ok (m203_2 n (j : Int) u) (fun _ t => (∀ i, 0 ≤ i → i < 37 → t.1 255 i = s.1 254 i) ∧ Fr (fun a _ => a = 255) s t) := by
    intro n
    induction n with
    | zero => intro j u h1 h2; omega
    | succ n ih =>
      intro j u h1 h2 hk hf
      rw [m203_2]
      by_cases hj : j = 37
      · subst hj; exact k_q (by omega) (k_r ⟨hk, hf⟩)
      · refine k_p (by omega) (k_x (by omega) (by omega) (k_v (k_x (by omega) (by omega) (k_v (k_z (by omega) (by omega) ?_)))))
        refine ih (j + 1) _ (by omega) (by omega) (fun i i0 i1 => ?_) (fr_trans hf (fr_I rfl))
        by_cases e : i = (j : Int)
        · rw [e, sI_e]; exact hf.1 254 _ (by omega)
        · rw [sI_k e]; exact hk i i0 (by omega)
  unfold m203
  exact this zFu 0 s (by omega) (by unfold zFu; omega) (fun i i0 i1 => by omega) fr_refl
theorem p204 {s : zS} : Ok (m204 s) (fun _ t => (∀ i, 0 ≤ i → i < 37 → t.1 254 i = s.1 255 i) ∧ Fr (fun a _ => a = 254) s t) := by
  have : ∀ (n j : Nat) (u : zS), j ≤ 37 → 37 - j < n → (∀ i, 0 ≤ i → i < (j : Int) → u.1 254 i = s.1 255 i) → Fr (fun a _ => a = 254) s u → Ok (m204_2 n (j : Int) u) (fun _ t => (∀ i, 0 ≤ i → i < 37 → t.1 254 i = s.1 255 i) ∧ Fr (fun a _ => a = 254) s t) := by
    intro n
    induction n with
    | zero => intro j u h1 h2; omega
    | succ n ih =>
      intro j u h1 h2 hk hf
      rw [m204_2]
      by_cases hj : j = 37
      · subst hj; exact k_q (by omega) (k_r ⟨hk, hf⟩)
      · refine k_p (by omega) (k_x (by omega) (by omega) (k_v (k_x (by omega) (by omega) (k_v (k_z (by omega) (by omega) ?_)))))
        refine ih (j + 1) _ (by omega) (by omega) (fun i i0 i1 => ?_) (fr_trans hf (fr_I rfl))
        by_cases e : i = (j : Int)
        · rw [e, sI_e]; exact hf.1 255 _ (by omega)
        · rw [sI_k e]; exact hk i i0 (by omega)
  unfold m204
  exact this zFu 0 s (by omega) (by unfold zFu; omega) (fun i i0 i1 => by omega) fr_refl
/-- the row is as it was -/
theorem R_tmp {n : Nat} {s t : zS} (hR : R n s) (hA : FrJ (fun a k => Scr (s.2.2 1) a k ∨ a = 254) s t) (h : ∀ i, 0 ≤ i → i < 37 → t.1 254 i = s.1 254 i) : R (n + 1) t := by
  have hLL := R_LL hR
  obtain ⟨b1, b2, b3, b4, b5, b6, b7, b8, b9, b10⟩ := R_cnt hR
  have h28 := R_28 hR
  have g : ∀ a k, ¬ (Scr (s.2.2 1) a k ∨ a = 254) → t.1 a k = s.1 a k := fun a k z => (hA.1 a k z).1
  unfold Scr at g
  refine R_act hR ⟨fun a k z => hA.1 a k (fun y => z (y.elim (fun y => Or.inr (Or.inr (Or.inr (Or.inr (Or.inr (Or.inr y)))))) (fun y => Or.inr (Or.inl y)))), hA.2⟩ ?_ ?_
  · refine ⟨sRel_eq (g 242 5 (by omega)) (g 242 6 (by omega)) (fun a k z1 z2 => g a k (by omega)) (fun i i0 i1 => h i i0 i1) b5 b8 (by show s.1 254 28 ≤ 8; omega) (R_now hR).1, ?_⟩
    rw [g 242 4 (by omega), g 242 5 (by omega), g 242 6 (by omega)]
    exact nInv_eq b5 b7 b8 (fun i i0 i1 => h i i0 i1) (R_now hR).2
  · exact rPast_eq (R_cnt hR) (fun k => g _ _ (by omega)) (g _ _ (by omega)) (g _ _ (by omega)) (g _ _ (by omega)) (g _ _ (by omega)) (fun a k q1 q2 => g _ _ (by omega)) (fun k => g _ _ (by omega)) (R_past hR)
section
variable {L : Nat} {s : zS} {w : Int}
theorem p142 {N : Int → Int} (hLL : L = 43 ∨ L = 66) (hL : rLand s.1 s.2.1 L) (hM : s.2.2 3 = L) (hS : sRel s.1 34 N) (hI : nInv (s.1 242 4) (s.1 242 5) (s.1 242 6) N) (w0 : 0 ≤ w) (w1 : w < s.1 242 6) : Ok (m142 34 w s) (fun _ t => sRel t.1 34 (oneN s.1 w N) ∧ Fr (fun a q => dFr 34 L a q ∨ (a = 34 ∧ q = 6)) s t) := by
  unfold m142
  refine k_c (p7 (A := 34) hLL (Or.inr rfl) hL hM hS hI w0 w1) ?_
  intro _ t ht
  obtain ⟨⟨z1, z2, z3, z4, z5, z6⟩, hf⟩ := ht
  refine k_v ?_
  have h0 : t.1 34 6 = N 0 := by rw [z1]; exact dyN_0 w0 (hI.2.2.2.1 w w0 w1).1
  have hI0 := hI.1
  refine k_z (by omega) (by omega) (k_v (k_r ⟨?_, fr_trans (fr_mono (fun a q z => Or.inl z) hf) (fr_I (Or.inr ⟨rfl, rfl⟩))⟩))
  have o : ∀ i, i ≠ 0 → oneN s.1 w N i = dyN s.1 N w i := fun i hi => if_neg hi
  refine ⟨?_, ?_, ?_, ?_, ?_, ?_⟩
  · rw [sI_e, z1]; rfl
  · rw [sI_k (by omega), o 1 (by omega)]; exact z2
  · intro p p0 p1; rw [sI_a (by omega)] at p1; rw [sI_a (by omega), o _ (by omega)]; exact z3 p p0 p1
  · intro v v0 v1; rw [sI_a (by omega)] at v1; rw [sI_a (by omega), sI_a (by omega), sI_a (by omega), o _ (by omega), o _ (by omega), o _ (by omega)]; exact z4 v v0 v1
  · rw [sI_k (by omega), o 28 (by omega)]; exact z5
  · intro q q0 q1; rw [o 28 (by omega)] at q1; rw [sI_a (by omega), o _ (by omega)]; exact z6 q q0 q1
theorem oneN_eq {f g : Nat → Int → Int} (e : eqL f g) (w : Int) (N : Int → Int) : oneN g w N = oneN f w N := by
  unfold oneN
  rw [dyN_eq e]
abbrev lFr (L : Nat) (a : Nat) (_ : Int) : Prop := (34 ≤ a ∧ a ≤ 39) ∨ a = 11 ∨ a = L + 19 ∨ a = L + 22
/-- the class's look ahead -/
theorem p119_42 {s0 : zS} {x y : Int} (hLL : L = 43 ∨ L = 66) (hL : rLand s0.1 s0.2.1 L) (hM : s0.2.2 3 = L) (w0 : 0 ≤ w) (w1 : w < s0.1 242 6) (x1 : x ≤ 60) : ∀ (n j : Nat) (k : Int) (s : zS) (N : Int → Int), k = x - (j : Int) → 0 ≤ k → j < n → sRel s.1 34 N → nInv (s0.1 242 4) (s0.1 242 5) (s0.1 242 6) N → N 0 + (j : Int) ≤ 999 → Fr (lFr L) s0 s → Ok (m119_42 n w x y k s) (fun r t => r = (if y = 0 then onesN s0.1 w j N (11 + 3 * w) - 1 else if y = 1 then onesN s0.1 w j N (12 + 3 * w) else if y = 2 then onesN s0.1 w j N (2 + onesN s0.1 w j N (10 + 3 * w)) else -1) ∧ Fr (lFr L) s0 t) := by
  have hm := mLand_of hL
  have h6 := hm.1
  intro n
  induction n with
  | zero => intro j k s N _ _ h; omega
  | succ n ih =>
    intro j k s N hk k0 hj hS hI h9 hs
    have hMs : s.2.2 3 = L := by rw [hs.2.2]; exact hM
    have ls := rLand_sfr (B := lFr L) hLL (fun a k q => by omega) hs hL
    have eqs : eqL s0.1 s.1 := eqL_fr hs (fun a k q => by omega)
    have e242 : s.1 242 = s0.1 242 := eqs.1
    rw [m119_42]
    cases j with
    | zero =>
      have yw := hS.2.2.2.1 w w0 (by rw [e242]; exact w1)
      have hq := hI.2.2.2.1 w w0 w1
      refine k_q (by omega) (k_i (fun c0 => ?_) (fun c0 => ?_))
      · rw [if_pos c0]
        exact k_x w0 (by omega) (k_v (k_r ⟨yw.2.1, hs⟩))
      rw [if_neg c0]
      refine k_i (fun c1 => ?_) (fun c1 => ?_)
      · rw [if_pos c1]
        exact k_x w0 (by omega) (k_v (k_r ⟨yw.2.2, hs⟩))
      rw [if_neg c1]
      refine k_i (fun c2 => ?_) (fun c2 => ?_)
      · rw [if_pos c2]
        have e36 : s.1 36 w = N (10 + 3 * w) := yw.1
        refine k_x w0 (by omega) (k_v ?_)
        rw [e36]
        exact k_x hq.1 (by omega) (k_v (k_r ⟨hS.2.2.1 _ hq.1 (by rw [e242]; exact hq.2.1), hs⟩))
      · rw [if_neg c2]; exact k_r ⟨rfl, hs⟩
    | succ j =>
      refine k_p (by omega) (k_c (p142 hLL ls hMs hS (by rw [e242]; exact hI) w0 (by rw [e242]; exact w1)) ?_)
      intro _ t ht
      rw [oneN_eq eqs] at ht
      exact k_z (by omega) (by omega) (ih j (k + 1) t (oneN s0.1 w N) (by omega) (by omega) (by omega) ht.1 (nInv_one hm rfl rfl rfl hI w0 w1 (by omega)) (by rw [one_0 hI w0 w1]; omega) (fr_trans hs (fr_mono (fun a q z => by omega) ht.2)))
theorem p120_47 {s0 : zS} {x : Int} (hLL : L = 43 ∨ L = 66) (hL : rLand s0.1 s0.2.1 L) (hM : s0.2.2 3 = L) (w0 : 0 ≤ w) (w1 : w < s0.1 242 6) (x1 : x ≤ 60) : ∀ (n j : Nat) (k : Int) (s : zS) (N : Int → Int), k = x - (j : Int) → 0 ≤ k → j + 1 < n → sRel s.1 34 N → nInv (s0.1 242 4) (s0.1 242 5) (s0.1 242 6) N → N 0 + (j : Int) ≤ 999 → Fr (lFr L) s0 s → Ok (m120_47 n w x k s) (fun r t => r = arrS (s0.1 246 (20 + 3 * w)) w (oneN s0.1 w) j k N ∧ Fr (lFr L) s0 t) := by
  have hm := mLand_of hL
  have h6 := hm.1
  have hgoal : s0.1 (L + 15) w = s0.1 246 (20 + 3 * w) := (hL.2.2.2.1 w w0 w1).2.2.1
  intro n
  induction n with
  | zero => intro j k s N _ _ h; omega
  | succ n ih =>
    intro j k s N hk k0 hj hS hI h9 hs
    have hMs : s.2.2 3 = L := by rw [hs.2.2]; exact hM
    have ls := rLand_sfr (B := lFr L) hLL (fun a k q => by omega) hs hL
    have eqs : eqL s0.1 s.1 := eqL_fr hs (fun a k q => by omega)
    have e242 : s.1 242 = s0.1 242 := eqs.1
    have yw := hS.2.2.2.1 w w0 (by rw [e242]; exact w1)
    rw [m120_47]
    refine k_q (by omega) (k_e (e5 (A := 34) w0 (by omega) hMs) ?_)
    rw [yw.2.1, hs.1 (L + 15) w (by omega), hgoal]
    by_cases c : N (11 + 3 * w) - 1 = s0.1 246 (20 + 3 * w)
    · rw [if_pos c]
      refine k_q (by decide) (k_r ⟨?_, hs⟩)
      cases j with
      | zero => show _ = (if _ = _ then k else _); rw [if_pos c]
      | succ j => show _ = (if _ = _ then k else _); rw [if_pos c]
    · rw [if_neg c]
      refine k_p rfl (k_c (p142 hLL ls hMs hS (by rw [e242]; exact hI) w0 (by rw [e242]; exact w1)) ?_)
      intro _ t ht
      rw [oneN_eq eqs] at ht
      have ft := fr_trans hs (fr_mono (fun a q z => by omega) ht.2)
      refine k_z (by omega) (by omega) ?_
      cases j with
      | zero =>
        have hn : ∃ m, n = m + 1 := ⟨n - 1, by omega⟩
        obtain ⟨m, rfl⟩ := hn
        rw [m120_47]
        refine k_p (by omega) (k_r ⟨?_, ft⟩)
        show _ = (if N (11 + 3 * w) - 1 = s0.1 246 (20 + 3 * w) then k else -1); rw [if_neg c]
      | succ j =>
        have := ih j (k + 1) t (oneN s0.1 w N) (by omega) (by omega) (by omega) ht.1 (nInv_one hm rfl rfl rfl hI w0 w1 (by omega)) (by rw [one_0 hI w0 w1]; omega) ft
        refine k_m this (fun r u q => ⟨?_, q.2⟩)
        rw [q.1]
        show _ = (if N (11 + 3 * w) - 1 = s0.1 246 (20 + 3 * w) then k else arrS (s0.1 246 (20 + 3 * w)) w (oneN s0.1 w) j (k + 1) (oneN s0.1 w N))
        rw [if_neg c]
end
