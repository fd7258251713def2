/-! ===== tells ===== -/
def bst (g : Int → Int) : Nat → Int → Int → Int
  | 0, b, _ => b
  | j + 1, b, k => if g k < g b then bst g j k (k + 1) else bst g j b (k + 1)
theorem bst_in {g : Int → Int} : ∀ (j : Nat) (b k : Int), 0 ≤ b → b < k → 0 ≤ bst g j b k ∧ bst g j b k < k + (j : Int) := by
  intro j
  induction j with
  | zero => intro b k h1 h2; exact ⟨h1, by show b < k + 0; omega⟩
  | succ j ih =>
    intro b k h1 h2
    unfold bst
    split
    · have := ih k (k + 1) (by omega) (by omega); omega
    · have := ih b (k + 1) h1 (by omega); omega
/-- the most of them that are at one place behind k legs -/
def mxL (f : Nat → Int → Int) (l : List (Int × Int)) (k : Int) : Int := mx (fun p => cnt f l k.toNat p) 7 0 0
theorem mxL_in {f : Nat → Int → Int} {l : List (Int × Int)} {k : Int} : 0 ≤ mxL f l k ∧ mxL f l k ≤ (l.length : Int) := by
  unfold mxL
  exact mx_in 7 0 0 (by omega) (by omega) (fun i _ _ => cnt_in.2)
section
variable {s : zS} {f : Nat → Int → Int} {l : List (Int × Int)}
theorem e16_4 {k : Int} (k0 : 0 ≤ k) (k1 : k ≤ 30) (hc : ∀ (n : Nat) (p : Int), n ≤ 30 → 0 ≤ p → p < 7 → s.1 27 (7 * (n : Int) + p) = cnt f l n p) : ∀ (n j : Nat) (p m : Int), p = 7 - (j : Int) → 0 ≤ p → j < n → m16_4 n k m p s = some (mx (fun p => cnt f l k.toNat p) j p m, s) := by
  intro n
  induction n with
  | zero => intro j p m _ _ h; omega
  | succ n ih =>
    intro j p m hp p0 hj
    rw [m16_4]
    cases j with
    | zero => rw [if_neg (by omega)]; rfl
    | succ j =>
      have := hc k.toNat p (by omega) p0 (by omega)
      rw [show 7 * ((k.toNat : Nat) : Int) + p = k * 7 + p by omega] at this
      rw [if_pos (by omega), oZ_pos (by omega) (by omega), oZ_pos (by omega) (by omega), oX_pos (by omega) (by omega), oV_eq, this, e288, oC_some, oZ_pos (by omega) (by omega), ih j (p + 1) _ (by omega) (by omega) (by omega)]
      rfl
theorem e16 {k : Int} (k0 : 0 ≤ k) (k1 : k ≤ 30) (hc : ∀ (n : Nat) (p : Int), n ≤ 30 → 0 ≤ p → p < 7 → s.1 27 (7 * (n : Int) + p) = cnt f l n p) : m16 k s = some (mxL f l k, s) := by
  unfold m16 mxL
  exact e16_4 k0 k1 hc zFu 7 0 0 (by omega) (by omega) (by unfold zFu; omega)
theorem e17 (hc : ∀ (n : Nat) (p : Int), n ≤ 30 → 0 ≤ p → p < 7 → s.1 27 (7 * (n : Int) + p) = cnt f l n p) : ∀ (n j : Nat) (b k : Int), k = 31 - (j : Int) → 0 ≤ b → b < k → j < n → m17_4 n b k s = some (bst (mxL f l) j b k, s) := by
  intro n
  induction n with
  | zero => intro j b k _ _ _ h; omega
  | succ n ih =>
    intro j b k hk b0 b1 hj
    rw [m17_4]
    cases j with
    | zero => rw [if_pos (by omega)]; rfl
    | succ j =>
      rw [if_neg (by omega), e16 (by omega) (by omega) hc, oC_some, e16 b0 (by omega) hc, oC_some]
      show _ = some (if mxL f l k < mxL f l b then bst (mxL f l) j k (k + 1) else bst (mxL f l) j b (k + 1), s)
      by_cases c : mxL f l k < mxL f l b
      · rw [if_pos c, if_pos c, oZ_pos (by omega) (by omega), ih j k (k + 1) (by omega) (by omega) (by omega) (by omega)]
      · rw [if_neg c, if_neg c, oZ_pos (by omega) (by omega), ih j b (k + 1) (by omega) b0 (by omega) (by omega)]
/-- the reference counts those at a place -/
theorem p237_18 {k p m : Int} {K : Int → Int → Int → zS → Option (Int × zS)} {P : Int → zS → Prop} (k0 : 0 ≤ k) (k1 : k ≤ 30) (hl : l.length ≤ 48) (p0 : 0 ≤ p) (p1 : p < 7) (hG : mGot f l s) (hK : Ok (K k (if m < cnt f l k.toNat p then cnt f l k.toNat p else m) (p + 1) s) P) : ∀ (n j : Nat) (i a : Int), i = (l.length : Int) - (j : Int) → 0 ≤ i → j < n → 0 ≤ a → a ≤ i → a + ((l.drop i.toNat).countP (fun x => decide (pth f x k.toNat = p)) : Nat) = cnt f l k.toNat p → Ok (m237_18 K n k m p a i s) P := by
  intro n
  induction n with
  | zero => intro j i a _ _ h; omega
  | succ n ih =>
    intro j i a hi i0 hj a0 a1 ha
    rw [m237_18]
    refine k_v ?_
    rw [hG.1]
    cases j with
    | zero =>
      have ed : l.drop i.toNat = [] := List.drop_eq_nil_of_le (by omega)
      rw [ed] at ha
      have ea : a = cnt f l k.toNat p := by rw [← ha]; simp
      refine k_q (by omega) ?_
      rw [ea]
      refine k_i (fun c => ?_) (fun c => ?_)
      · rw [if_pos c] at hK; exact k_z (by omega) (by omega) hK
      · rw [if_neg c] at hK; exact k_z (by omega) (by omega) hK
    | succ j =>
      have hlt : i.toNat < l.length := by omega
      have ex : l[i.toNat]? = some l[i.toNat] := List.getElem?_eq_getElem hlt
      have hw := hG.2.2.2 i.toNat k.toNat l[i.toNat] ex (by omega)
      rw [show 31 * ((i.toNat : Nat) : Int) + ((k.toNat : Nat) : Int) = 31 * i + k by omega] at hw
      have ed : l.drop i.toNat = l[i.toNat] :: l.drop (i + 1).toNat := by
        rw [List.drop_eq_getElem_cons hlt, show i.toNat + 1 = (i + 1).toNat by omega]
      rw [ed, List.countP_cons] at ha
      refine k_p (by omega) (k_z (by omega) (by omega) (k_z (by omega) (by omega) (k_x (by omega) (by omega) (k_v ?_))))
      rw [hw]
      refine k_i (fun c => ?_) (fun c => ?_)
      · rw [if_pos (by simp [c])] at ha
        exact k_z (by omega) (by omega) (k_z (by omega) (by omega) (ih j (i + 1) (a + 1) (by omega) (by omega) (by omega) (by omega) (by omega) (by omega)))
      · rw [if_neg (by simp [c])] at ha
        exact k_z (by omega) (by omega) (ih j (i + 1) a (by omega) (by omega) (by omega) a0 (by omega) (by omega))
theorem p237_4 {k : Int} (k0 : 0 ≤ k) (k1 : k ≤ 30) (hl : l.length ≤ 48) (hG : mGot f l s) (h0 : 0 ≤ s.1 242 4) (h7 : s.1 242 4 ≤ 7) : ∀ (n j : Nat) (p m : Int), p = s.1 242 4 - (j : Int) → 0 ≤ p → j < n → Ok (m237_4 n k m p s) (fun r t => r = mx (fun p => cnt f l k.toNat p) j p m ∧ t = s) := by
  intro n
  induction n with
  | zero => intro j p m _ _ h; omega
  | succ n ih =>
    intro j p m hp p0 hj
    rw [m237_4]
    refine k_e e181 ?_
    cases j with
    | zero => exact k_q (by omega) (k_r ⟨rfl, rfl⟩)
    | succ j =>
      refine k_p (by omega) (p237_18 (f := f) (l := l) k0 k1 hl p0 (by omega) hG ?_ zFu l.length 0 0 (by omega) (by omega) (by unfold zFu; omega) (by omega) (by omega) ?_)
      · exact ih j (p + 1) _ (by omega) (by omega) (by omega)
      · show (0 : Int) + ((l.drop 0).countP (fun x => decide (pth f x k.toNat = p)) : Nat) = cnt f l k.toNat p
        rw [List.drop_zero]; unfold cnt; omega
/-- all of them are at places that there are -/
theorem e237 {k : Int} (k0 : 0 ≤ k) (k1 : k ≤ 30) (hl : l.length ≤ 48) (hG : mGot f l s) (h0 : 0 ≤ s.1 242 4) (h7 : s.1 242 4 ≤ 7) (hin : ∀ x, x ∈ l → ∀ n : Nat, pth f x n < s.1 242 4) : m237 k s = some (mxL f l k, s) := by
  have h := p237_4 (f := f) (l := l) k0 k1 hl hG h0 h7 zFu (s.1 242 4).toNat 0 0 (by omega) (by omega) (by unfold zFu; omega)
  have e : mx (fun p => cnt f l k.toNat p) (s.1 242 4).toNat 0 0 = mxL f l k := by
    have h1 := mx_add (g := fun p => cnt f l k.toNat p) (s.1 242 4).toNat (7 - (s.1 242 4).toNat) 0 0
    rw [show (s.1 242 4).toNat + (7 - (s.1 242 4).toNat) = 7 by omega] at h1
    have h2 := mx_in (g := fun p => cnt f l k.toNat p) (c := (l.length : Int)) (s.1 242 4).toNat 0 0 (by omega) (by omega) (fun i _ _ => cnt_in.2)
    have h3 := mx_zero (g := fun p => cnt f l k.toNat p) (7 - (s.1 242 4).toNat) (0 + ((s.1 242 4).toNat : Int)) (mx (fun p => cnt f l k.toNat p) (s.1 242 4).toNat 0 0) h2.1 (fun i i0 i1 => by
      show cnt f l k.toNat i = 0
      unfold cnt
      rw [List.countP_eq_zero.mpr]
      · rfl
      · intro x hx
        have := hin x hx k.toNat
        simp only [decide_eq_true_eq]
        omega)
    unfold mxL
    rw [h1, h3]
  rw [e] at h
  unfold m237
  exact ok_eq h
/-- the reference's loop: from leg 1 on -/
theorem e238_23 {x : Int} (hl : l.length ≤ 48) (hl0 : 0 < l.length) (hG : mGot f l s) (h0 : 0 ≤ s.1 242 4) (h7 : s.1 242 4 ≤ 7) (hin : ∀ x, x ∈ l → ∀ n : Nat, pth f x n < s.1 242 4) : ∀ (n j : Nat) (b k : Int), k = 31 - (j : Int) → 0 ≤ b → b < k → j < n → m238_23 n x b (mxL f l b) k s = some (if x = 0 then bst (mxL f l) j b k else mxL f l (bst (mxL f l) j b k), s) := by
  intro n
  induction n with
  | zero => intro j b k _ _ _ h; omega
  | succ n ih =>
    intro j b k hk b0 b1 hj
    rw [m238_23]
    cases j with
    | zero =>
      rw [if_pos (by omega)]
      unfold m238_71
      rw [if_neg (by omega)]
      show _ = some (if x = 0 then b else mxL f l b, s)
      split <;> rfl
    | succ j =>
      rw [if_neg (by omega), oV_eq, hG.1, if_pos (by omega), e237 (by omega) (by omega) hl hG h0 h7 hin, oC_some, if_neg (by omega)]
      show _ = some (if x = 0 then (if mxL f l k < mxL f l b then bst (mxL f l) j k (k + 1) else bst (mxL f l) j b (k + 1)) else mxL f l (if mxL f l k < mxL f l b then bst (mxL f l) j k (k + 1) else bst (mxL f l) j b (k + 1)), s)
      by_cases c : mxL f l k < mxL f l b
      · rw [if_pos c, if_pos c, oZ_pos (by omega) (by omega), ih j k (k + 1) (by omega) (by omega) (by omega) (by omega)]
      · rw [if_neg c, if_neg c, oZ_pos (by omega) (by omega), ih j b (k + 1) (by omega) b0 (by omega) (by omega)]
end
theorem fitW_mem {f : Nat → Int → Int} : ∀ (j : Nat) (w : Int) (x : Int × Int), x ∈ fitW f j w → (w ≤ x.1 ∧ x.1 < w + (j : Int)) ∧ 0 ≤ x.2 ∧ x.2 < ((f 242 5).toNat : Int) := by
  have hP : ∀ (w : Int) (j : Nat) (k : Int) (x : Int × Int), x ∈ fitP f w j k → x.1 = w ∧ k ≤ x.2 ∧ x.2 < k + (j : Int) := by
    intro w j
    induction j with
    | zero => intro k x h; simp [fitP] at h
    | succ j ih =>
      intro k x h
      have h' : x ∈ (if fitB f (w, k) = true then [(w, k)] else []) ++ fitP f w j (k + 1) := h
      rcases List.mem_append.mp h' with q | q
      · split at q
        · simp at q; subst q; exact ⟨rfl, by show k ≤ k; omega, by show k < k + _; omega⟩
        · simp at q
      · have := ih (k + 1) x q; omega
  intro j
  induction j with
  | zero => intro w x h; simp [fitW] at h
  | succ j ih =>
    intro w x h
    have h' : x ∈ fitP f w (f 242 5).toNat 0 ++ fitW f j (w + 1) := h
    rcases List.mem_append.mp h' with q | q
    · have := hP w _ 0 x q; omega
    · have := ih (w + 1) x q; omega
theorem fitW_len {f : Nat → Int → Int} (h : f 242 5 ≤ 8) : ∀ (j : Nat) (w : Int), (fitW f j w).length ≤ 8 * j := by
  intro j
  induction j with
  | zero => intro w; exact Nat.le_refl 0
  | succ j ih =>
    intro w
    show (fitP f w (f 242 5).toNat 0 ++ fitW f j (w + 1)).length ≤ 8 * (j + 1)
    rw [List.length_append]
    have := ih (w + 1)
    have := fitP_len (f := f) (w := w) (f 242 5).toNat 0
    omega
theorem t123 : T123 := by
  intro n s x hx hR hn
  have hLL := R_LL hR
  obtain ⟨b1, b2, b3, b4, b5, b6, b7, b8, b9, b10⟩ := R_cnt hR
  by_cases c : 0 ≤ x ∧ x ≤ 1
  · unfold Two m123
    refine k_q (by omega) (k_q (by omega) (k_v (k_c (p13 hR) ?_)))
    intro _ s1 h1
    obtain ⟨⟨g1, g2, g3, g4⟩, f1⟩ := h1
    have hR1 : R n s1 := R_fr hR (frj_of (fr_mono (fun a k z => scr_f z) f1))
    obtain ⟨e1, e2, e3, e4⟩ := fFr_keep hLL f1
    have hmem := fitW_mem (f := s.1) (s.1 242 6).toNat 0
    have hlen := fitW_len (f := s.1) b5 (s.1 242 6).toNat 0
    have hpin : ∀ y, y ∈ fitW s.1 (s.1 242 6).toNat 0 → ∀ m : Nat, pth s.1 y m < s.1 242 4 := fun y hy m => by
      have := hmem y hy
      exact (pth_in hR (x := y) (by omega) (by omega) (by omega) (by omega) m).2
    generalize hfl : fitW s.1 (s.1 242 6).toNat 0 = fl at *
    refine k_v ?_
    rw [g1]
    -- the reference's
    have ref : ∀ r, (fl.length = 0 → r = -1) → (0 < fl.length → r = (if x = 0 then bst (mxL s.1 fl) 30 0 1 else mxL s.1 fl (bst (mxL s.1 fl) 30 0 1))) → Ok (m238 x s1) (fun r' s2 => r = r' ∧ R (n + 1) s2) := by
      intro r h0 hp
      unfold m238
      refine k_e e150 ?_
      rw [if_pos c]
      refine k_q (by decide) (k_c (p235 hR1) ?_)
      intro _ t ht
      obtain ⟨y, ft⟩ := ht
      rw [fitW_eq e1 e2 e3 e4, e1.1, hfl] at y
      have hRt := R_up (R_fr hR1 (frj_mono (fun a k z => scr_h z) ft))
      have y' : mGot s.1 fl t := ⟨y.1, y.2.1, y.2.2.1, fun i m z hz hm => by rw [y.2.2.2 i m z hz hm]; exact pth_eq e1 e2 z m⟩
      have t242 : t.1 242 4 = s.1 242 4 := by rw [(ft.1 242 4 (by omega)).1, e1.1]
      have hz : zFu = 999999 + 1 := rfl
      rw [hz, m238_23]
      refine k_q (by omega) (k_v ?_)
      rw [y'.1]
      by_cases d : fl.length = 0
      · refine k_q (by omega) ?_
        unfold m238_71
        exact k_p rfl (k_r ⟨h0 d, hRt⟩)
      · have d' : 0 < fl.length := Nat.pos_of_ne_zero d
        refine k_p (by omega) (k_e (e237 (f := s.1) (l := fl) (by omega) (by omega) (by omega) y' (by rw [t242]; exact b2) (by rw [t242]; exact b3) (by rw [t242]; exact hpin)) (k_p rfl (k_z (by omega) (by omega) ?_)))
        refine k_eq (e238_23 (f := s.1) (l := fl) (by omega) d' y' (by rw [t242]; exact b2) (by rw [t242]; exact b3) (by rw [t242]; exact hpin) 999999 30 0 (0 + 1) (by omega) (by omega) (by omega) (by omega)) ⟨?_, hRt⟩
        rw [show (0 : Int) + 1 = 1 by omega]
        exact hp d'
    refine k_i (fun d => k_r (ref (-1) (fun _ => rfl) (fun z => by omega))) (fun d => ?_)
    have hb := bst_in (g := mxL s.1 fl) 30 0 1 (by omega) (by omega)
    have e17' : m17 s1 = some (bst (mxL s.1 fl) 30 0 1, s1) := by
      unfold m17
      exact e17 g4 zFu 30 0 1 (by omega) (by omega) (by omega) (by unfold zFu; omega)
    refine k_e e17' (k_i (fun e => k_r (ref _ (fun z => by omega) (fun _ => by rw [if_pos e]))) (fun e => ?_))
    refine k_e (e16 hb.1 (by omega) g4) (k_r (ref _ (fun z => by omega) (fun _ => by rw [if_neg e])))
  · have fin : Ok (m238 x s) (fun r' s2 => -1 = r' ∧ R (n + 1) s2) := by
      unfold m238
      refine k_e e150 ?_
      rw [if_neg c]
      exact k_p rfl (k_r ⟨rfl, R_up hR⟩)
    unfold Two m123
    by_cases c0 : x < 0
    · exact k_p c0 (k_r fin)
    · exact k_q c0 (k_p (by omega) (k_r fin))
