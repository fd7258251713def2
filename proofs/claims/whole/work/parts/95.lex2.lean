/-! ===== words and signs, in both ===== -/
/-- the class's words -/
def sL (k : Nat) : List Int := (aSS.getD k []).map Int32.toInt
theorem sL_len (k : Nat) : zSl k = ((sL k).length : Int) := by unfold zSl sL; rw [List.length_map]
theorem sL_at (k i : Nat) : zSc k (i : Int) = (sL k).getD i 0 := by
  unfold zSc sL
  rw [show ((i : Int)).toNat = i by omega]
  simp only [List.getD_eq_getElem?_getD, List.getElem?_map]
  cases (aSS[k]?.getD [])[i]? <;> rfl
/-- whether these letters stand from p on -/
def lxE (g : Int → Int) : Int → List Int → Bool
  | _, [] => true
  | p, c :: l => decide (g p = c) && lxE g (p + 1) l
def isW (g : Int → Int) (e F E : Int) (l : List Int) : Bool := decide (tkK g e F E = 1) && (decide (tkB g e F = F + (l.length : Int)) && lxE g F l)
theorem isW_t {g : Int → Int} {e F E : Int} {l : List Int} (h : isW g e F E l = true) : tkK g e F E = 1 ∧ tkB g e F = F + (l.length : Int) := by
  unfold isW at h
  rw [Bool.and_eq_true, Bool.and_eq_true, decide_eq_true_eq, decide_eq_true_eq] at h
  exact ⟨h.1, h.2.1⟩
theorem tkK_1 {g : Int → Int} {e F E : Int} (h : tkK g e F E = 1) : F < e ∧ kindB (g F) = 1 ∧ F ≠ E := by
  unfold tkK at h
  by_cases c : F < e
  · rw [if_pos c] at h
    by_cases d : (kindB (g F) = 1 ∨ kindB (g F) = 2) ∧ F = E
    · rw [if_pos d] at h; omega
    · rw [if_neg d] at h
      exact ⟨c, h, fun z => d ⟨Or.inl h, z⟩⟩
  · rw [if_neg c] at h; omega
theorem tkK_2 {g : Int → Int} {e F E : Int} (h : tkK g e F E = 2) : F < e ∧ kindB (g F) = 2 ∧ F ≠ E := by
  unfold tkK at h
  by_cases c : F < e
  · rw [if_pos c] at h
    by_cases d : (kindB (g F) = 1 ∨ kindB (g F) = 2) ∧ F = E
    · rw [if_pos d] at h; omega
    · rw [if_neg d] at h
      exact ⟨c, h, fun z => d ⟨Or.inr h, z⟩⟩
  · rw [if_neg c] at h; omega
theorem tkK_k {g : Int → Int} {e F E : Int} (h1 : F < e) (h2 : F ≠ E) : tkK g e F E = kindB (g F) := by
  unfold tkK
  rw [if_pos h1, if_neg (fun z => h2 z.2)]
theorem tkK_3 {g : Int → Int} {e F E : Int} (h1 : F < e) (h2 : kindB (g F) = 3) : tkK g e F E = 3 := by
  unfold tkK
  rw [if_pos h1, if_neg (fun z => by omega)]
  exact h2
theorem tkB_1 {g : Int → Int} {e F : Int} (h1 : F < e) (h2 : kindB (g F) = 1 ∨ kindB (g F) = 2) : tkB g e F = lxS g e (kindB (g F)) F := by
  unfold tkB
  rw [if_pos h1, if_pos h2]
theorem tkB_3 {g : Int → Int} {e F : Int} (h1 : F < e) (h2 : kindB (g F) = 3) : tkB g e F = F + 1 := by
  unfold tkB
  rw [if_pos h1, if_neg (fun z => by omega)]
section
variable {g : Int → Int} {e F E : Int} {s : zS}
theorem bW (ht : tOk g e) (hW : lxW g e F E) {i : Int} (h0 : F ≤ i) (h1 : i < tkB g e F) : 0 ≤ i ∧ i < 1600 ∧ 0 ≤ g i ∧ g i ≤ 255 := by
  have := tkB_in hW
  have := ht.2.1
  have := hW.1
  have := ht.2.2 i (by omega) (by omega)
  omega
theorem e80_31 (ht : tOk g e) (hW : lxW g e F E) (h : cLx g e F E s) {k : Nat} (hl : tkB g e F = F + ((sL k).length : Int)) : ∀ (n j i : Nat), i + j = (sL k).length → j < n → m80_31 n k (F + (i : Int)) s = some (if lxE g (F + (i : Int)) ((sL k).drop i) = true then 1 else 0, s) := by
  obtain ⟨h1, h3, h4, h8⟩ := h
  have hB := tkB_in hW
  have hle := ht.2.1
  have hF0 := hW.1
  intro n
  induction n with
  | zero => intro j i _ h; omega
  | succ n ih =>
    intro j i hij hj
    rw [m80_31, oV_eq, h8, hl]
    cases j with
    | zero =>
      rw [if_neg (by omega), List.drop_of_length_le (by omega)]
      rfl
    | succ j =>
      have hi : i < (sL k).length := by omega
      rw [if_pos (by omega), oV_eq, h4, oZ_pos (by omega) (by omega), show F + (i : Int) - F = (i : Int) by omega]
      unfold oW
      rw [sL_len, if_pos ⟨by omega, by omega⟩, oV_eq, sL_at, oX_pos (by omega) (by omega), oV_eq, h1.2.1 _ (by omega) (by omega), List.drop_eq_getElem_cons hi]
      have e0 : (sL k).getD i 0 = (sL k)[i] := by rw [List.getD_eq_getElem?_getD, List.getElem?_eq_getElem hi]; rfl
      rw [e0]
      show _ = some (if (decide (g (F + (i : Int)) = (sL k)[i]) && lxE g (F + (i : Int) + 1) ((sL k).drop (i + 1))) = true then 1 else 0, s)
      by_cases c : (sL k)[i] = g (F + (i : Int))
      · rw [if_pos c, oZ_pos (by omega) (by omega), show F + (i : Int) + 1 = F + ((i + 1 : Nat) : Int) by omega, ih j (i + 1) (by omega) (by omega)]
        simp only [c, decide_true, Bool.true_and]
      · rw [if_neg c]
        have c' : ¬ g (F + (i : Int)) = (sL k)[i] := fun z => c z.symm
        simp only [c', decide_false, Bool.false_and, Bool.false_eq_true, if_false]
/-- the class's isWord -/
theorem e80 (ht : tOk g e) (hW : lxW g e F E) (h : cLx g e F E s) (k : Nat) : m80 k s = some (if isW g e F E (sL k) = true then 1 else 0, s) := by
  have hB := tkB_in hW
  have hle := ht.2.1
  have hF0 := hW.1
  unfold m80 isW
  rw [oV_eq, h.2.1]
  by_cases c : tkK g e F E = 1
  · rw [if_pos c, oV_eq, h.2.2.2, oV_eq, h.2.2.1, oZ_pos (by omega) (by omega), oV_eq, sL_len]
    by_cases d : tkB g e F = F + ((sL k).length : Int)
    · rw [if_pos (by omega), oV_eq]
      have := e80_31 ht hW h d zFu (sL k).length 0 (by omega) (by unfold zFu; have := hB.2.1; omega)
      rw [show F + ((0 : Nat) : Int) = F by omega, List.drop_zero] at this
      rw [this]
      simp only [c, d, decide_true, Bool.true_and]
    · rw [if_neg (by omega)]
      simp only [d, decide_false, Bool.false_and, Bool.and_false, Bool.false_eq_true, if_false]
  · rw [if_neg c]
    simp only [c, decide_false, Bool.false_and, Bool.false_eq_true, if_false]
/-- the class's isSign -/
theorem e79 (ht : tOk g e) (hW : lxW g e F E) (h : cLx g e F E s) {c : Int} (hc : kindB c = 3) : m79 c s = some (if F < e ∧ g F = c then 1 else 0, s) := by
  have hle := ht.2.1
  have hF0 := hW.1
  unfold m79
  rw [oV_eq, h.2.1]
  by_cases d : tkK g e F E = 3
  · rw [if_pos d, oV_eq, oV_eq, h.2.2.1, h.1.1]
    by_cases f : F < e
    · rw [if_pos f, oV_eq, oX_pos (by omega) (by omega), oV_eq, h.1.2.1 F (by omega) (by omega)]
      by_cases x : g F = c
      · rw [if_pos x, if_pos ⟨f, x⟩]
      · rw [if_neg x, if_neg (fun z => x z.2)]
    · rw [if_neg f, if_neg (fun z => f z.1)]
  · rw [if_neg d, if_neg (fun z => d (tkK_3 z.1 (by rw [z.2]; exact hc)))]
end
abbrev cfF (a : Nat) (k : Int) : Prop := a = 1 ∧ (k = 5 ∨ k = 6)
theorem p77 {w p : Int} {s : zS} : Ok (m77 w p s) (fun r t => r = 0 ∧ t.1 1 5 = w ∧ t.1 1 6 = p ∧ Fr cfF s t) := by
  unfold m77
  refine k_v (k_v (k_r ⟨rfl, ?_, ?_, fr_trans (fr_I (by omega)) (fr_I (by omega))⟩))
  · rw [sI_k (by omega), sI_e]
  · rw [sI_e]
theorem p78 {F : Int} {s : zS} (h : s.1 1 4 = F) : Ok (m78 s) (fun r t => r = 0 ∧ t.1 1 5 = 1 ∧ t.1 1 6 = F ∧ Fr cfF s t) := by
  unfold m78
  refine k_v (k_v (k_v (k_r ⟨rfl, ?_, ?_, fr_trans (fr_I (by omega)) (fr_I (by omega))⟩)))
  · rw [sI_k (by omega), sI_e]
  · rw [sI_e, sI_k (by omega)]; exact h
/-! ===== the reference's ===== -/
def rTp (g : Int → Int) (e : Int) (s : zS) : Prop := s.1 209 3 = e ∧ ∀ k, 0 ≤ k → k < 1600 → s.1 210 k = g k
def rLx (g : Int → Int) (e F E : Int) (s : zS) : Prop := rTp g e s ∧ s.1 209 5 = 0 ∧ 0 ≤ s.1 209 2 ∧ lxP g e 4 (s.1 209 2) F ∧ s.1 209 4 = E
abbrev yF (a : Nat) (k : Int) : Prop := a = 209 ∧ (k = 2 ∨ k = 4)
abbrev yfF (a : Nat) (k : Int) : Prop := a = 209 ∧ (k = 2 ∨ k = 4 ∨ k = 5 ∨ k = 6)
theorem rTp_fr {g : Int → Int} {e : Int} {s t : zS} {A : Nat → Int → Prop} (hA : ∀ a k, A a k → ¬ (a = 209 ∧ k = 3) ∧ a ≠ 210) (hf : FrJ A s t) (h : rTp g e s) : rTp g e t :=
  ⟨by rw [(hf.1 209 3 (fun z => (hA 209 3 z).1 ⟨rfl, rfl⟩)).1]; exact h.1, fun k k0 k1 => by rw [(hf.1 210 k (fun z => (hA 210 k z).2 rfl)).1]; exact h.2 k k0 k1⟩
theorem rLx_fr {g : Int → Int} {e F E : Int} {s t : zS} {A : Nat → Int → Prop} (hA : ∀ a k, A a k → ¬ (a = 209 ∧ 2 ≤ k ∧ k ≤ 5) ∧ a ≠ 210) (hf : FrJ A s t) (h : rLx g e F E s) : rLx g e F E t := by
  have e2 := (hf.1 209 2 (fun z => (hA 209 2 z).1 ⟨rfl, by omega, by omega⟩)).1
  refine ⟨rTp_fr (fun a k z => ⟨fun y => (hA a k z).1 ⟨y.1, by omega, by omega⟩, (hA a k z).2⟩) hf h.1, ?_, ?_, ?_, ?_⟩
  · rw [(hf.1 209 5 (fun z => (hA 209 5 z).1 ⟨rfl, by omega, by omega⟩)).1]; exact h.2.1
  · rw [e2]; exact h.2.2.1
  · rw [e2]; exact h.2.2.2.1
  · rw [(hf.1 209 4 (fun z => (hA 209 4 z).1 ⟨rfl, by omega, by omega⟩)).1]; exact h.2.2.2.2
def lkV (g : Int → Int) (e F : Int) : Int := if F < e then g F else -1
section
variable {g : Int → Int} {e F E : Int} {s : zS}
theorem p156_0 (ht : tOk g e) : ∀ (n : Nat) (s : zS), rLx g e F E s → (F - s.1 209 2).toNat < n → Ok (m156_0 n s) (fun r t => r = lkV g e F ∧ t.1 209 2 = F ∧ rLx g e F E t ∧ Fr yF s t) := by
  have hle := ht.2.1
  intro n
  induction n with
  | zero => intro s _ h; omega
  | succ n ih =>
    intro s h hn
    obtain ⟨h1, h5, h0, hp, h4⟩ := h
    obtain ⟨q1, q2, q3, q4⟩ := hp
    rw [m156_0]
    have stop : s.1 209 2 = F → Ok (m156_52 s) (fun r t => r = lkV g e F ∧ t.1 209 2 = F ∧ rLx g e F E t ∧ Fr yF s t) := by
      intro z
      unfold m156_52
      refine k_v (k_v ?_)
      rw [h1.1, z]
      refine k_i (fun y => k_v ?_) (fun y => k_r ⟨by unfold lkV; rw [if_neg y], z, ⟨h1, h5, h0, ⟨q1, q2, q3, q4⟩, h4⟩, fr_refl⟩)
      refine k_x (by omega) (by omega) (k_v (k_r ⟨?_, z, ⟨h1, h5, h0, ⟨q1, q2, q3, q4⟩, h4⟩, fr_refl⟩))
      unfold lkV
      rw [if_pos y, h1.2 F (by omega) (by omega)]
    have go : s.1 209 2 < F → Ok (m156_39 (m156_0 n) s) (fun r t => r = lkV g e F ∧ t.1 209 2 = F ∧ rLx g e F E t ∧ Fr yF s t) := by
      intro z
      unfold m156_39
      refine k_v (k_z (by omega) (by omega) (k_v ?_))
      have e2 : (sI s 209 2 (s.1 209 2 + 1)).1 209 2 = s.1 209 2 + 1 := sI_e
      have fr : Fr yF s (sI s 209 2 (s.1 209 2 + 1)) := fr_I (by omega)
      refine k_m (ih _ ⟨rTp_fr (A := yF) (fun a k z => by omega) (frj_of fr) h1, by rw [sI_k (by omega)]; exact h5, by rw [e2]; omega, ?_, by rw [sI_k (by omega)]; exact h4⟩ (by rw [e2]; omega)) (fun r t y => ⟨y.1, y.2.1, y.2.2.1, fr_trans fr y.2.2.2⟩)
      rw [e2]
      exact ⟨by omega, q2, fun i a b => q3 i (by omega) b, q4⟩
    refine k_v (k_v ?_)
    rw [h1.1]
    by_cases c : s.1 209 2 < F
    · have hb := kB_4.mp (q3 (s.1 209 2) (by omega) c)
      refine k_p (by omega) (k_v (k_x (by omega) (by omega) (k_v ?_)))
      rw [h1.2 _ h0 (by omega)]
      refine k_i (fun _ => go c) (fun y => k_v (k_x (by omega) (by omega) (k_v ?_)))
      rw [h1.2 _ h0 (by omega)]
      exact k_p (by omega) (go c)
    · have ef : s.1 209 2 = F := by omega
      refine k_i (fun z => k_v (k_x (by omega) (by omega) (k_v ?_))) (fun z => stop ef)
      rw [h1.2 _ h0 (by omega)]
      have nb : ¬ (g (s.1 209 2) = 10 ∨ g (s.1 209 2) = 32) := fun y => (q4 (by omega)) (by rw [← ef]; exact kB_4.mpr y)
      refine k_q (fun y => nb (Or.inl y)) (k_v (k_x (by omega) (by omega) (k_v ?_)))
      rw [h1.2 _ h0 (by omega)]
      exact k_q (fun y => nb (Or.inr y)) (stop ef)
/-- look -/
theorem p156 (ht : tOk g e) (h : rLx g e F E s) : Ok (m156 s) (fun r t => r = lkV g e F ∧ t.1 209 2 = F ∧ rLx g e F E t ∧ Fr yF s t) := by
  unfold m156
  refine p156_0 ht zFu s h ?_
  have := ht.2.1
  have := h.2.2.1
  have := h.2.2.2.1.2.1
  unfold zFu
  omega
theorem e154 {x : Int} : m154 x s = some (if 97 ≤ x ∧ x ≤ 122 then 1 else 0, s) := by
  unfold m154
  by_cases c : x < 97
  · rw [if_pos c, if_neg (by omega)]
  · rw [if_neg c]
    by_cases d : 122 < x
    · rw [if_pos d, if_neg (by omega)]
    · rw [if_neg d, if_pos (by omega)]
theorem e155 {x : Int} : m155 x s = some (if 48 ≤ x ∧ x ≤ 57 then 1 else 0, s) := by
  unfold m155
  by_cases c : x < 48
  · rw [if_pos c, if_neg (by omega)]
  · rw [if_neg c]
    by_cases d : 57 < x
    · rw [if_pos d, if_neg (by omega)]
    · rw [if_neg d, if_pos (by omega)]
def rWd (s : zS) (a : Nat) (l : List Int) : Prop := ∀ i : Nat, i < l.length → s.1 a (i : Int) = l.getD i 0
theorem e157_76 (ht : tOk g e) (h1 : rTp g e s) (h2 : s.1 209 2 = F) (F0 : 0 ≤ F) {a : Nat} {l : List Int} (hl : F + (l.length : Int) ≤ e) (hw : rWd s a l) : ∀ (n j i : Nat), i + j = l.length → j < n → m157_76 n l.length a (i : Int) s = some (if lxE g (F + (i : Int)) (l.drop i) = true then 1 else 0, s) := by
  have hle := ht.2.1
  intro n
  induction n with
  | zero => intro j i _ h; omega
  | succ n ih =>
    intro j i hij hj
    rw [m157_76, oZ_pos (by omega) (by omega)]
    cases j with
    | zero =>
      rw [if_neg (by omega), List.drop_of_length_le (by omega)]
      rfl
    | succ j =>
      have hi : i < l.length := by omega
      rw [if_pos (by omega), oV_eq, h2, oZ_pos (by omega) (by omega), oX_pos (by omega) (by omega), oV_eq, h1.2 _ (by omega) (by omega), oX_pos (by omega) (by omega), oV_eq, hw i hi, List.drop_eq_getElem_cons hi]
      have e0 : l.getD i 0 = l[i] := by rw [List.getD_eq_getElem?_getD, List.getElem?_eq_getElem hi]; rfl
      rw [e0]
      show _ = some (if (decide (g (F + (i : Int)) = l[i]) && lxE g (F + (i : Int) + 1) (l.drop (i + 1))) = true then 1 else 0, s)
      by_cases c : g (F + (i : Int)) = l[i]
      · rw [if_pos c, oZ_pos (by omega) (by omega), show F + (i : Int) + 1 = F + ((i + 1 : Nat) : Int) by omega, show (i : Int) + 1 = ((i + 1 : Nat) : Int) by omega, ih j (i + 1) (by omega) (by omega)]
        simp only [c, decide_true, Bool.true_and]
      · rw [if_neg c]
        simp only [c, decide_false, Bool.false_and, Bool.false_eq_true, if_false]
theorem e157_35 (ht : tOk g e) (h1 : rTp g e s) (F0 : 0 ≤ F) (hF : F ≤ e) {m a : Nat} : ∀ (n : Nat) (p : Int), F ≤ p → p ≤ e → (∀ i, F ≤ i → i < p → kindB (g i) = 1) → (e - p).toNat < n → m157_35 n m a p s = m157_61 m a (lxS g e 1 F) s := by
  have hle := ht.2.1
  intro n
  induction n with
  | zero => intro p _ _ _ h; omega
  | succ n ih =>
    intro p a1 a2 a3 a4
    rw [m157_35, oV_eq, h1.1]
    by_cases c : p < e
    · rw [if_pos c, oX_pos (by omega) (by omega), oV_eq, h1.2 _ (by omega) (by omega), e154, oC_some]
      by_cases d : 97 ≤ g p ∧ g p ≤ 122
      · rw [if_pos d, if_neg (by decide), oZ_pos (by omega) (by omega)]
        refine ih (p + 1) (by omega) (by omega) (fun i i0 i1 => ?_) (by omega)
        by_cases x : i = p
        · rw [x]; exact kB_1.mpr d
        · exact a3 i i0 (by omega)
      · rw [if_neg d, if_pos rfl, lxP_is (F := p) ⟨a1, a2, a3, fun _ => fun z => d (kB_1.mp z)⟩]
    · rw [if_neg c, lxP_is (F := p) ⟨a1, a2, a3, fun z => absurd z c⟩]
/-- isHere -/
theorem p157 (ht : tOk g e) (hW : lxW g e F E) (h : rLx g e F E s) {a m : Nat} {l : List Int} (hm : m = l.length) (hl : l.length ≤ 10) (hw : rWd s a l) (ha : a ≠ 209) : Ok (m157 m a s) (fun r t => r = (if isW g e F E l = true then 1 else 0) ∧ t.1 209 2 = F ∧ rLx g e F E t ∧ Fr yF s t) := by
  subst hm
  have hle := ht.2.1
  have hB := tkB_in hW
  have hF0 := hW.1
  unfold m157
  refine k_v ?_
  rw [h.2.1]
  refine k_p rfl (k_c (p156 ht h) ?_)
  rintro r t ⟨e1, e2, e3, e4⟩
  have no : isW g e F E l = false → Ok (some (0, t)) (fun r t => r = (if isW g e F E l = true then 1 else 0) ∧ t.1 209 2 = F ∧ rLx g e F E t ∧ Fr yF s t) := fun z => k_r ⟨by rw [z]; rfl, e2, e3, e4⟩
  have nk : tkK g e F E ≠ 1 → isW g e F E l = false := fun z => by unfold isW; simp only [z, decide_false, Bool.false_and]
  refine k_e e154 ?_
  rw [e1]
  by_cases c : 97 ≤ lkV g e F ∧ lkV g e F ≤ 122
  · rw [if_pos c]
    have fe : F < e := by
      apply Classical.byContradiction
      intro z
      unfold lkV at c
      rw [if_neg z] at c
      omega
    have kf : kindB (g F) = 1 := by
      unfold lkV at c
      rw [if_pos fe] at c
      exact kB_1.mpr c
    refine k_q (by decide) (k_v (k_v ?_))
    rw [e2, e3.2.2.2.2]
    refine k_i (fun z => no (nk (fun y => (tkK_1 y).2.2 z))) (fun z => k_v ?_)
    have k1 : tkK g e F E = 1 := by rw [tkK_k fe z]; exact kf
    rw [e157_35 ht e3.1 hF0 hW.2.1 zFu F (Int.le_refl _) hW.2.1 (fun i a b => by omega) (by unfold zFu; omega)]
    have eB : tkB g e F = lxS g e 1 F := by rw [tkB_1 fe (Or.inl kf), kf]
    rw [← eB]
    unfold m157_61
    refine k_v ?_
    rw [e2]
    refine k_z (by omega) (by omega) (k_z (by omega) (by omega) (k_i (fun y => ?_) (fun y => no ?_)))
    · have hw' : rWd t a l := fun i hi => by rw [e4.1 a _ (by omega)]; exact hw i hi
      have := e157_76 (F := F) ht e3.1 e2 hF0 (by omega) hw' zFu l.length 0 (by omega) (by unfold zFu; omega)
      rw [show F + ((0 : Nat) : Int) = F by omega, List.drop_zero] at this
      refine k_eq this ⟨?_, e2, e3, e4⟩
      have d : tkB g e F = F + (l.length : Int) := by omega
      unfold isW
      simp only [k1, d, decide_true, Bool.true_and]
    · have d : ¬ tkB g e F = F + (l.length : Int) := by omega
      unfold isW
      simp only [d, decide_false, Bool.false_and, Bool.and_false]
  · rw [if_neg c]
    refine k_p rfl (no (nk (fun y => c ?_)))
    obtain ⟨y1, y2, y3⟩ := tkK_1 y
    unfold lkV
    rw [if_pos y1]
    exact kB_1.mp y2
theorem nx_w (hW : lxW g e F E) (hk : tkK g e F E = 1 ∨ tkK g e F E = 2) : nxE g e F E = tkB g e F ∧ lxW g e (nxF g e F) (nxE g e F E) ∧ lxP g e 4 (tkB g e F) (nxF g e F) := by
  have hB := tkB_in hW
  have hp := lxS_p (g := g) (k := 4) hB.2.1
  have e1 : nxE g e F E = tkB g e F := by
    unfold nxE
    rcases hk with hk | hk
    · rw [if_pos (Or.inl (tkK_1 hk).2.1)]
    · rw [if_pos (Or.inr (tkK_2 hk).2.1)]
  refine ⟨e1, ⟨?_, hp.2.1, ?_, hp.2.2.2⟩, hp⟩
  · have := hp.1
    have := hW.1
    unfold nxF
    omega
  · rw [e1]; exact hp.1
/-- takes, asks -/
theorem p158t (ht : tOk g e) (hW : lxW g e F E) (h : rLx g e F E s) {a m : Nat} {l : List Int} (hm : m = l.length) (hl : l.length ≤ 10) (hw : rWd s a l) (ha : a ≠ 209) (hi : isW g e F E l = true) : Ok (m158 m a s) (fun r t => r = 1 ∧ rLx g e (nxF g e F) (nxE g e F E) t ∧ Fr yF s t) := by
  unfold m158
  refine k_c (p157 ht hW h hm hl hw ha) ?_
  rintro r t ⟨e1, e2, e3, e4⟩
  obtain ⟨k1, kb⟩ := isW_t hi
  have hx := nx_w hW (Or.inl k1)
  have hB := tkB_in hW
  have hle := ht.2.1
  have hF0 := hW.1
  rw [e1, hi]
  subst hm
  refine k_q (by decide) (k_v ?_)
  rw [e2]
  refine k_z (by omega) (by omega) (k_z (by omega) (by omega) (k_v (k_v (k_v ?_))))
  rw [sI_e]
  have fr : Fr yF t (sI (sI t 209 2 (F + (l.length : Int))) 209 4 (F + (l.length : Int))) := fr_trans (fr_I (by omega)) (fr_I (by omega))
  have a2 : (sI (sI t 209 2 (F + (l.length : Int))) 209 4 (F + (l.length : Int))).1 209 2 = tkB g e F := by rw [sI_k (by omega), sI_e, kb]
  refine k_r ⟨rfl, ⟨rTp_fr (A := yF) (fun a k z => by omega) (frj_of fr) e3.1, ?_, ?_, ?_, ?_⟩, fr_trans e4 fr⟩
  · rw [fr.1 209 5 (by omega)]; exact e3.2.1
  · rw [a2]; omega
  · rw [a2]; exact hx.2.2
  · rw [sI_e, hx.1, kb]
theorem p158f (ht : tOk g e) (hW : lxW g e F E) (h : rLx g e F E s) {a m : Nat} {l : List Int} (hm : m = l.length) (hl : l.length ≤ 10) (hw : rWd s a l) (ha : a ≠ 209) (hi : isW g e F E l = false) : Ok (m158 m a s) (fun r t => r = 0 ∧ t.1 209 2 = F ∧ rLx g e F E t ∧ Fr yF s t) := by
  unfold m158
  refine k_c (p157 ht hW h hm hl hw ha) ?_
  rintro r t ⟨e1, e2, e3, e4⟩
  rw [e1, hi]
  exact k_p rfl (k_r ⟨rfl, e2, e3, e4⟩)
theorem p153 {w p : Int} (h : s.1 209 5 = 0) : Ok (m153 w p s) (fun _ t => t.1 209 5 = w ∧ t.1 209 6 = p ∧ Fr (fun a k => a = 209 ∧ (k = 5 ∨ k = 6)) s t) := by
  unfold m153
  refine k_v ?_
  rw [h]
  refine k_p rfl (k_v (k_v (k_r ⟨?_, ?_, fr_trans (fr_I (by omega)) (fr_I (by omega))⟩)))
  · rw [sI_k (by omega), sI_e]
  · rw [sI_e]
theorem p159t (ht : tOk g e) (hW : lxW g e F E) (h : rLx g e F E s) {a m : Nat} {l : List Int} (hm : m = l.length) (hl : l.length ≤ 10) (hw : rWd s a l) (ha : a ≠ 209) (hi : isW g e F E l = true) : Ok (m159 m a s) (fun _ t => rLx g e (nxF g e F) (nxE g e F E) t ∧ Fr yF s t) := by
  unfold m159
  refine k_v ?_
  rw [h.2.1]
  refine k_p rfl (k_c (p158t ht hW h hm hl hw ha hi) ?_)
  rintro r t ⟨e1, e2⟩
  rw [e1]
  exact k_q (by decide) (k_r e2)
theorem p159f (ht : tOk g e) (hW : lxW g e F E) (h : rLx g e F E s) {a m : Nat} {l : List Int} (hm : m = l.length) (hl : l.length ≤ 10) (hw : rWd s a l) (ha : a ≠ 209) (hi : isW g e F E l = false) : Ok (m159 m a s) (fun _ t => t.1 209 5 = 1 ∧ t.1 209 6 = F ∧ Fr yfF s t) := by
  unfold m159
  refine k_v ?_
  rw [h.2.1]
  refine k_p rfl (k_c (p158f ht hW h hm hl hw ha hi) ?_)
  rintro r t ⟨e1, e2, e3, e4⟩
  rw [e1]
  refine k_p rfl (k_v (k_c (p153 e3.2.1) ?_))
  rintro _ u ⟨u1, u2, u3⟩
  exact k_r ⟨u1, by rw [u2, e2], fr_trans (fr_mono (fun a k z => by omega) e4) (fr_mono (fun a k z => by omega) u3)⟩
theorem nx_s (hW : lxW g e F E) (hF : F < e) (hk : kindB (g F) = 3) : nxE g e F E = E ∧ lxW g e (nxF g e F) (nxE g e F E) ∧ lxP g e 4 (F + 1) (nxF g e F) ∧ tkB g e F = F + 1 := by
  have hB := tkB_in hW
  have hp := lxS_p (g := g) (k := 4) hB.2.1
  have e1 : nxE g e F E = E := by
    unfold nxE
    rw [if_neg (fun z => by omega)]
  have e2 := tkB_3 hF hk
  refine ⟨e1, ⟨?_, hp.2.1, ?_, hp.2.2.2⟩, ?_, e2⟩
  · have := hp.1
    have := hW.1
    unfold nxF
    omega
  · rw [e1]
    have := hp.1
    have := hW.2.2.1
    unfold nxF
    omega
  · unfold nxF
    rw [e2] at hp ⊢
    exact hp
/-- the reference's at goes on behind a sign -/
theorem rLx_sign (hW : lxW g e F E) (hF : F < e) (hk : kindB (g F) = 3) (h : rLx g e F E s) : rLx g e (nxF g e F) (nxE g e F E) (sI s 209 2 (F + 1)) := by
  have hx := nx_s hW hF hk
  refine ⟨rTp_fr (A := yF) (s := s) (fun a k z => by omega) (frj_of (fr_I (by omega))) h.1, ?_, ?_, ?_, ?_⟩
  · rw [sI_k (by omega)]; exact h.2.1
  · rw [sI_e]; have := hW.1; omega
  · rw [sI_e]; exact hx.2.2.1
  · rw [sI_k (by omega), hx.1]; exact h.2.2.2.2
theorem p160t {c : Int} (ht : tOk g e) (hW : lxW g e F E) (h : rLx g e F E s) (hc : kindB c = 3) (hF : F < e) (hg : g F = c) : Ok (m160 c s) (fun r t => r = 1 ∧ t.1 209 2 = F + 1 ∧ rLx g e (nxF g e F) (nxE g e F E) t ∧ Fr yF s t) := by
  have hle := ht.2.1
  have hF0 := hW.1
  unfold m160
  refine k_v ?_
  rw [h.2.1]
  refine k_p rfl (k_c (p156 ht h) ?_)
  rintro r t ⟨e1, e2, e3, e4⟩
  rw [e1]
  unfold lkV
  rw [if_pos hF, hg]
  refine k_p rfl (k_v ?_)
  rw [e2]
  refine k_z (by omega) (by omega) (k_v (k_r ⟨rfl, sI_e, rLx_sign hW hF (by rw [hg]; exact hc) e3, fr_trans e4 (fr_I (by omega))⟩))
theorem p160f {c : Int} (ht : tOk g e) (h : rLx g e F E s) (hc0 : 0 ≤ c) (hn : ¬ (F < e ∧ g F = c)) : Ok (m160 c s) (fun r t => r = 0 ∧ t.1 209 2 = F ∧ rLx g e F E t ∧ Fr yF s t) := by
  unfold m160
  refine k_v ?_
  rw [h.2.1]
  refine k_p rfl (k_c (p156 ht h) ?_)
  rintro r t ⟨e1, e2, e3, e4⟩
  rw [e1]
  refine k_q (fun z => hn ?_) (k_r ⟨rfl, e2, e3, e4⟩)
  unfold lkV at z
  by_cases f : F < e
  · rw [if_pos f] at z; exact ⟨f, z⟩
  · rw [if_neg f] at z; omega
theorem p161t {c : Int} (ht : tOk g e) (hW : lxW g e F E) (h : rLx g e F E s) (hc : kindB c = 3) (hF : F < e) (hg : g F = c) : Ok (m161 c s) (fun _ t => rLx g e (nxF g e F) (nxE g e F E) t ∧ Fr yF s t) := by
  unfold m161
  refine k_v ?_
  rw [h.2.1]
  refine k_p rfl (k_c (p160t ht hW h hc hF hg) ?_)
  rintro r t ⟨e1, e2, e3⟩
  rw [e1]
  exact k_q (by decide) (k_r e3)
theorem p161f {c : Int} (ht : tOk g e) (h : rLx g e F E s) (hc0 : 0 ≤ c) (hn : ¬ (F < e ∧ g F = c)) : Ok (m161 c s) (fun _ t => t.1 209 5 = 1 ∧ t.1 209 6 = F ∧ Fr yfF s t) := by
  unfold m161
  refine k_v ?_
  rw [h.2.1]
  refine k_p rfl (k_c (p160f ht h hc0 hn) ?_)
  rintro r t ⟨e1, e2, e3, e4⟩
  rw [e1]
  refine k_p rfl (k_v (k_c (p153 e3.2.1) ?_))
  rintro _ u ⟨u1, u2, u3⟩
  exact k_r ⟨u1, by rw [u2, e2], fr_trans (fr_mono (fun a k z => by omega) e4) (fr_mono (fun a k z => by omega) u3)⟩
end
