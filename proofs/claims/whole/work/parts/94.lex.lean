/-! ===== the tape as words, numbers, signs ===== -/
/-- the first from p on, of j, that isn't of kind k -/
def lxN (g : Int → Int) (k : Int) : Nat → Int → Int
  | 0, p => p
  | j + 1, p => if kindB (g p) = k then lxN g k j (p + 1) else p
def lxS (g : Int → Int) (e k p : Int) : Int := lxN g k (e - p).toNat p
def lxP (g : Int → Int) (e k p F : Int) : Prop := p ≤ F ∧ F ≤ e ∧ (∀ i, p ≤ i → i < F → kindB (g i) = k) ∧ (F < e → kindB (g F) ≠ k)
section
variable {g : Int → Int} {e k p F F' : Int}
theorem lxN_p : ∀ (j : Nat) (p : Int), lxP g (p + (j : Int)) k p (lxN g k j p) := by
  intro j
  induction j with
  | zero => intro p; exact ⟨Int.le_refl p, by show p ≤ p + 0; omega, fun i a b => by have b : i < p := b; omega, fun a => by have a : p < p + 0 := a; omega⟩
  | succ j ih =>
    intro p
    unfold lxN
    by_cases c : kindB (g p) = k
    · rw [if_pos c]
      obtain ⟨h1, h2, h3, h4⟩ := ih (p + 1)
      refine ⟨by omega, by omega, fun i a b => ?_, fun a => h4 (by omega)⟩
      by_cases d : i = p
      · rw [d]; exact c
      · exact h3 i (by omega) b
    · rw [if_neg c]
      exact ⟨Int.le_refl p, by omega, fun i a b => by omega, fun _ => c⟩
theorem lxS_p (h : p ≤ e) : lxP g e k p (lxS g e k p) := by
  have := lxN_p (g := g) (k := k) (e - p).toNat p
  rw [show p + (((e - p).toNat : Nat) : Int) = e by omega] at this
  exact this
theorem lxP_u (h : lxP g e k p F) (h' : lxP g e k p F') : F = F' := by
  obtain ⟨a1, a2, a3, a4⟩ := h
  obtain ⟨b1, b2, b3, b4⟩ := h'
  by_cases c : F < F'
  · exact absurd (b3 F a1 c) (a4 (by omega))
  · by_cases d : F' < F
    · exact absurd (a3 F' b1 d) (b4 (by omega))
    · omega
theorem lxP_is (h : lxP g e k p F) : lxS g e k p = F := lxP_u (lxS_p (by have := h.1; have := h.2.1; omega)) h
theorem kB_4 {b : Int} : kindB b = 4 ↔ b = 10 ∨ b = 32 := by
  unfold kindB
  by_cases c : b = 10 ∨ b = 32
  · rw [if_pos c]; simp only [c]
  · rw [if_neg c]
    by_cases d : 97 ≤ b ∧ b ≤ 122
    · rw [if_pos d]; simp only [c]; decide
    · rw [if_neg d]
      split
      · simp only [c]; decide
      · simp only [c]; decide
theorem kB_1 {b : Int} : kindB b = 1 ↔ 97 ≤ b ∧ b ≤ 122 := by
  unfold kindB
  by_cases c : b = 10 ∨ b = 32
  · rw [if_pos c]; constructor <;> intro h <;> omega
  · rw [if_neg c]
    by_cases d : 97 ≤ b ∧ b ≤ 122
    · rw [if_pos d]; simp only [d]; decide
    · rw [if_neg d]
      split <;> (constructor <;> intro h <;> omega)
theorem kB_2 {b : Int} : kindB b = 2 ↔ 48 ≤ b ∧ b ≤ 57 := by
  unfold kindB
  by_cases c : b = 10 ∨ b = 32
  · rw [if_pos c]; constructor <;> intro h <;> omega
  · rw [if_neg c]
    by_cases d : 97 ≤ b ∧ b ≤ 122
    · rw [if_pos d]; constructor <;> intro h <;> omega
    · rw [if_neg d]
      by_cases x : 48 ≤ b ∧ b ≤ 57
      · rw [if_pos x]; constructor <;> intro h <;> omega
      · rw [if_neg x]; constructor <;> intro h <;> omega
theorem kB_in (b : Int) : kindB b = 1 ∨ kindB b = 2 ∨ kindB b = 3 ∨ kindB b = 4 := by
  unfold kindB
  repeat' split
  all_goals omega
end
/-- what stands at F (E: behind the last word or number) -/
def tkK (g : Int → Int) (e F E : Int) : Int := if F < e then (if (kindB (g F) = 1 ∨ kindB (g F) = 2) ∧ F = E then 5 else kindB (g F)) else 0
def tkB (g : Int → Int) (e F : Int) : Int := if F < e then (if kindB (g F) = 1 ∨ kindB (g F) = 2 then lxS g e (kindB (g F)) F else F + 1) else e
def tOk (g : Int → Int) (e : Int) : Prop := 0 ≤ e ∧ e ≤ 1600 ∧ ∀ k, 0 ≤ k → k < 1600 → 0 ≤ g k ∧ g k ≤ 255
def lxW (g : Int → Int) (e F E : Int) : Prop := 0 ≤ F ∧ F ≤ e ∧ E ≤ F ∧ (F < e → kindB (g F) ≠ 4)
/-- the class's tape -/
def cTp (g : Int → Int) (e : Int) (s : zS) : Prop := s.1 1 2 = e ∧ (∀ k, 0 ≤ k → k < 1600 → s.1 2 k = g k) ∧ ∀ b, 0 ≤ b → b ≤ 255 → s.1 4 b = kindB b
def cLx (g : Int → Int) (e F E : Int) (s : zS) : Prop := cTp g e s ∧ s.1 1 3 = tkK g e F E ∧ s.1 1 4 = F ∧ s.1 1 8 = tkB g e F
abbrev xF (a : Nat) (k : Int) : Prop := a = 1 ∧ (k = 3 ∨ k = 4 ∨ k = 8)
theorem cTp_fr {g : Int → Int} {e : Int} {s t : zS} {A : Nat → Int → Prop} (hA : ∀ a k, A a k → ¬ (a = 1 ∧ k = 2) ∧ a ≠ 2 ∧ a ≠ 4) (hf : Fr A s t) (h : cTp g e s) : cTp g e t :=
  ⟨by rw [hf.1 1 2 (fun z => (hA 1 2 z).1 ⟨rfl, rfl⟩)]; exact h.1, fun k k0 k1 => by rw [hf.1 2 k (fun z => (hA 2 k z).2.1 rfl)]; exact h.2.1 k k0 k1, fun b b0 b1 => by rw [hf.1 4 b (fun z => (hA 4 b z).2.2 rfl)]; exact h.2.2 b b0 b1⟩
theorem cLx_fr {g : Int → Int} {e F E : Int} {s t : zS} {A : Nat → Int → Prop} (hA : ∀ a k, A a k → ¬ (a = 1 ∧ (k = 2 ∨ k = 3 ∨ k = 4 ∨ k = 8)) ∧ a ≠ 2 ∧ a ≠ 4) (hf : Fr A s t) (h : cLx g e F E s) : cLx g e F E t :=
  ⟨cTp_fr (fun a k z => ⟨fun y => (hA a k z).1 ⟨y.1, Or.inl y.2⟩, (hA a k z).2⟩) hf h.1, by rw [hf.1 1 3 (fun z => (hA 1 3 z).1 ⟨rfl, by omega⟩)]; exact h.2.1, by rw [hf.1 1 4 (fun z => (hA 1 4 z).1 ⟨rfl, by omega⟩)]; exact h.2.2.1, by rw [hf.1 1 8 (fun z => (hA 1 8 z).1 ⟨rfl, by omega⟩)]; exact h.2.2.2⟩
section
variable {g : Int → Int} {e : Int} {s : zS} {P : Int → zS → Prop}
theorem tkB_in {F E : Int} (h : lxW g e F E) : F ≤ tkB g e F ∧ tkB g e F ≤ e ∧ (F < e → F < tkB g e F) := by
  obtain ⟨h1, h2, h3, h4⟩ := h
  unfold tkB
  by_cases c : F < e
  · rw [if_pos c]
    split
    · have := lxS_p (g := g) (k := kindB (g F)) h2
      refine ⟨this.1, this.2.1, fun _ => ?_⟩
      by_cases d : lxS g e (kindB (g F)) F = F
      · have := this.2.2.2
        rw [d] at this
        exact absurd rfl (this c)
      · have := this.1
        omega
    · omega
  · rw [if_neg c]; omega
theorem p76_117 {x1 x2 k p0 : Int} (ht : tOk g e) (hs : cTp g e s) (hk : s.1 1 3 = k) (p00 : 0 ≤ p0) (p0e : p0 ≤ e) (hP : Ok (m76_154 x1 x2 (lxS g e k p0) 1 s) P) : ∀ (n : Nat) (p : Int), p0 ≤ p → p ≤ e → (∀ i, p0 ≤ i → i < p → kindB (g i) = k) → (e - p).toNat < n → Ok (m76_117 n x1 x2 p 1 s) P := by
  obtain ⟨h1, h2, h3⟩ := hs
  obtain ⟨t1, t2, t3⟩ := ht
  intro n
  induction n with
  | zero => intro p _ _ _ h; omega
  | succ n ih =>
    intro p a b c d
    rw [m76_117]
    refine k_q (by decide) (k_v ?_)
    rw [h1]
    refine k_i (fun z => ?_) (fun z => ?_)
    · have hb := t3 p (by omega) (by omega)
      refine k_x (by omega) (by omega) (k_v ?_)
      rw [h2 p (by omega) (by omega)]
      refine k_x hb.1 (by omega) (k_v (k_v ?_))
      rw [h3 _ hb.1 hb.2, hk]
      refine k_i (fun y => k_z (by omega) (by omega) (ih (p + 1) (by omega) (by omega) (fun i i0 i1 => ?_) (by omega))) (fun y => ?_)
      · by_cases x : i = p
        · rw [x]; exact y
        · exact c i i0 (by omega)
      · rw [lxP_is (F := p) ⟨a, b, c, fun _ => y⟩] at hP
        exact hP
    · rw [lxP_is (F := p) ⟨a, b, c, fun y => absurd y z⟩] at hP
      exact hP
theorem p76_29 {x1 x2 p0 : Int} (ht : tOk g e) (hs : cTp g e s) (p00 : 0 ≤ p0) (p0e : p0 ≤ e) (hP : Ok (m76_58 x1 x2 (lxS g e 4 p0) s) P) : ∀ (n : Nat) (p : Int), p0 ≤ p → p ≤ e → (∀ i, p0 ≤ i → i < p → kindB (g i) = 4) → (e - p).toNat < n → Ok (m76_29 n x1 x2 p s) P := by
  obtain ⟨h1, h2, h3⟩ := hs
  obtain ⟨t1, t2, t3⟩ := ht
  intro n
  induction n with
  | zero => intro p _ _ _ h; omega
  | succ n ih =>
    intro p a b c d
    rw [m76_29]
    refine k_v ?_
    rw [h1]
    refine k_i (fun z => ?_) (fun z => ?_)
    · have hb := t3 p (by omega) (by omega)
      refine k_x (by omega) (by omega) (k_v ?_)
      rw [h2 p (by omega) (by omega)]
      refine k_x hb.1 (by omega) (k_v ?_)
      rw [h3 _ hb.1 hb.2]
      refine k_i (fun y => k_z (by omega) (by omega) (ih (p + 1) (by omega) (by omega) (fun i i0 i1 => ?_) (by omega))) (fun y => ?_)
      · by_cases x : i = p
        · rw [x]; exact y
        · exact c i i0 (by omega)
      · rw [lxP_is (F := p) ⟨a, b, c, fun _ => y⟩] at hP
        exact hP
    · rw [lxP_is (F := p) ⟨a, b, c, fun y => absurd y z⟩] at hP
      exact hP
/-- the class goes on behind b0 -/
theorem p76 {b0 E : Int} (ht : tOk g e) (hs : cTp g e s) (h8 : s.1 1 8 = b0) (b00 : 0 ≤ b0) (b0e : b0 ≤ e) (hw : (s.1 1 3 = 1 ∨ s.1 1 3 = 2) → E = b0) (hn : ¬ (s.1 1 3 = 1 ∨ s.1 1 3 = 2) → E < b0 ∨ E = -1) : Ok (m76 s) (fun _ t => cLx g e (lxS g e 4 b0) E t ∧ lxW g e (lxS g e 4 b0) E ∧ Fr xF s t) := by
  have hF := lxS_p (g := g) (k := 4) b0e
  generalize hFF : lxS g e 4 b0 = F at hF
  obtain ⟨f1, f2, f3, f4⟩ := hF
  have hE : E ≤ F := by
    by_cases c : s.1 1 3 = 1 ∨ s.1 1 3 = 2
    · have := hw c; omega
    · have := hn c; omega
  have hW : lxW g e F E := ⟨by omega, f2, hE, f4⟩
  have body : ∀ nb : Int, (nb = 1 ∧ E = b0) ∨ (nb = 0 ∧ E < F) → Ok (m76_58 b0 nb F s) (fun _ t => cLx g e F E t ∧ lxW g e F E ∧ Fr xF s t) := by
    intro nb hnb
    have last : ∀ (k x4 : Int) (u : zS), Fr xF s u → u.1 1 3 = k → u.1 1 4 = F → (F < e → kindB (g F) = k) → (¬ F < e → k = 0) → ((x4 = 1 ∧ (k = 1 ∨ k = 2)) ∨ (x4 = 0 ∧ ¬ (k = 1 ∨ k = 2))) → Ok (m76_154 b0 nb (tkB g e F) x4 u) (fun _ t => cLx g e F E t ∧ lxW g e F E ∧ Fr xF s t) := by
      intro k x4 u fu u3 u4 hk1 hk0 hx
      have tu : cTp g e u := cTp_fr (fun a k z => by omega) fu hs
      unfold m76_154
      refine k_v ?_
      generalize hv : sI u 1 8 (tkB g e F) = v
      have fv : Fr xF s v := by rw [← hv]; exact fr_trans fu (fr_I (by omega))
      have tv : cTp g e v := cTp_fr (fun a k z => by omega) fv hs
      have v3 : v.1 1 3 = k := by rw [← hv, sI_k (by omega)]; exact u3
      have v4 : v.1 1 4 = F := by rw [← hv, sI_k (by omega)]; exact u4
      have v8 : v.1 1 8 = tkB g e F := by rw [← hv, sI_e]
      have done : tkK g e F E = k → cLx g e F E v ∧ lxW g e F E ∧ Fr xF s v := fun z => ⟨⟨tv, by rw [v3, z], v4, v8⟩, hW, fv⟩
      rcases hx with ⟨hx, kk⟩ | ⟨hx, kk⟩
      · have fe : F < e := Classical.byContradiction fun z => by have := hk0 z; omega
        have hkk := hk1 fe
        refine k_q (by omega) ?_
        rcases hnb with ⟨n1, n2⟩ | ⟨n1, n2⟩
        · refine k_q (by omega) (k_v ?_)
          rw [v4]
          refine k_i (fun z => k_v (k_r ?_)) (fun z => k_r (done ?_))
          · refine ⟨⟨cTp_fr (s := v) (A := xF) (fun a k z => by omega) (fr_I (by omega)) tv, ?_, ?_, ?_⟩, hW, fr_trans fv (fr_I (by omega))⟩
            · rw [sI_e]
              unfold tkK
              rw [if_pos fe, if_pos ⟨by rw [hkk]; exact kk, by omega⟩]
            · rw [sI_k (by omega)]; exact v4
            · rw [sI_k (by omega)]; exact v8
          · unfold tkK
            rw [if_pos fe, if_neg (fun y => by omega)]
            exact hkk
        · refine k_p n1 (k_r (done ?_))
          unfold tkK
          rw [if_pos fe, if_neg (fun y => by omega)]
          exact hkk
      · refine k_p hx (k_r (done ?_))
        unfold tkK
        by_cases fe : F < e
        · rw [if_pos fe, if_neg (fun y => by rw [hk1 fe] at y; exact kk y.1)]
          exact hk1 fe
        · rw [if_neg fe, hk0 fe]
    have mid : ∀ (k p : Int) (u : zS), Fr xF s u → u.1 1 3 = k → u.1 1 4 = F → (F < e → kindB (g F) = k ∧ p = F + 1) → (¬ F < e → k = 0 ∧ p = e) → Ok (m76_94 b0 nb p u) (fun _ t => cLx g e F E t ∧ lxW g e F E ∧ Fr xF s t) := by
      intro k p u fu u3 u4 hk1 hk0
      have tu : cTp g e u := cTp_fr (fun a k z => by omega) fu hs
      have lst := last k
      have run : (k = 1 ∨ k = 2) → Ok (m76_117 zFu b0 nb p 1 u) (fun _ t => cLx g e F E t ∧ lxW g e F E ∧ Fr xF s t) := by
        intro kk
        have fe : F < e := Classical.byContradiction fun z => by have := (hk0 z).1; omega
        have h := hk1 fe
        have l1 := lst 1 u fu u3 u4 (fun z => (hk1 z).1) (fun z => (hk0 z).1) (Or.inl ⟨rfl, kk⟩)
        have eB : tkB g e F = lxS g e k F := by
          unfold tkB
          rw [if_pos fe, h.1, if_pos kk]
        rw [eB] at l1
        refine p76_117 (p0 := F) ht tu u3 (by omega) f2 l1 zFu p (by omega) (by omega) (fun i i0 i1 => ?_) (by have := ht.2.1; unfold zFu; omega)
        have : i = F := by omega
        rw [this]; exact h.1
      have rest : ¬ (k = 1 ∨ k = 2) → Ok (m76_117 zFu b0 nb p 0 u) (fun _ t => cLx g e F E t ∧ lxW g e F E ∧ Fr xF s t) := by
        intro kk
        have l0 := lst 0 u fu u3 u4 (fun z => (hk1 z).1) (fun z => (hk0 z).1) (Or.inr ⟨rfl, kk⟩)
        have hz : zFu = 999999 + 1 := rfl
        rw [hz, m76_117]
        have eB : tkB g e F = p := by
          unfold tkB
          by_cases fe : F < e
          · rw [if_pos fe, (hk1 fe).1, if_neg kk, (hk1 fe).2]
          · rw [if_neg fe, (hk0 fe).2]
        rw [eB] at l0
        exact k_p rfl l0
      unfold m76_94
      refine k_v ?_
      rw [u3]
      refine k_i (fun z => run (Or.inl z)) (fun z => k_v ?_)
      exact k_i (fun y => run (Or.inr y)) (fun y => rest (by omega))
    unfold m76_58
    refine k_v (k_v (k_v ?_))
    rw [sI_k (by omega), sI_k (by omega), hs.1]
    have f2' : Fr xF s (sI (sI s 1 4 F) 1 3 0) := fr_trans (fr_I (by omega)) (fr_I (by omega))
    have e4 : (sI (sI s 1 4 F) 1 3 0).1 1 4 = F := by rw [sI_k (by omega), sI_e]
    have e3 : (sI (sI s 1 4 F) 1 3 0).1 1 3 = 0 := by rw [sI_e]
    have t2 : cTp g e (sI (sI s 1 4 F) 1 3 0) := cTp_fr (fun a k z => by omega) f2' hs
    generalize sI (sI s 1 4 F) 1 3 0 = u at *
    refine k_i (fun z => ?_) (fun z => mid 0 F u f2' e3 e4 (fun y => absurd y z) (fun _ => ⟨rfl, by omega⟩))
    have hb := ht.2.2 F (by omega) (by have := ht.2.1; omega)
    refine k_x (by omega) (by have := ht.2.1; omega) (k_v ?_)
    rw [t2.2.1 F (by omega) (by have := ht.2.1; omega)]
    refine k_x hb.1 (by omega) (k_v (k_v (k_z (by have := ht.2.1; omega) (by have := ht.2.1; omega) ?_)))
    rw [t2.2.2 _ hb.1 hb.2]
    exact mid (kindB (g F)) (F + 1) _ (fr_trans f2' (fr_I (by omega))) (by rw [sI_e]) (by rw [sI_k (by omega)]; exact e4) (fun _ => ⟨rfl, rfl⟩) (fun y => absurd z y)
  have start : ∀ nb : Int, (nb = 1 ∧ E = b0) ∨ (nb = 0 ∧ E < F) → Ok (m76_29 zFu b0 nb b0 s) (fun _ t => cLx g e F E t ∧ lxW g e F E ∧ Fr xF s t) := by
    intro nb h
    have := body nb h
    rw [← hFF] at this
    have q := p76_29 (p0 := b0) ht hs b00 b0e this zFu b0 (Int.le_refl _) b0e (fun i a b => by omega) (by have := ht.2.1; unfold zFu; omega)
    rw [hFF] at q
    exact q
  unfold m76
  refine k_v (k_v ?_)
  rw [h8]
  refine k_i (fun z => start 1 (Or.inl ⟨rfl, hw (Or.inl z)⟩)) (fun z => k_v (k_i (fun y => start 1 (Or.inl ⟨rfl, hw (Or.inr y)⟩)) (fun y => start 0 (Or.inr ⟨rfl, ?_⟩))))
  have := hn (by omega)
  omega
end
/-- the next of them -/
def nxF (g : Int → Int) (e F : Int) : Int := lxS g e 4 (tkB g e F)
def nxE (g : Int → Int) (e F E : Int) : Int := if kindB (g F) = 1 ∨ kindB (g F) = 2 then tkB g e F else E
section
variable {g : Int → Int} {e F E : Int} {s : zS}
/-- a word, number or sign is taken -/
theorem p76a (ht : tOk g e) (hW : lxW g e F E) (h : cLx g e F E s) (hF : F < e) (h5 : tkK g e F E ≠ 5) : Ok (m76 s) (fun _ t => cLx g e (nxF g e F) (nxE g e F E) t ∧ lxW g e (nxF g e F) (nxE g e F E) ∧ Fr xF s t) := by
  have hB := tkB_in hW
  have hk : tkK g e F E = kindB (g F) := by
    unfold tkK at h5 ⊢
    rw [if_pos hF] at h5 ⊢
    by_cases c : (kindB (g F) = 1 ∨ kindB (g F) = 2) ∧ F = E
    · rw [if_pos c] at h5; exact absurd rfl h5
    · rw [if_neg c]
  refine p76 ht h.1 h.2.2.2 (by have := hW.1; omega) hB.2.1 (fun z => ?_) (fun z => ?_)
  · rw [h.2.1, hk] at z
    unfold nxE
    rw [if_pos z]
  · rw [h.2.1, hk] at z
    unfold nxE
    rw [if_neg z]
    have := hW.2.2.1
    have := hB.2.2 hF
    omega
theorem nxF_gt (hW : lxW g e F E) (hF : F < e) : F < nxF g e F ∧ nxF g e F ≤ e := by
  have hB := tkB_in hW
  have := lxS_p (g := g) (k := 4) hB.2.1
  unfold nxF
  have h1 := this.1
  have h2 := this.2.1
  have := hB.2.2 hF
  omega
end
