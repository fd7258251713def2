/-! ===== the class tells a land: its steps ===== -/
/-- the class's land at L: pairs below bp, walkers below bw -/
def cDx (L : Nat) (D : dL) (bp bw : Int) (s : zS) : Prop :=
  ((s.1 (L + 1) 0 = D.1 0 0 ∧ s.1 (L + 3) 0 = D.1 0 1 ∧ s.1 (L + 5) 0 = D.1 0 2 ∧ s.1 L 16 = D.1 0 3 ∧ s.1 L 15 = D.2.2.2) ∧ s.1 (L + 1) 1 = 7 ∧ s.1 (L + 3) 1 = 8 ∧ s.1 (L + 5) 1 = 6) ∧
  ((∀ w, 0 ≤ w → w < D.1 0 0 → nmRel (fun k => s.1 (L + 2) (6 * w + k)) (D.1 1 (8 * 0 + w))) ∧ (∀ w, 0 ≤ w → w < D.1 0 1 → nmRel (fun k => s.1 (L + 4) (6 * w + k)) (D.1 1 (8 * 1 + w))) ∧ ∀ w, 0 ≤ w → w < D.1 0 2 → nmRel (fun k => s.1 (L + 6) (6 * w + k)) (D.1 1 (8 * 2 + w))) ∧
  (∀ a b, 0 ≤ a → a < 7 → 0 ≤ b → b < 7 → s.1 (L + 7) (7 * a + b) = if 0 < D.1 2 (7 * a + b) then D.1 2 (7 * a + b) else 1000) ∧
  (∀ p, 0 ≤ p → p < bp → s.1 (L + 10) p = D.1 3 (3 * p) ∧ s.1 (L + 11) p = D.1 3 (3 * p + 1) ∧ s.1 (L + 12) p = D.1 3 (3 * p + 2)) ∧
  (∀ w, 0 ≤ w → w < bw → s.1 (L + 13) w = D.1 4 (3 * w) ∧ s.1 (L + 14) w = D.1 4 (3 * w + 1) ∧ s.1 (L + 15) w = D.1 4 (3 * w + 2) ∧ s.1 (L + 16) w = D.1 5 w) ∧
  (s.1 L 17 = D.1 6 0 ∧ s.1 L 18 = D.1 6 1 ∧ s.1 L 19 = D.1 6 2) ∧ cFm (L + 17) D.2.1 s ∧ cFm (L + 20) D.2.2.1 s
def cD (L : Nat) (D : dL) (s : zS) : Prop := cDx L D (D.1 0 1) (D.1 0 2) s
theorem cDx_fr {L : Nat} {D : dL} {bp bw : Int} {s t : zS} (h : ∀ a k, L ≤ a → a ≤ L + 21 → a ≠ L + 19 → t.1 a k = s.1 a k) (hD : cDx L D bp bw s) : cDx L D bp bw t := by
  obtain ⟨h1, ⟨n1, n2, n3⟩, h3, h4, h5, h6, h7, h8⟩ := hD
  refine ⟨?_, ⟨fun w w0 w1 => ?_, fun w w0 w1 => ?_, fun w w0 w1 => ?_⟩, fun a b a0 a1 b0 b1 => ?_, fun p p0 p1 => ?_, fun w w0 w1 => ?_, ?_, ?_, ?_⟩
  · rw [h (L + 1) 0 (by omega) (by omega) (by omega), h (L + 3) 0 (by omega) (by omega) (by omega), h (L + 5) 0 (by omega) (by omega) (by omega), h L 16 (by omega) (by omega) (by omega), h L 15 (by omega) (by omega) (by omega), h (L + 1) 1 (by omega) (by omega) (by omega), h (L + 3) 1 (by omega) (by omega) (by omega), h (L + 5) 1 (by omega) (by omega) (by omega)]
    exact h1
  · rw [show (fun k => t.1 (L + 2) (6 * w + k)) = (fun k => s.1 (L + 2) (6 * w + k)) from funext fun k => h _ _ (by omega) (by omega) (by omega)]
    exact n1 w w0 w1
  · rw [show (fun k => t.1 (L + 4) (6 * w + k)) = (fun k => s.1 (L + 4) (6 * w + k)) from funext fun k => h _ _ (by omega) (by omega) (by omega)]
    exact n2 w w0 w1
  · rw [show (fun k => t.1 (L + 6) (6 * w + k)) = (fun k => s.1 (L + 6) (6 * w + k)) from funext fun k => h _ _ (by omega) (by omega) (by omega)]
    exact n3 w w0 w1
  · rw [h _ _ (by omega) (by omega) (by omega)]; exact h3 a b a0 a1 b0 b1
  · rw [h _ _ (by omega) (by omega) (by omega), h _ _ (by omega) (by omega) (by omega), h _ _ (by omega) (by omega) (by omega)]; exact h4 p p0 p1
  · rw [h _ _ (by omega) (by omega) (by omega), h _ _ (by omega) (by omega) (by omega), h _ _ (by omega) (by omega) (by omega), h _ _ (by omega) (by omega) (by omega)]; exact h5 w w0 w1
  · rw [h L 17 (by omega) (by omega) (by omega), h L 18 (by omega) (by omega) (by omega), h L 19 (by omega) (by omega) (by omega)]; exact h6
  · exact ⟨by rw [h _ _ (by omega) (by omega) (by omega)]; exact h7.1, fun i hi => by rw [h _ _ (by omega) (by omega) (by omega)]; exact h7.2 i hi⟩
  · exact ⟨by rw [h _ _ (by omega) (by omega) (by omega)]; exact h8.1, fun i hi => by rw [h _ _ (by omega) (by omega) (by omega)]; exact h8.2 i hi⟩
abbrev clF (L : Nat) (a : Nat) (k : Int) : Prop := xF a k ∨ a = 3 ∨ (L ≤ a ∧ a ≤ L + 22 ∧ ¬ (k = 1 ∧ (a = L + 1 ∨ a = L + 3 ∨ a = L + 5))) ∨ (a = 8 ∧ k = 2)
abbrev clG (L : Nat) (a : Nat) (k : Int) : Prop := cpF a k ∨ a = 3 ∨ (L ≤ a ∧ a ≤ L + 22 ∧ ¬ (k = 1 ∧ (a = L + 1 ∨ a = L + 3 ∨ a = L + 5))) ∨ (a = 8 ∧ k = 2)
def cSt (L : Nat) (g : Int → Int) (e : Int) (s : zS) (x : dR) (r : Int) (t : zS) : Prop := match x with
  | .inl q => r = 0 ∧ t.1 1 5 = q.1 ∧ t.1 1 6 = q.2 ∧ FrK (clG L) s t
  | .inr q => r = 1 ∧ cD L q.1 t ∧ cLx g e q.2.1 q.2.2 t ∧ FrK (clF L) s t
section
variable {g : Int → Int} {e F E : Int} {L : Nat} {D : dL} {s s0 : zS}
theorem cSt_01 {x : dR} {r : Int} {t : zS} (h : cSt L g e s x r t) : r = 0 ∨ r = 1 := by
  rcases x with q | q
  · exact Or.inl h.1
  · exact Or.inr h.1
/-- a fault, from a later state -/
theorem cSt_bad {w p : Int} {t : zS} (hf : FrK (clF L) s0 s) (h5 : t.1 1 5 = w) (h6 : t.1 1 6 = p) (ft : Fr (fun a k => cpF a k ∨ a = 3) s t) : cSt L g e s0 (.inl (w, p)) 0 t :=
  ⟨rfl, h5, h6, frk_trans (frk_mono (fun a k z => by omega) hf) (frk_of (fr_mono (fun a k z => by omega) ft))⟩
theorem cw_word {K : zS → Option (Int × zS)} {k' : Int → Int → dR} {k : Nat} (ht : tOk g e) (hW : lxW g e F E) (h : cLx g e F E s) (hf : FrK (clF L) s0 s) (hK : ∀ t, cLx g e (nxF g e F) (nxE g e F E) t → lxW g e (nxF g e F) (nxE g e F E) → Fr xF s t → Ok (K t) (cSt L g e s0 (k' (nxF g e F) (nxE g e F E)))) : Ok (oC (m82 k s) fun z t => if z = (0 : Int) then some ((0 : Int), t) else K t) (cSt L g e s0 (tW g e (sL k) F E k')) := by
  unfold tW
  by_cases c : isW g e F E (sL k) = true
  · rw [if_pos c]
    refine kB1 (A := fun t => cLx g e (nxF g e F) (nxE g e F E) t ∧ lxW g e (nxF g e F) (nxE g e F E) ∧ Fr xF s t) ?_ (fun t q => hK t q.1 q.2.1 q.2.2)
    unfold m82
    refine k_e (e80 ht hW h k) ?_
    rw [if_pos c]
    exact k_q (by decide) (k_c (p76a ht hW h (isW_F c) (isW_5 c)) (fun _ t q => k_r ⟨rfl, q⟩))
  · rw [if_neg c]
    refine kB0 (A := fun t => t.1 1 5 = 1 ∧ t.1 1 6 = F ∧ Fr cfF s t) ?_ (fun t q => cSt_bad hf q.1 q.2.1 (fr_mono (fun a k z => by omega) q.2.2))
    unfold m82
    refine k_e (e80 ht hW h k) ?_
    rw [if_neg c]
    refine k_p rfl (k_c (p78 h.2.2.1) ?_)
    rintro r t ⟨rfl, q⟩
    exact k_d (Or.inl rfl) (k_r ⟨rfl, q⟩)
theorem p82 {k : Nat} (ht : tOk g e) (hW : lxW g e F E) (h : cLx g e F E s) : Ok (m82 k s) (fun r t => (isW g e F E (sL k) = true ∧ r = 1 ∧ cLx g e (nxF g e F) (nxE g e F E) t ∧ lxW g e (nxF g e F) (nxE g e F E) ∧ Fr xF s t) ∨ (¬ isW g e F E (sL k) = true ∧ r = 0 ∧ t.1 1 5 = 1 ∧ t.1 1 6 = F ∧ Fr cfF s t)) := by
  unfold m82
  refine k_e (e80 ht hW h k) ?_
  by_cases c : isW g e F E (sL k) = true
  · rw [if_pos c]
    exact k_q (by decide) (k_c (p76a ht hW h (isW_F c) (isW_5 c)) (fun _ t q => k_r (Or.inl ⟨c, rfl, q⟩)))
  · rw [if_neg c]
    refine k_p rfl (k_c (p78 h.2.2.1) ?_)
    rintro r t ⟨rfl, q⟩
    exact k_d (Or.inl rfl) (k_r (Or.inr ⟨c, rfl, q⟩))
/-- a number behind a word -/
theorem cw_num {K : Int → zS → Option (Int × zS)} {k' : Int → Int → Int → dR} {k : Nat} {lo hi : Int} (ht : tOk g e) (lo0 : 0 ≤ lo) (hW : lxW g e F E) (h : cLx g e F E s) (hf : FrK (clF L) s0 s) (hK : ∀ (y : Int × Int × Int) (t : zS), lo ≤ y.1 → y.1 ≤ hi → cLx g e y.2.1 y.2.2 t → lxW g e y.2.1 y.2.2 → Fr xF s t → Ok (K y.1 t) (cSt L g e s0 (k' y.1 y.2.1 y.2.2))) : Ok (oC (m95 k lo hi s) fun z t => if z = (-1 : Int) then some ((0 : Int), t) else K z t) (cSt L g e s0 (tW g e (sL k) F E fun F' E' => tN g e lo hi F' E' k')) := by
  refine k_c (Q := fun r t => (r = -1 ∧ cSt L g e s0 (tW g e (sL k) F E fun F' E' => tN g e lo hi F' E' k') 0 t) ∨ (r ≠ -1 ∧ Ok (K r t) (cSt L g e s0 (tW g e (sL k) F E fun F' E' => tN g e lo hi F' E' k')))) ?_ ?_
  · unfold m95
    refine k_c (p82 ht hW h) ?_
    rintro r t (⟨c, rfl, t1, t2, t3⟩ | ⟨c, rfl, t5, t6, t3⟩)
    · refine k_q (by decide) ?_
      have hp := p83 (lo := lo) (hi := hi) ht t2 t1
      unfold tW tN
      rw [if_pos c]
      dsimp only
      refine k_c hp ?_
      intro r u hu
      rcases hz : lxNum g e (nxF g e F) (nxE g e F E) lo hi with q | q
      · rw [hz] at hu
        obtain ⟨rfl, u5, u6, u3⟩ := hu
        exact k_r (Or.inl ⟨rfl, cSt_bad (frk_trans hf (frk_of (fr_mono (fun a k z => by omega) t3))) u5 u6 (fr_mono (fun a k z => Or.inl z) u3)⟩)
      · rw [hz] at hu
        have hi' := lxNum_in t2 hz
        obtain ⟨rfl, u1, u2, u3⟩ := hu
        exact k_r (Or.inr ⟨by omega, hK q u hi'.1 hi'.2.1 u1 u2 (fr_trans t3 u3)⟩)
    · refine k_p rfl (k_r (Or.inl ⟨rfl, ?_⟩))
      unfold tW
      rw [if_neg c]
      exact cSt_bad hf t5 t6 (fr_mono (fun a k z => by omega) t3)
  · rintro r t (⟨rfl, q⟩ | ⟨n, q⟩)
    · exact k_p rfl (k_r q)
    · exact k_q n q
/-- the first name that is so -/
theorem e54_12 {a0 : Nat} {v w : Int} {N : Int → Int} {K : Nat → Int → zS → Option (Int × zS)} (hn : nmRel (fun k => s.1 3 k) v) (hN : nmRel (fun k => s.1 (a0 + 1) (6 * w + k)) (N w)) (w0 : 0 ≤ w) (w8 : 6 * w + 6 ≤ (zNl a0 : Int)) (h48 : zNl a0 ≤ 48) : ∀ (n j : Nat) (k : Int), k = 6 - (j : Int) → 0 ≤ k → j < n → (∀ i, 0 ≤ i → i < k → s.1 (a0 + 1) (6 * w + i) = s.1 3 i) → m54_12 K n a0 w k s = if N w = v then some (w, s) else K a0 (w + 1) s := by
  have inj := nmRel_inj hN hn
  have out : ∀ k, (k = 6 ↔ N w = v) → m54_41 K a0 w k s = if N w = v then some (w, s) else K a0 (w + 1) s := by
    intro k hk
    unfold m54_41
    by_cases c : k = 6
    · rw [if_pos c, if_pos (hk.mp c)]
    · rw [if_neg c, if_neg (fun z => c (hk.mpr z)), oZ_pos (by omega) (by omega)]
  intro n
  induction n with
  | zero => intro j k _ _ h; omega
  | succ n ih =>
    intro j k hk k0 hj hh
    rw [m54_12]
    cases j with
    | zero =>
      rw [if_neg (by omega)]
      refine out k ⟨fun _ => inj.mp (fun i i0 i1 => hh i i0 (by omega)), fun _ => by omega⟩
    | succ j =>
      rw [if_pos (by omega), oZ_pos (by omega) (by omega), oZ_pos (by omega) (by omega), oX_pos (by omega) (by omega), oV_eq, oX_pos (by omega) (by omega), oV_eq, show w * 6 + k = 6 * w + k by omega]
      by_cases c : s.1 (a0 + 1) (6 * w + k) = s.1 3 k
      · rw [if_pos c, oZ_pos (by omega) (by omega)]
        refine ih j (k + 1) (by omega) (by omega) (by omega) (fun i i0 i1 => ?_)
        by_cases d : i = k
        · rw [d]; exact c
        · exact hh i i0 (by omega)
      · rw [if_neg c]
        refine out k ⟨fun z => by omega, fun z => absurd (inj.mpr z k k0 (by omega)) c⟩
theorem e54_2 {a0 : Nat} {v c : Int} {N : Int → Int} (hn : nmRel (fun k => s.1 3 k) v) (hc : s.1 a0 0 = c) (c0 : 0 ≤ c) (hN : ∀ w, 0 ≤ w → w < c → nmRel (fun k => s.1 (a0 + 1) (6 * w + k)) (N w)) (c8 : 6 * c ≤ (zNl a0 : Int)) (h48 : zNl a0 ≤ 48) : ∀ (n j : Nat) (w : Int), w = c - (j : Int) → 0 ≤ w → j < n → m54_2 n a0 w s = some (fnd N v j w, s) := by
  intro n
  induction n with
  | zero => intro j w _ _ h; omega
  | succ n ih =>
    intro j w hw w0 hj
    rw [m54_2, oV_eq, hc]
    cases j with
    | zero => rw [if_neg (by omega)]; rfl
    | succ j =>
      rw [if_pos (by omega), e54_12 hn (hN w w0 (by omega)) w0 (by omega) h48 zFu 6 0 (by omega) (by omega) (by unfold zFu; omega) (fun i i0 i1 => by omega)]
      show _ = some (if N w = v then w else fnd N v j (w + 1), s)
      by_cases d : N w = v
      · rw [if_pos d, if_pos d]
      · rw [if_neg d, if_neg d, ih j (w + 1) (by omega) (by omega) (by omega)]
theorem zNl_L (hL : L = 43 ∨ L = 66) : zNl (L + 1) = 42 ∧ zNl (L + 3) = 48 ∧ zNl (L + 5) = 36 := by
  rcases hL with rfl | rfl <;> decide
/-- find, for each of the kinds -/
theorem e54 {bp bw v : Int} (hL : L = 43 ∨ L = 66) (hI : dInv D ∨ (D.1 0 0 ≤ 7 ∧ D.1 0 1 ≤ 8 ∧ D.1 0 2 ≤ 6 ∧ 0 ≤ D.1 0 0 ∧ 0 ≤ D.1 0 1 ∧ 0 ≤ D.1 0 2)) (hD : cDx L D bp bw s) (hn : nmRel (fun k => s.1 3 k) v) : m54 (L + 1) s = some (dF D 0 v, s) ∧ m54 (L + 3) s = some (dF D 1 v, s) ∧ m54 (L + 5) s = some (dF D 2 v, s) := by
  have z := zNl_L hL
  have b : D.1 0 0 ≤ 7 ∧ D.1 0 1 ≤ 8 ∧ D.1 0 2 ≤ 6 ∧ 0 ≤ D.1 0 0 ∧ 0 ≤ D.1 0 1 ∧ 0 ≤ D.1 0 2 := hI.elim (fun h => ⟨h.1.1.2, h.1.2.1.2, h.1.2.2.1.2, h.1.1.1, h.1.2.1.1, h.1.2.2.1.1⟩) id
  obtain ⟨⟨⟨h0, h1, h2, _⟩, _⟩, ⟨n1, n2, n3⟩, _⟩ := hD
  refine ⟨?_, ?_, ?_⟩
  · exact e54_2 (N := fun i => D.1 1 (8 * 0 + i)) hn h0 (by omega) n1 (by omega) (by omega) zFu (D.1 0 0).toNat 0 (by omega) (by omega) (by unfold zFu; omega)
  · exact e54_2 (N := fun i => D.1 1 (8 * 1 + i)) hn h1 (by omega) n2 (by omega) (by omega) zFu (D.1 0 1).toNat 0 (by omega) (by omega) (by unfold zFu; omega)
  · exact e54_2 (N := fun i => D.1 1 (8 * 2 + i)) hn h2 (by omega) n3 (by omega) (by omega) zFu (D.1 0 2).toNat 0 (by omega) (by omega) (by unfold zFu; omega)
/-- a name that is there: of a place or of a pair -/
theorem cw_one {K : Int → zS → Option (Int × zS)} {k' : Int → Int → Int → dR} {bp bw d : Int} {a0 : Nat} (ht : tOk g e) (hL : L = 43 ∨ L = 66) (hI : D.1 0 0 ≤ 7 ∧ D.1 0 1 ≤ 8 ∧ D.1 0 2 ≤ 6 ∧ 0 ≤ D.1 0 0 ∧ 0 ≤ D.1 0 1 ∧ 0 ≤ D.1 0 2) (hd : (d = 0 ∧ a0 = L + 1) ∨ (d = 1 ∧ a0 = L + 3)) (hD : cDx L D bp bw s) (hW : lxW g e F E) (h : cLx g e F E s) (hf : FrK (clF L) s0 s) (hK : ∀ (v : Int) (t : zS), 0 ≤ v → v < D.1 0 d → tkK g e F E = 1 → cLx g e F E t → cDx L D bp bw t → Fr (fun a _ => a = 3) s t → Ok (K v t) (cSt L g e s0 (k' v (nxF g e F) (nxE g e F E)))) : Ok (oC (m97 a0 s) fun z t => if z = (-1 : Int) then some ((0 : Int), t) else K z t) (cSt L g e s0 (tOne g e D d F E k')) := by
  refine k_c (Q := fun r t => (r = -1 ∧ cSt L g e s0 (tOne g e D d F E k') 0 t) ∨ (r ≠ -1 ∧ Ok (K r t) (cSt L g e s0 (tOne g e D d F E k')))) ?_ ?_
  · unfold m97
    refine k_c (p84 ht hW h) ?_
    intro r t hr
    unfold tOne
    rcases hz : lxNm g e F E with q | q
    · rw [hz] at hr
      obtain ⟨rfl, t5, t6, t3⟩ := hr
      exact k_p rfl (k_r (Or.inl ⟨rfl, cSt_bad hf t5 t6 t3⟩))
    · rw [hz] at hr
      obtain ⟨rfl, t1, t3⟩ := hr
      have qn := lxNm_in hW hz
      have dt : cDx L D bp bw t := cDx_fr (fun a k a0 a1 a2 => t3.1 a k (by omega)) hD
      have lt : cLx g e F E t := cLx_fr (fun a k z => by omega) t3 h
      have e5 := e54 hL (Or.inr hI) dt t1
      have e5d : m54 a0 t = some (dF D d q.1, t) := by
        rcases hd with ⟨rfl, rfl⟩ | ⟨rfl, rfl⟩
        · exact e5.1
        · exact e5.2.1
      have din := dF_in (D := D) d q.1 (by rcases hd with ⟨rfl, _⟩ | ⟨rfl, _⟩ <;> omega)
      refine k_q (by decide) (k_e e5d ?_)
      show Ok _ (fun r t => (r = -1 ∧ cSt L g e s0 (if dF D d q.1 = -1 then .inl (3, F) else k' (dF D d q.1) q.2.1 q.2.2) 0 t) ∨ (r ≠ -1 ∧ Ok (K r t) (cSt L g e s0 (if dF D d q.1 = -1 then .inl (3, F) else k' (dF D d q.1) q.2.1 q.2.2))))
      by_cases c : dF D d q.1 = -1
      · refine k_p c (k_v ?_)
        rw [if_pos c]
        rw [lt.2.2.1]
        refine k_c p77 ?_
        rintro r u ⟨_, u5, u6, u3⟩
        exact k_r (Or.inl ⟨c, cSt_bad hf u5 u6 (fr_trans (fr_mono (fun a k z => by omega) t3) (fr_mono (fun a k z => by omega) u3))⟩)
      · have din := din.resolve_left c
        refine k_q c (k_r (Or.inr ⟨c, ?_⟩))
        rw [if_neg c]
        have := hK (dF D d q.1) t din.1 din.2 qn.2.2.1 lt dt t3
        rw [qn.2.2.2.1, qn.2.2.2.2]
        exact this
  · rintro r t (⟨rfl, q⟩ | ⟨n, q⟩)
    · exact k_p rfl (k_r q)
    · exact k_q n q
end
