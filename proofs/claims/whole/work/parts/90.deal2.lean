/-! ===== deal: the class's search ===== -/
def dlS (g : Int → Int) : Nat → Int
  | 0 => 0
  | n + 1 => dlS g n + g (n : Int)
theorem dlS_congr {g g' : Int → Int} : ∀ (n : Nat), (∀ w, 0 ≤ w → w < (n : Int) → g w = g' w) → dlS g n = dlS g' n := by
  intro n
  induction n with
  | zero => intro _; rfl
  | succ n ih =>
    intro h
    show dlS g n + g (n : Int) = dlS g' n + g' (n : Int)
    rw [ih (fun w w0 w1 => h w w0 (by omega)), h (n : Int) (by omega) (by omega)]
theorem dlS_in {g : Int → Int} : ∀ (n : Nat), (∀ w, 0 ≤ w → w < (n : Int) → 0 ≤ g w ∧ g w ≤ 30) → 0 ≤ dlS g n ∧ dlS g n ≤ 30 * (n : Int) := by
  intro n
  induction n with
  | zero => intro _; exact ⟨by show (0 : Int) ≤ 0; omega, by show (0 : Int) ≤ 30 * 0; omega⟩
  | succ n ih =>
    intro h
    have i1 := ih (fun w w0 w1 => h w w0 (by omega))
    have i2 := h (n : Int) (by omega) (by omega)
    show 0 ≤ dlS g n + g (n : Int) ∧ dlS g n + g (n : Int) ≤ _
    omega
theorem dlS_up {g : Int → Int} {k : Int} (h : 0 ≤ k) : dlS g (k + 1).toNat = dlS g k.toNat + g k := by
  rw [show (k + 1).toNat = k.toNat + 1 by omega]
  show dlS g k.toNat + g ((k.toNat : Nat) : Int) = _
  rw [show ((k.toNat : Nat) : Int) = k by omega]
/-- who is there, in how many legs, by a row -/
def dlC (lg : Int → Int → Int) (r : Int → Int) (w : Int) : Int := if 0 < r w ∧ lg w (r w - 1) ≠ -1 then 1 else 0
def dlH (lg : Int → Int → Int) (r : Int → Int) (w : Int) : Int := if 0 < r w ∧ lg w (r w - 1) ≠ -1 then lg w (r w - 1) else 0
def dlN (c : Int) (lg : Int → Int → Int) (r : Int → Int) : Int := dlS (dlC lg r) c.toNat
def dlL (c : Int) (lg : Int → Int → Int) (r : Int → Int) : Int := dlS (dlH lg r) c.toNat
section
variable {c k e : Int} {lg : Int → Int → Int} {p q r r' x : Int → Int}
theorem dlC_v {w : Int} (h : r w = r' w) : dlC lg r w = dlC lg r' w ∧ dlH lg r w = dlH lg r' w := by
  unfold dlC dlH
  rw [h]
  exact ⟨rfl, rfl⟩
theorem dlC_in (hl : ∀ w p, -1 ≤ lg w p ∧ lg w p ≤ 30) (w : Int) : (0 ≤ dlC lg r w ∧ dlC lg r w ≤ 30) ∧ 0 ≤ dlH lg r w ∧ dlH lg r w ≤ 30 := by
  have := hl w (r w - 1)
  unfold dlC dlH
  split
  · rename_i h
    have := h.2
    omega
  · omega
theorem dl_ag (h : rAg c r r') : dlN c lg r = dlN c lg r' ∧ dlL c lg r = dlL c lg r' :=
  ⟨dlS_congr _ (fun w w0 w1 => (dlC_v (h w w0 (by omega))).1), dlS_congr _ (fun w w0 w1 => (dlC_v (h w w0 (by omega))).2)⟩
theorem rAg_s (h : rAg c p q) : rAg c q p := fun w w0 w1 => (h w w0 w1).symm
theorem rAg_t (h : rAg c p q) (h' : rAg c q r) : rAg c p r := fun w w0 w1 => (h w w0 w1).trans (h' w w0 w1)
theorem rLt_ag2 (h : rLt c p q) (h' : rAg c q r) : rLt c p r := by
  obtain ⟨v, v0, v1, v2, v3⟩ := h
  exact ⟨v, v0, v1, fun i i0 i1 => (v2 i i0 i1).trans (h' i i0 (by omega)), by rw [← h' v v0 v1]; exact v3⟩
theorem rLt_ir (h : rLt c p p) : False := by
  obtain ⟨v, v0, v1, v2, v3⟩ := h
  omega
theorem rLt_as (h : rLt c p q) (h' : rLt c q p) : False := rLt_ir (rLt_trans h h')
end
section
variable {c : Int} {cn hr : (Int → Int) → Int} {P P' : (Int → Int) → Prop} {x B : Int → Int}
theorem bs_keep (hg : ∀ r r', rAg c r r' → cn r = cn r' ∧ hr r = hr r') (hB : Best c cn hr P B) (hx : ¬ bet cn hr x B) (hlt : ∀ r, P r → rLt c r x) (h3 : ∀ r, P' r → P r ∨ rAg c r x) (h4 : ∀ r, P r → P' r) : Best c cn hr P' B := by
  refine ⟨h4 B hB.1, fun r q => ?_⟩
  rcases h3 r q with q | q
  · exact hB.2 r q
  · have e := hg r x q
    refine ⟨?_, fun z => absurd (rLt_ag (rAg_s q) z) (fun z => rLt_as (hlt B hB.1) z)⟩
    unfold bet at hx ⊢
    rw [e.1, e.2]
    exact hx
theorem bs_new (hg : ∀ r r', rAg c r r' → cn r = cn r' ∧ hr r = hr r') (hB : Best c cn hr P B) (hx : bet cn hr x B) (hp : P' x) (h3 : ∀ r, P' r → P r ∨ rAg c r x) : Best c cn hr P' x := by
  refine ⟨hp, fun r q => ?_⟩
  rcases h3 r q with q | q
  · have g := (hB.2 r q).1
    unfold bet at g hx ⊢
    exact ⟨by omega, fun _ => by omega⟩
  · have e := hg r x q
    refine ⟨?_, fun z => absurd (rLt_ag (rAg_s q) z) (fun z => rLt_ir z)⟩
    unfold bet
    rw [e.1, e.2]
    omega
theorem bs_first (hg : ∀ r r', rAg c r r' → cn r = cn r' ∧ hr r = hr r') (hp : P' x) (h3 : ∀ r, P' r → rAg c r x) : Best c cn hr P' x := by
  refine ⟨hp, fun r q => ?_⟩
  have q := h3 r q
  have e := hg r x q
  refine ⟨?_, fun z => absurd (rLt_ag (rAg_s q) z) (fun z => rLt_ir z)⟩
  unfold bet
  rw [e.1, e.2]
  omega
end
/-- what the class has found among such rows -/
def dlB (c : Int) (lg : Int → Int → Int) (P : (Int → Int) → Prop) (s : zS) : Prop :=
  ((∀ r, ¬ P r) ∧ s.1 20 1 = -1) ∨ (Best c (dlN c lg) (dlL c lg) P (fun w => s.1 21 w + 1) ∧ s.1 20 1 = dlN c lg (fun w => s.1 21 w + 1) ∧ s.1 20 4 = dlL c lg (fun w => s.1 21 w + 1))
theorem dlB_iff {c : Int} {lg : Int → Int → Int} {P P' : (Int → Int) → Prop} {s : zS} (h : ∀ r, P r ↔ P' r) (hB : dlB c lg P s) : dlB c lg P' s := by
  have : P = P' := funext fun r => propext (h r)
  rw [← this]
  exact hB
theorem dlB_eq {c : Int} {lg : Int → Int → Int} {P : (Int → Int) → Prop} {s t : zS} (h1 : t.1 20 1 = s.1 20 1) (h4 : t.1 20 4 = s.1 20 4) (h : t.1 21 = s.1 21) (hB : dlB c lg P s) : dlB c lg P t := by
  unfold dlB at hB ⊢
  rw [h1, h4, h]
  exact hB
/-- a row without shoes in which one is not there -/
def dlQ (k : Int) (lg : Int → Int → Int) (r : Int → Int) : Prop := ∀ w, 0 ≤ w → w < k → 0 ≤ r w ∧ r w ≤ 8 ∧ (r w ≠ 0 → lg w (r w - 1) ≠ -1) ∧ ∀ v, 0 ≤ v → v < w → r w ≠ 0 → r v ≠ r w
theorem dlQ_ag {k : Int} {lg : Int → Int → Int} {r r' : Int → Int} (h : rAg k r r') (hq : dlQ k lg r') : dlQ k lg r := by
  intro w w0 w1
  have := hq w w0 w1
  rw [← h w w0 w1] at this
  refine ⟨this.1, this.2.1, this.2.2.1, fun v v0 v1 => ?_⟩
  rw [h v v0 (by omega)]
  exact this.2.2.2 v v0 v1
def dlU (x : Int → Int) (k e : Int) : Int → Int := fun w => if w = k then e else x w
section
variable {k e : Int} {r x : Int → Int}
theorem dlU_e : dlU x k e k = e := if_pos rfl
theorem dlU_o {w : Int} (h : w ≠ k) : dlU x k e w = x w := if_neg h
theorem rAg_u (k0 : 0 ≤ k) : rAg (k + 1) r (dlU x k e) ↔ rAg k r x ∧ r k = e := by
  constructor
  · intro h
    exact ⟨fun w w0 w1 => (h w w0 (by omega)).trans (dlU_o (by omega)), (h k k0 (by omega)).trans dlU_e⟩
  · intro h w w0 w1
    by_cases d : w = k
    · subst d; rw [dlU_e]; exact h.2
    · rw [dlU_o d]; exact h.1 w w0 (by omega)
theorem rLt_u (k0 : 0 ≤ k) : rLt (k + 1) r (dlU x k e) ↔ rLt k r x ∨ (rAg k r x ∧ r k < e) := by
  constructor
  · intro h
    obtain ⟨w, w0, w1, w2, w3⟩ := h
    by_cases d : w = k
    · subst d
      rw [dlU_e] at w3
      exact Or.inr ⟨fun v v0 v1 => (w2 v v0 v1).trans (dlU_o (by omega)), w3⟩
    · rw [dlU_o d] at w3
      exact Or.inl ⟨w, w0, by omega, fun v v0 v1 => (w2 v v0 v1).trans (dlU_o (by omega)), w3⟩
  · intro h
    rcases h with ⟨w, w0, w1, w2, w3⟩ | ⟨h1, h2⟩
    · exact ⟨w, w0, by omega, fun v v0 v1 => (w2 v v0 v1).trans (dlU_o (by omega)).symm, by rw [dlU_o (by omega)]; exact w3⟩
    · exact ⟨k, k0, by omega, fun v v0 v1 => (h1 v v0 v1).trans (dlU_o (by omega)).symm, by rw [dlU_e]; exact h2⟩
end
abbrev dlF (a : Nat) (q : Int) : Prop := (a = 20 ∧ (q = 1 ∨ q = 4)) ∨ a = 21 ∨ a = 22
section
variable {c th tg : Int} {lg : Int → Int → Int} {P P' : (Int → Int) → Prop} {x : Int → Int} {s : zS}
theorem p3_24 (c6 : c ≤ 6) (hx : ∀ w, 0 ≤ w → w < c → s.1 22 w + 1 = x w) (h2 : ∀ r, P' r ↔ P r ∨ rAg c r x) (hth : th = dlN c lg x) (htg : tg = dlL c lg x) (hn : (∀ r, ¬ P r) ∨ ∃ B, Best c (dlN c lg) (dlL c lg) P B ∧ bet (dlN c lg) (dlL c lg) x B) : Ok (m3_24 th tg s) (fun _ t => dlB c lg P' t ∧ Fr (fun a q => (a = 20 ∧ (q = 1 ∨ q = 4)) ∨ a = 21) s t) := by
  unfold m3_24
  refine k_v (k_v (k_y (by omega) (by omega) (by omega) (by omega) (by omega) (k_v (k_r ?_))))
  have fu : Fr (fun a q => (a = 20 ∧ (q = 1 ∨ q = 4)) ∨ a = 21) s (sC (sI (sI s 20 1 th) 20 4 tg) 22 21 0 0 6) := fr_trans (fr_I (by omega)) (fr_trans (fr_I (by omega)) (fr_C fun q _ _ => by omega))
  have e1 : (sC (sI (sI s 20 1 th) 20 4 tg) 22 21 0 0 6).1 20 1 = th := by rw [sC_a (by omega), sI_k (by omega), sI_e]
  have e4 : (sC (sI (sI s 20 1 th) 20 4 tg) 22 21 0 0 6).1 20 4 = tg := by rw [sC_a (by omega), sI_e]
  have e21 : ∀ w, 0 ≤ w → w < 6 → (sC (sI (sI s 20 1 th) 20 4 tg) 22 21 0 0 6).1 21 w = s.1 22 w := fun w w0 w1 => by
    rw [sC_i (by omega) (by omega), sI_a (by omega), sI_a (by omega), show (0 : Int) + (w - 0) = w by omega]
  generalize sC (sI (sI s 20 1 th) 20 4 tg) 22 21 0 0 6 = u at *
  have ag : rAg c (fun w => u.1 21 w + 1) x := fun w w0 w1 => by
    show u.1 21 w + 1 = x w
    rw [e21 w w0 (by omega)]
    exact hx w w0 w1
  have e := dl_ag (lg := lg) ag
  have hp : P' (fun w => u.1 21 w + 1) := (h2 _).mpr (Or.inr ag)
  refine ⟨Or.inr ⟨?_, by rw [e1, hth, e.1], by rw [e4, htg, e.2]⟩, fu⟩
  rcases hn with hn | ⟨B, hB, hb⟩
  · exact bs_first (fun r r' h => dl_ag h) hp (fun r q => ((h2 r).mp q).elim (fun z => absurd z (hn r)) (fun z => rAg_t z (rAg_s ag)))
  · exact bs_new (fun r r' h => dl_ag h) hB (by unfold bet; rw [e.1, e.2]; exact hb) hp (fun r q => ((h2 r).mp q).elim Or.inl (fun z => Or.inr (rAg_t z (rAg_s ag))))
theorem p3 (c6 : c ≤ 6) (hx : ∀ w, 0 ≤ w → w < c → s.1 22 w + 1 = x w) (hB : dlB c lg P s) (h2 : ∀ r, P' r ↔ P r ∨ rAg c r x) (hlt : ∀ r, P r → rLt c r x) (hth : th = dlN c lg x) (htg : tg = dlL c lg x) (h0 : 0 ≤ th) : Ok (m3 th tg s) (fun _ t => dlB c lg P' t ∧ Fr (fun a q => (a = 20 ∧ (q = 1 ∨ q = 4)) ∨ a = 21) s t) := by
  unfold m3
  refine k_v ?_
  rcases hB with ⟨hn, h1⟩ | ⟨hB, h1, h4⟩
  · rw [h1]
    exact k_p (by omega) (p3_24 c6 hx h2 hth htg (Or.inl hn))
  · have keep : ¬ bet (dlN c lg) (dlL c lg) x (fun w => s.1 21 w + 1) → Ok (some (0, s)) (fun _ t => dlB c lg P' t ∧ Fr (fun a q => (a = 20 ∧ (q = 1 ∨ q = 4)) ∨ a = 21) s t) := fun z =>
      k_r ⟨Or.inr ⟨bs_keep (fun r r' h => dl_ag h) hB z hlt (fun r => (h2 r).mp) (fun r q => (h2 r).mpr (Or.inl q)), h1, h4⟩, fr_refl⟩
    refine k_i (fun z => ?_) (fun z => k_v (k_i (fun z2 => k_v (k_i (fun z3 => ?_) (fun z3 => ?_))) (fun z2 => ?_)))
    · exact p3_24 c6 hx h2 hth htg (Or.inr ⟨_, hB, Or.inl (by omega)⟩)
    · exact p3_24 c6 hx h2 hth htg (Or.inr ⟨_, hB, Or.inr (by omega)⟩)
    · exact keep (by unfold bet; omega)
    · exact keep (by unfold bet; omega)
end
def zMb8 (m w v : Nat) : Bool := ((zAnd (zShr (zOr (m : Int) (zShl 1 (w : Int))) (v : Int)) 1 != 0) == (v == w || zAnd (zShr (m : Int) (v : Int)) 1 != 0)) && (decide (0 ≤ zOr (m : Int) (zShl 1 (w : Int))) && decide (zOr (m : Int) (zShl 1 (w : Int)) < 256))
theorem zMall8 : ((List.range 256).all fun m => (List.range 8).all fun w => (List.range 8).all fun v => zMb8 m w v) = true := by decide +kernel
theorem zMask8 {m w v : Nat} (hm : m < 256) (hw : w < 8) (hv : v < 8) : (zAnd (zShr (zOr (m : Int) (zShl 1 (w : Int))) (v : Int)) 1 ≠ 0 ↔ (v = w ∨ zAnd (zShr (m : Int) (v : Int)) 1 ≠ 0)) ∧ 0 ≤ zOr (m : Int) (zShl 1 (w : Int)) ∧ zOr (m : Int) (zShl 1 (w : Int)) < 256 := by
  have h1 := List.all_eq_true.mp zMall8 m (List.mem_range.mpr hm)
  have h2 := List.all_eq_true.mp h1 w (List.mem_range.mpr hw)
  have h3 := List.all_eq_true.mp h2 v (List.mem_range.mpr hv)
  unfold zMb8 at h3
  rw [Bool.and_eq_true, Bool.and_eq_true, decide_eq_true_eq, decide_eq_true_eq, beq_iff_eq] at h3
  obtain ⟨q1, q2, q3⟩ := h3
  refine ⟨?_, q2, q3⟩
  have e1 : (zAnd (zShr (zOr (m : Int) (zShl 1 (w : Int))) (v : Int)) 1 != 0) = true ↔ zAnd (zShr (zOr (m : Int) (zShl 1 (w : Int))) (v : Int)) 1 ≠ 0 := bne_iff_ne
  rw [← e1, q1, Bool.or_eq_true, beq_iff_eq, bne_iff_ne]
theorem zMask8i {m w v : Int} (m0 : 0 ≤ m) (hm : m < 256) (w0 : 0 ≤ w) (hw : w < 8) (v0 : 0 ≤ v) (hv : v < 8) : (zAnd (zShr (zOr m (zShl 1 w)) v) 1 ≠ 0 ↔ (v = w ∨ zAnd (zShr m v) 1 ≠ 0)) ∧ 0 ≤ zOr m (zShl 1 w) ∧ zOr m (zShl 1 w) < 256 := by
  have := zMask8 (m := m.toNat) (w := w.toNat) (v := v.toNat) (by omega) (by omega) (by omega)
  rw [show ((m.toNat : Nat) : Int) = m by omega, show ((w.toNat : Nat) : Int) = w by omega, show ((v.toNat : Nat) : Int) = v by omega] at this
  refine ⟨this.1.trans ⟨fun z => z.elim (fun z => Or.inl (by omega)) Or.inr, fun z => z.elim (fun z => Or.inl (by omega)) Or.inr⟩, this.2⟩
/-- clean rows that come before: those that part below k, or at k below e -/
def dlP (c : Int) (lg : Int → Int → Int) (k : Int) (x : Int → Int) (e : Int) (r : Int → Int) : Prop := dlQ c lg r ∧ (rLt k r x ∨ (rAg k r x ∧ r k < e))
section
variable {c : Int} {lg : Int → Int → Int} {s0 : zS}
theorem pM2 (c6 : c ≤ 6) (hc : s0.1 20 5 = c) (hlg : ∀ w p, 0 ≤ w → w < c → 0 ≤ p → p < 8 → s0.1 23 (8 * w + p) = lg w p) (hl : ∀ w p, -1 ≤ lg w p ∧ lg w p ≤ 30) :
    ∀ (j n : Nat) (k mk th tg : Int) (x : Int → Int) (s : zS), k = c - (j : Int) → 0 ≤ k → j < n → Fr dlF s0 s → (∀ w, 0 ≤ w → w < k → s.1 22 w + 1 = x w) → dlQ k lg x → 0 ≤ mk → mk < 256 → (∀ p, 0 ≤ p → p < 8 → (zAnd (zShr mk p) 1 ≠ 0 ↔ ∃ w, 0 ≤ w ∧ w < k ∧ x w = p + 1)) → th = dlS (dlC lg x) k.toNat → tg = dlS (dlH lg x) k.toNat → dlB c lg (fun r => dlQ c lg r ∧ rLt k r x) s →
      Ok (M2 n k mk th tg s) (fun _ t => dlB c lg (fun r => dlQ c lg r ∧ (rLt k r x ∨ rAg k r x)) t ∧ Fr dlF s0 t ∧ ∀ w, 0 ≤ w → w < k → t.1 22 w + 1 = x w) := by
  intro j
  induction j with
  | zero =>
    intro n k mk th tg x s hk k0 hn hs hx hq m0 m1 hm eth etg hB
    obtain ⟨n, rfl⟩ : ∃ m, n = m + 1 := ⟨n - 1, by omega⟩
    have ek : k = c := by omega
    subst ek
    have b1 := dlS_in (g := dlC lg x) k.toNat (fun w _ _ => (dlC_in hl w).1)
    show Ok (m2 (M2 n) k mk th tg s) _
    unfold m2
    refine k_v ?_
    rw [hs.1 20 5 (by omega), hc]
    refine k_q (by omega) (k_c (p3 (c := k) (lg := lg) (x := x) (P' := fun r => dlQ k lg r ∧ (rLt k r x ∨ rAg k r x)) c6 hx hB (fun r => ?_) (fun r z => z.2) eth etg (by omega)) ?_)
    · constructor
      · intro z
        exact z.2.elim (fun y => Or.inl ⟨z.1, y⟩) Or.inr
      · intro z
        exact z.elim (fun y => ⟨y.1, Or.inl y.2⟩) (fun y => ⟨dlQ_ag y hq, Or.inr y⟩)
    · intro _ t ht
      exact k_r ⟨ht.1, fr_trans hs (fr_mono (fun a q z => by omega) ht.2), fun w w0 w1 => by rw [ht.2.1 22 w (by omega)]; exact hx w w0 w1⟩
  | succ j ih =>
    intro n k mk th tg x s hk k0 hn hs hx hq m0 m1 hm eth etg hB
    obtain ⟨n, rfl⟩ : ∃ m, n = m + 1 := ⟨n - 1, by omega⟩
    have b1 := dlS_in (g := dlC lg x) k.toNat (fun w _ _ => (dlC_in hl w).1)
    have b2 := dlS_in (g := dlH lg x) k.toNat (fun w _ _ => (dlC_in hl w).2)
    rw [← eth] at b1
    rw [← etg] at b2
    -- the sums with one more
    have up : ∀ e, dlS (dlC lg (dlU x k e)) (k + 1).toNat = th + dlC lg (dlU x k e) k ∧ dlS (dlH lg (dlU x k e)) (k + 1).toNat = tg + dlH lg (dlU x k e) k := by
      intro e
      rw [dlS_up k0, dlS_up k0, eth, etg]
      rw [dlS_congr (g := dlC lg (dlU x k e)) (g' := dlC lg x) k.toNat (fun w w0 w1 => (dlC_v (dlU_o (by omega))).1), dlS_congr (g := dlH lg (dlU x k e)) (g' := dlH lg x) k.toNat (fun w w0 w1 => (dlC_v (dlU_o (by omega))).2)]
      exact ⟨rfl, rfl⟩
    -- a child
    have child : ∀ (e mk' th' tg' : Int) (s : zS), Fr dlF s0 s → (∀ w, 0 ≤ w → w < k → s.1 22 w + 1 = x w) → s.1 22 k + 1 = e → 0 ≤ e → e ≤ 8 → (e ≠ 0 → lg k (e - 1) ≠ -1) → (e ≠ 0 → ∀ v, 0 ≤ v → v < k → x v ≠ e) → 0 ≤ mk' → mk' < 256 → (∀ p, 0 ≤ p → p < 8 → (zAnd (zShr mk' p) 1 ≠ 0 ↔ (e = p + 1 ∨ ∃ w, 0 ≤ w ∧ w < k ∧ x w = p + 1))) → th' = th + dlC lg (dlU x k e) k → tg' = tg + dlH lg (dlU x k e) k → dlB c lg (dlP c lg k x e) s → Ok (M2 n (k + 1) mk' th' tg' s) (fun _ t => dlB c lg (dlP c lg k x (e + 1)) t ∧ Fr dlF s0 t ∧ ∀ w, 0 ≤ w → w < k → t.1 22 w + 1 = x w) := by
      intro e mk' th' tg' s hs hx hxk e0 e8 el ed m0 m1 hm eth' etg' hB
      refine k_m (ih n (k + 1) mk' th' tg' (dlU x k e) s (by omega) (by omega) (by omega) hs (fun w w0 w1 => ?_) (fun w w0 w1 => ?_) m0 m1 (fun p p0 p1 => (hm p p0 p1).trans ⟨fun z => ?_, fun z => ?_⟩) (by rw [eth', (up e).1]) (by rw [etg', (up e).2]) (dlB_iff (fun r => ?_) hB)) ?_
      · by_cases d : w = k
        · subst d; rw [dlU_e]; exact hxk
        · rw [dlU_o d]; exact hx w w0 (by omega)
      · by_cases d : w = k
        · subst d
          rw [dlU_e]
          exact ⟨e0, e8, el, fun v v0 v1 ne => by rw [dlU_o (by omega)]; exact ed ne v v0 v1⟩
        · rw [dlU_o d]
          have := hq w w0 (by omega)
          exact ⟨this.1, this.2.1, this.2.2.1, fun v v0 v1 ne => by rw [dlU_o (by omega)]; exact this.2.2.2 v v0 v1 ne⟩
      · rcases z with z | ⟨w, w0, w1, w2⟩
        · exact ⟨k, k0, by omega, by rw [dlU_e]; exact z⟩
        · exact ⟨w, w0, by omega, by rw [dlU_o (by omega)]; exact w2⟩
      · obtain ⟨w, w0, w1, w2⟩ := z
        by_cases d : w = k
        · subst d
          rw [dlU_e] at w2
          exact Or.inl w2
        · rw [dlU_o d] at w2
          exact Or.inr ⟨w, w0, by omega, w2⟩
      · unfold dlP
        rw [rLt_u k0]
      · intro _ t ht
        obtain ⟨t1, t2, t3⟩ := ht
        refine ⟨dlB_iff (fun r => ?_) t1, t2, fun w w0 w1 => ?_⟩
        · unfold dlP
          rw [rLt_u k0, rAg_u k0]
          constructor
          · rintro ⟨y1, (y2 | y2) | y2⟩
            · exact ⟨y1, Or.inl y2⟩
            · exact ⟨y1, Or.inr ⟨y2.1, by omega⟩⟩
            · exact ⟨y1, Or.inr ⟨y2.1, by omega⟩⟩
          · rintro ⟨y1, y2 | y2⟩
            · exact ⟨y1, Or.inl (Or.inl y2)⟩
            · by_cases d : r k = e
              · exact ⟨y1, Or.inr ⟨y2.1, d⟩⟩
              · exact ⟨y1, Or.inl (Or.inr ⟨y2.1, by omega⟩)⟩
        · have := t3 w w0 (by omega)
          rw [dlU_o (by omega)] at this
          exact this
    -- the pairs in their order
    have loop : ∀ (m i : Nat) (p : Int) (s : zS), p = 8 - (i : Int) → 0 ≤ p → i < m → Fr dlF s0 s → (∀ w, 0 ≤ w → w < k → s.1 22 w + 1 = x w) → dlB c lg (dlP c lg k x (p + 1)) s → Ok (m2_43 (M2 n) m k mk th tg p s) (fun _ t => dlB c lg (fun r => dlQ c lg r ∧ (rLt k r x ∨ rAg k r x)) t ∧ Fr dlF s0 t ∧ ∀ w, 0 ≤ w → w < k → t.1 22 w + 1 = x w) := by
      intro m
      induction m with
      | zero => intro i p s _ _ h; omega
      | succ m ihm =>
        intro i p s hp p0 hi hs hx hB
        rw [m2_43]
        cases i with
        | zero =>
          refine k_q (by omega) (k_r ⟨dlB_iff (fun r => ?_) hB, hs, hx⟩)
          unfold dlP
          constructor
          · rintro ⟨y1, y2 | y2⟩
            · exact ⟨y1, Or.inl y2⟩
            · exact ⟨y1, Or.inr y2.1⟩
          · rintro ⟨y1, y2 | y2⟩
            · exact ⟨y1, Or.inl y2⟩
            · have := (y1 k k0 (by omega)).2.1
              exact ⟨y1, Or.inr ⟨y2, by omega⟩⟩
        | succ i =>
          refine k_p (by omega) (k_z (by omega) (by omega) (k_z (by omega) (by omega) (k_x (by omega) (by omega) (k_v ?_))))
          rw [show k * 8 + p = 8 * k + p by omega, hs.1 23 _ (by omega), hlg k p k0 (by omega) p0 (by omega)]
          have hlk := hl k p
          -- none of that kind
          have skip : (∀ r, dlQ c lg r → rAg k r x → r k ≠ p + 1) → Ok (m2_43 (M2 n) m k mk th tg (p + 1) s) (fun _ t => dlB c lg (fun r => dlQ c lg r ∧ (rLt k r x ∨ rAg k r x)) t ∧ Fr dlF s0 t ∧ ∀ w, 0 ≤ w → w < k → t.1 22 w + 1 = x w) := by
            intro no
            refine ihm i (p + 1) s (by omega) (by omega) (by omega) hs hx (dlB_iff (fun r => ?_) hB)
            unfold dlP
            constructor
            · rintro ⟨y1, y2 | y2⟩
              · exact ⟨y1, Or.inl y2⟩
              · exact ⟨y1, Or.inr ⟨y2.1, by omega⟩⟩
            · rintro ⟨y1, y2 | y2⟩
              · exact ⟨y1, Or.inl y2⟩
              · have := no r y1 y2.1
                exact ⟨y1, Or.inr ⟨y2.1, by omega⟩⟩
          refine k_i (fun z => k_z (by omega) (by omega) (skip (fun r y1 y2 y3 => ?_))) (fun z => k_v (k_v (k_i (fun zb => ?_) (fun zb => k_z (by omega) (by omega) (skip (fun r y1 y2 y3 => ?_))))))
          · have := (y1 k k0 (by omega)).2.2.1 (by omega)
            rw [y3, show p + 1 - 1 = p by omega] at this
            exact this z
          · have hbit : ¬ ∃ w, 0 ≤ w ∧ w < k ∧ x w = p + 1 := fun y => (hm p p0 (by omega)).mpr y zb
            refine k_x k0 (by omega) (k_v (k_z (by omega) (by omega) (k_v (k_v (k_z (by omega) (by omega) (k_z (by omega) (by omega) (k_c (child (p + 1) _ (th + 1) (tg + lg k p) (sI s 22 k p) (fr_trans hs (fr_I (by omega))) (fun w w0 w1 => ?_) ?_ (by omega) (by omega) ?_ ?_ ?_ ?_ ?_ ?_ ?_ ?_) ?_)))))))
            · rw [sI_k (by omega)]; exact hx w w0 w1
            · rw [sI_e]
            · intro _
              rw [show p + 1 - 1 = p by omega]
              exact z
            · intro _ v v0 v1 y
              exact hbit ⟨v, v0, v1, y⟩
            · exact (zMask8i m0 m1 p0 (by omega) p0 (by omega)).2.1
            · exact (zMask8i m0 m1 p0 (by omega) p0 (by omega)).2.2
            · intro q q0 q1
              rw [(zMask8i m0 m1 p0 (by omega) q0 q1).1, hm q q0 q1]
              constructor
              · exact fun y => y.elim (fun y => Or.inl (by omega)) Or.inr
              · exact fun y => y.elim (fun y => Or.inl (by omega)) Or.inr
            · unfold dlC
              rw [dlU_e, show p + 1 - 1 = p by omega, if_pos ⟨by omega, z⟩]
            · unfold dlH
              rw [dlU_e, show p + 1 - 1 = p by omega, if_pos ⟨by omega, z⟩]
            · exact dlB_eq (by rw [sI_a (by omega)]) (by rw [sI_a (by omega)]) (funext fun q => by rw [sI_a (by omega)]) hB
            · intro _ t ht
              exact k_z (by omega) (by omega) (ihm i (p + 1) t (by omega) (by omega) (by omega) ht.2.1 ht.2.2 ht.1)
          · obtain ⟨w, w0, w1, w2⟩ := (hm p p0 (by omega)).mp zb
            have := (y1 k k0 (by omega)).2.2.2 w w0 w1 (by omega)
            rw [y2 w w0 w1] at this
            omega
    show Ok (m2 (M2 n) k mk th tg s) _
    unfold m2
    refine k_v ?_
    rw [hs.1 20 5 (by omega), hc]
    refine k_p (by omega) (k_p (by omega) (k_x k0 (by omega) (k_v (k_z (by omega) (by omega) (k_c (child 0 mk th tg (sI s 22 k (-1)) (fr_trans hs (fr_I (by omega))) (fun w w0 w1 => ?_) (by rw [sI_e]; rfl) (by omega) (by omega) (fun y => absurd rfl y) (fun y => absurd rfl y) m0 m1 (fun p p0 p1 => (hm p p0 p1).trans ⟨Or.inr, fun y => y.elim (fun y => by omega) id⟩) ?_ ?_ ?_) ?_)))))
    · rw [sI_k (by omega)]; exact hx w w0 w1
    · unfold dlC
      rw [dlU_e, if_neg (fun y => by omega)]
      omega
    · unfold dlH
      rw [dlU_e, if_neg (fun y => by omega)]
      omega
    · refine dlB_iff (fun r => ?_) (dlB_eq (s := s) (by rw [sI_a (by omega)]) (by rw [sI_a (by omega)]) (funext fun q => by rw [sI_a (by omega)]) hB)
      unfold dlP
      constructor
      · exact fun y => ⟨y.1, Or.inl y.2⟩
      · rintro ⟨y1, y2 | y2⟩
        · exact ⟨y1, y2⟩
        · have := (y1 k k0 (by omega)).1
          omega
    · intro _ t ht
      exact loop zFu 8 0 t (by omega) (by omega) (by unfold zFu; omega) ht.2.1 ht.2.2 ht.1
end
