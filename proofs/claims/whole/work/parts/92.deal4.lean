/-! ===== deal: the reference's rows in their order ===== -/
/-- a row: none who is away has shoes -/
def dlR (c b : Int) (N r : Int → Int) : Prop := ∀ w, 0 ≤ w → w < c → 0 ≤ r w ∧ r w ≤ b ∧ (N (11 + 3 * w) ≠ 0 → r w = 0)
/-- one that can be dealt -/
def dlO (c : Int) (N r : Int → Int) (w : Int) : Prop := r w ≠ 0 → (∀ v, 0 ≤ v → v < c → N (10 + 3 * v) ≠ r w - 1) ∧ ∀ v, 0 ≤ v → v < w → r v ≠ r w
def dlV (c b : Int) (N r : Int → Int) : Prop := dlR c b N r ∧ ∀ w, 0 ≤ w → w < c → dlO c N r w
theorem dlR_ag {c b : Int} {N r r' : Int → Int} (h : rAg c r r') (hq : dlR c b N r') : dlR c b N r := by
  intro w w0 w1
  rw [h w w0 w1]
  exact hq w w0 w1
theorem dlV_ag {c b : Int} {N r r' : Int → Int} (h : rAg c r r') (hq : dlV c b N r') : dlV c b N r := by
  refine ⟨dlR_ag h hq.1, fun w w0 w1 => ?_⟩
  have := hq.2 w w0 w1
  unfold dlO at this ⊢
  rw [h w w0 w1]
  intro ne
  exact ⟨(this ne).1, fun v v0 v1 => by rw [h v v0 (by omega)]; exact (this ne).2 v v0 v1⟩
/-- a row as a number -/
def dlE (r : Int → Int) : Nat → Int
  | 0 => 0
  | n + 1 => 9 * dlE r n + r (n : Int)
def nin9 : Nat → Int
  | 0 => 1
  | n + 1 => 9 * nin9 n
theorem nin9_6 {n : Nat} (h : n ≤ 6) : nin9 n ≤ 531441 := by
  have : n = 0 ∨ n = 1 ∨ n = 2 ∨ n = 3 ∨ n = 4 ∨ n = 5 ∨ n = 6 := by omega
  rcases this with rfl | rfl | rfl | rfl | rfl | rfl | rfl <;> decide
theorem dlE_in {r : Int → Int} : ∀ n : Nat, (∀ w, 0 ≤ w → w < (n : Int) → 0 ≤ r w ∧ r w ≤ 8) → 0 ≤ dlE r n ∧ dlE r n < nin9 n := by
  intro n
  induction n with
  | zero => intro _; exact ⟨by show (0 : Int) ≤ 0; omega, by show (0 : Int) < 1; omega⟩
  | succ n ih =>
    intro h
    have i1 := ih (fun w w0 w1 => h w w0 (by omega))
    have i2 := h (n : Int) (by omega) (by omega)
    show 0 ≤ 9 * dlE r n + r (n : Int) ∧ 9 * dlE r n + r (n : Int) < 9 * nin9 n
    omega
theorem dlE_ag {r r' : Int → Int} : ∀ n : Nat, rAg (n : Int) r r' → dlE r n = dlE r' n := by
  intro n
  induction n with
  | zero => intro _; rfl
  | succ n ih =>
    intro h
    show 9 * dlE r n + r (n : Int) = 9 * dlE r' n + r' (n : Int)
    rw [ih (fun w w0 w1 => h w w0 (by omega)), h (n : Int) (by omega) (by omega)]
theorem dlE_lt {r r' : Int → Int} : ∀ n : Nat, (∀ w, 0 ≤ w → w < (n : Int) → 0 ≤ r w ∧ r w ≤ 8) → (∀ w, 0 ≤ w → w < (n : Int) → 0 ≤ r' w ∧ r' w ≤ 8) → rLt (n : Int) r r' → dlE r n < dlE r' n := by
  intro n
  induction n with
  | zero =>
    intro _ _ h
    obtain ⟨w, w0, w1, _⟩ := h
    omega
  | succ n ih =>
    intro h h' hl
    obtain ⟨w, w0, w1, w2, w3⟩ := hl
    have a1 := h (n : Int) (by omega) (by omega)
    have a2 := h' (n : Int) (by omega) (by omega)
    show 9 * dlE r n + r (n : Int) < 9 * dlE r' n + r' (n : Int)
    by_cases e : w = (n : Int)
    · subst e
      rw [dlE_ag n (r' := r') (fun v v0 v1 => w2 v v0 v1)]
      omega
    · have := ih (fun w w0 w1 => h w w0 (by omega)) (fun w w0 w1 => h' w w0 (by omega)) ⟨w, w0, by omega, w2, w3⟩
      omega
abbrev dnF (c : Int) (a : Nat) (q : Int) : Prop := a = 257 ∧ 0 ≤ q ∧ q < c
section
variable {s0 : zS} {c b : Int}
theorem p223_7 (hc : s0.1 242 6 = c) (hb : s0.1 242 5 = b) (c6 : c ≤ 6) (b8 : b ≤ 8) (hN : ∀ w, 0 ≤ w → w < c → 0 ≤ s0.1 254 (11 + 3 * w) ∧ s0.1 254 (11 + 3 * w) ≤ 1000) (hR : dlR c b (s0.1 254) (s0.1 257)) : ∀ (n j : Nat) (k : Int) (s : zS), k = (j : Int) - 1 → k < c → j < n → Fr (dnF c) s0 s → (∀ w, 0 ≤ w → w ≤ k → s.1 257 w = s0.1 257 w) → (∀ w, k < w → w < c → 0 ≤ w → s.1 257 w = 0) → (∀ w, k < w → w < c → 0 ≤ w → s0.1 254 (11 + 3 * w) ≠ 0 ∨ s0.1 257 w = b) → Ok (m223_7 n k s) (fun r t => Fr (dnF c) s0 t ∧ ((r = 0 ∧ ∀ w, 0 ≤ w → w < c → s0.1 254 (11 + 3 * w) ≠ 0 ∨ s0.1 257 w = b) ∨ (r = 1 ∧ ∃ k, 0 ≤ k ∧ k < c ∧ s0.1 254 (11 + 3 * k) = 0 ∧ s0.1 257 k ≠ b ∧ (∀ w, 0 ≤ w → w < k → t.1 257 w = s0.1 257 w) ∧ t.1 257 k = s0.1 257 k + 1 ∧ (∀ w, k < w → w < c → t.1 257 w = 0) ∧ ∀ w, k < w → w < c → s0.1 254 (11 + 3 * w) ≠ 0 ∨ s0.1 257 w = b))) := by
  intro n
  induction n with
  | zero => intro j k s _ _ h; omega
  | succ n ih =>
    intro j k s hk k1 hj hs h1 h2 h3
    rw [m223_7]
    cases j with
    | zero =>
      refine k_p (by omega) ?_
      unfold m223_46
      exact k_p (by omega) (k_r ⟨hs, Or.inl ⟨rfl, fun w w0 w1 => h3 w (by omega) w1 w0⟩⟩)
    | succ j =>
      have k0 : 0 ≤ k := by omega
      have hNk := hN k k0 k1
      have e254 : s.1 254 (11 + 3 * k) = s0.1 254 (11 + 3 * k) := hs.1 254 _ (by omega)
      have hRk := hR k k0 k1
      refine k_q (by omega) (k_e (e189 k0 (by omega) (by rw [e254]; exact hNk.1) (by rw [e254]; exact hNk.2)) ?_)
      rw [e254]
      have back : (s0.1 254 (11 + 3 * k) ≠ 0 ∨ s0.1 257 k = b) → Ok (m223_33 (m223_7 n) k s) (fun r t => Fr (dnF c) s0 t ∧ ((r = 0 ∧ ∀ w, 0 ≤ w → w < c → s0.1 254 (11 + 3 * w) ≠ 0 ∨ s0.1 257 w = b) ∨ (r = 1 ∧ ∃ k, 0 ≤ k ∧ k < c ∧ s0.1 254 (11 + 3 * k) = 0 ∧ s0.1 257 k ≠ b ∧ (∀ w, 0 ≤ w → w < k → t.1 257 w = s0.1 257 w) ∧ t.1 257 k = s0.1 257 k + 1 ∧ (∀ w, k < w → w < c → t.1 257 w = 0) ∧ ∀ w, k < w → w < c → s0.1 254 (11 + 3 * w) ≠ 0 ∨ s0.1 257 w = b))) := by
        intro z
        unfold m223_33
        refine k_x k0 (by omega) (k_v (k_z (by omega) (by omega) ?_))
        refine ih j (k + -1) _ (by omega) (by omega) (by omega) (fr_trans hs (fr_I ⟨rfl, k0, k1⟩)) (fun w w0 w1 => ?_) (fun w w0 w1 w2 => ?_) (fun w w0 w1 w2 => ?_)
        · rw [sI_k (by omega)]; exact h1 w w0 (by omega)
        · by_cases e : w = k
          · rw [e, sI_e]
          · rw [sI_k e]; exact h2 w (by omega) w1 w2
        · by_cases e : w = k
          · rw [e]; exact z
          · exact h3 w (by omega) w1 w2
      by_cases home : s0.1 254 (11 + 3 * k) = 0
      · refine k_p (by omega) (k_x k0 (by omega) (k_v (k_e e182 ?_)))
        rw [h1 k k0 (by omega), hs.1 242 5 (by omega), hb]
        by_cases full : s0.1 257 k = b
        · exact k_p full (back (Or.inr full))
        · refine k_q full ?_
          unfold m223_46
          refine k_q (by omega) (k_x k0 (by omega) (k_v ?_))
          rw [h1 k k0 (by omega)]
          refine k_z (by omega) (by omega) (k_x k0 (by omega) (k_v (k_r ⟨fr_trans hs (fr_I ⟨rfl, k0, k1⟩), Or.inr ⟨rfl, k, k0, k1, home, full, fun w w0 w1 => ?_, ?_, fun w w0 w1 => ?_, fun w w0 w1 => h3 w w0 w1 (by omega)⟩⟩)))
          · rw [sI_k (by omega)]; exact h1 w w0 (by omega)
          · rw [sI_e]
          · rw [sI_k (by omega)]; exact h2 w w0 w1 (by omega)
      · exact k_q (by omega) (back (Or.inl home))
/-- the next row, and none between -/
theorem p223 (hc : s0.1 242 6 = c) (hb : s0.1 242 5 = b) (c0 : 0 ≤ c) (c6 : c ≤ 6) (b8 : b ≤ 8) (hN : ∀ w, 0 ≤ w → w < c → 0 ≤ s0.1 254 (11 + 3 * w) ∧ s0.1 254 (11 + 3 * w) ≤ 1000) (hR : dlR c b (s0.1 254) (s0.1 257)) : Ok (m223 s0) (fun r t => Fr (dnF c) s0 t ∧ ((r = 0 ∧ ∀ r', dlR c b (s0.1 254) r' → ¬ rLt c (s0.1 257) r') ∨ (r = 1 ∧ dlR c b (s0.1 254) (t.1 257) ∧ rLt c (s0.1 257) (t.1 257) ∧ ∀ r', dlR c b (s0.1 254) r' → rLt c (s0.1 257) r' → ¬ rLt c r' (t.1 257)))) := by
  unfold m223
  refine k_e e183 ?_
  rw [hc]
  refine k_z (by omega) (by omega) (k_m (p223_7 hc hb c6 b8 hN hR zFu c.toNat (c - 1) s0 (by omega) (by omega) (by unfold zFu; omega) fr_refl (fun _ _ _ => rfl) (fun w w0 w1 => by omega) (fun w w0 w1 => by omega)) ?_)
  rintro r t ⟨h1, h2 | ⟨h2, k, k0, k1, home, nf, below, atk, above, full⟩⟩
  · refine ⟨h1, Or.inl ⟨h2.1, ?_⟩⟩
    rintro r' hr ⟨w, w0, w1, w2, w3⟩
    have a1 := hR w w0 w1
    have a2 := hr w w0 w1
    rcases h2.2 w w0 w1 with z | z
    · have := a2.2.2 z
      omega
    · omega
  · refine ⟨h1, Or.inr ⟨h2, fun w w0 w1 => ?_, ⟨k, k0, k1, fun v v0 v1 => (below v v0 v1).symm, by omega⟩, ?_⟩⟩
    · have a1 := hR w w0 w1
      by_cases e : w < k
      · rw [below w w0 e]; exact a1
      · by_cases d : w = k
        · subst d
          rw [atk]
          exact ⟨by omega, by omega, fun z => absurd home z⟩
        · rw [above w (by omega) w1]
          exact ⟨by omega, by have := hR k k0 k1; omega, fun _ => rfl⟩
    · rintro r' hr ⟨w, w0, w1, w2, w3⟩ ⟨v, v0, v1, v2, v3⟩
      have wk : w ≤ k := by
        apply Classical.byContradiction
        intro z
        have a1 := hR w w0 w1
        have a2 := hr w w0 w1
        rcases full w (by omega) w1 with y | y
        · have := a2.2.2 y
          omega
        · omega
      by_cases c1 : v < w
      · have := w2 v v0 c1
        have := below v v0 (by omega)
        omega
      · by_cases c2 : v = w
        · subst c2
          by_cases c3 : v < k
          · have := below v v0 c3
            omega
          · have : v = k := by omega
            subst this
            omega
        · have := v2 w w0 (by omega)
          by_cases c3 : w < k
          · have := below w w0 c3
            omega
          · have := above v (by omega) v1
            have := hr v v0 v1
            omega
theorem p224_42 {K : Int → zS → Option (Int × zS)} {P : Int → zS → Prop} {s : zS} {w : Int} (w0 : 0 ≤ w) (w6 : w < 6) (h0 : (∃ v, 0 ≤ v ∧ v < w ∧ s.1 257 v = s.1 257 w) → P 0 s) (h1 : (∀ v, 0 ≤ v → v < w → s.1 257 v ≠ s.1 257 w) → Ok (K (w + 1) s) P) : ∀ (n j : Nat) (v : Int), v = w - (j : Int) → 0 ≤ v → j < n → (∀ i, 0 ≤ i → i < v → s.1 257 i ≠ s.1 257 w) → Ok (m224_42 K n w v s) P := by
  intro n
  induction n with
  | zero => intro j v _ _ h; omega
  | succ n ih =>
    intro j v hv v0 hj hh
    rw [m224_42]
    cases j with
    | zero => exact k_q (by omega) (k_z (by omega) (by omega) (h1 (fun i i0 i1 => hh i i0 (by omega))))
    | succ j =>
      refine k_p (by omega) (k_x v0 (by omega) (k_v (k_x w0 (by omega) (k_v (k_i (fun z => k_r (h0 ⟨v, v0, by omega, z⟩)) (fun z => k_z (by omega) (by omega) ?_))))))
      refine ih j (v + 1) (by omega) (by omega) (by omega) (fun i i0 i1 => ?_)
      by_cases e : i = v
      · rw [e]; exact z
      · exact hh i i0 (by omega)
theorem p224_2 {s : zS} (hc : s.1 242 6 = c) (c0 : 0 ≤ c) (c6 : c ≤ 6) (hr : ∀ w, 0 ≤ w → w < c → 0 ≤ s.1 257 w ∧ s.1 257 w ≤ 8) : ∀ (n j : Nat) (k : Int), k = c - (j : Int) → 0 ≤ k → j < n → Ok (m224_2 n k s) (fun r t => t = s ∧ ((r = 1 ∧ ∀ w, k ≤ w → w < c → dlO c (s.1 254) (s.1 257) w) ∨ (r = 0 ∧ ∃ w, k ≤ w ∧ w < c ∧ ¬ dlO c (s.1 254) (s.1 257) w))) := by
  intro n
  induction n with
  | zero => intro j k _ _ h; omega
  | succ n ih =>
    intro j k hk k0 hj
    rw [m224_2]
    refine k_e e183 ?_
    rw [hc]
    cases j with
    | zero => exact k_q (by omega) (k_r ⟨rfl, Or.inl ⟨rfl, fun w a b => by omega⟩⟩)
    | succ j =>
      have hk' := hr k k0 (by omega)
      have nx : dlO c (s.1 254) (s.1 257) k → Ok (m224_2 n (k + 1) s) (fun r t => t = s ∧ ((r = 1 ∧ ∀ w, k ≤ w → w < c → dlO c (s.1 254) (s.1 257) w) ∨ (r = 0 ∧ ∃ w, k ≤ w ∧ w < c ∧ ¬ dlO c (s.1 254) (s.1 257) w))) := by
        intro ok
        refine k_m (ih j (k + 1) (by omega) (by omega) (by omega)) ?_
        rintro r t ⟨h1, h2 | ⟨h2, w, h3, h4, h5⟩⟩
        · refine ⟨h1, Or.inl ⟨h2.1, fun w a b => ?_⟩⟩
          by_cases e : w = k
          · rw [e]; exact ok
          · exact h2.2 w (by omega) b
        · exact ⟨h1, Or.inr ⟨h2, w, by omega, h4, h5⟩⟩
      refine k_p (by omega) (k_x k0 (by omega) (k_v (k_i (fun z => k_z (by omega) (by omega) (nx (fun y => absurd z y))) (fun z => k_x k0 (by omega) (k_v (k_z (by omega) (by omega) (k_e (e192 (by omega) (by omega)) ?_)))))))
      rw [hc]
      have fin := fnd_in (g := fun w => s.1 254 (10 + 3 * w)) (p := s.1 257 k - 1) c.toNat 0
      have fno := fnd_none (g := fun w => s.1 254 (10 + 3 * w)) (p := s.1 257 k - 1) c.toNat 0 (by omega)
      generalize fnd (fun w => s.1 254 (10 + 3 * w)) (s.1 257 k - 1) c.toNat 0 = m at fin fno
      refine k_i (fun y => ?_) (fun y => k_r ⟨rfl, Or.inr ⟨rfl, k, by omega, by omega, fun d => ?_⟩⟩)
      · have no := fno y
        refine p224_42 k0 (by omega) ?_ ?_ zFu k.toNat 0 (by omega) (by omega) (by unfold zFu; omega) (fun i a b => by omega)
        · rintro ⟨v, v0, v1, v2⟩
          exact ⟨rfl, Or.inr ⟨rfl, k, by omega, by omega, fun d => (d z).2 v v0 v1 v2⟩⟩
        · intro hh
          exact nx (fun _ => ⟨fun v v0 v1 => no v v0 (by omega), hh⟩)
      · rcases fin with q | q
        · exact y q
        · exact (d z).1 m q.1 (by omega) q.2.2
theorem p224 {s : zS} (hc : s.1 242 6 = c) (c0 : 0 ≤ c) (c6 : c ≤ 6) (hr : ∀ w, 0 ≤ w → w < c → 0 ≤ s.1 257 w ∧ s.1 257 w ≤ 8) : Ok (m224 s) (fun r t => t = s ∧ ((r = 1 ∧ ∀ w, 0 ≤ w → w < c → dlO c (s.1 254) (s.1 257) w) ∨ (r = 0 ∧ ¬ ∀ w, 0 ≤ w → w < c → dlO c (s.1 254) (s.1 257) w))) := by
  unfold m224
  refine k_m (p224_2 hc c0 c6 hr zFu c.toNat 0 (by omega) (by omega) (by unfold zFu; omega)) ?_
  rintro r t ⟨h1, h2 | ⟨h2, w, h3, h4, h5⟩⟩
  · exact ⟨h1, Or.inl h2⟩
  · exact ⟨h1, Or.inr ⟨h2, fun z => h5 (z w h3 h4)⟩⟩
theorem p225_4 {s : zS} {lg : Int → Int → Int} (hc : s.1 242 6 = c) (c6 : c ≤ 6) (hl : ∀ w p, -1 ≤ lg w p ∧ lg w p ≤ 30) (hr : ∀ w, 0 ≤ w → w < c → 0 ≤ s.1 257 w ∧ s.1 257 w ≤ b) (b8 : b ≤ 8) (hlg : ∀ w p, 0 ≤ w → w < c → 0 ≤ p → p < b → s.1 259 (8 * w + p) = lg w p) : ∀ (n j : Nat) (k : Int), k = c - (j : Int) → 0 ≤ k → j < n → Ok (m225_4 n (dlS (dlC lg (s.1 257)) k.toNat) k s) (fun r t => r = dlN c lg (s.1 257) ∧ t = s) := by
  intro n
  induction n with
  | zero => intro j k _ _ h; omega
  | succ n ih =>
    intro j k hk k0 hj
    rw [m225_4]
    refine k_e e183 ?_
    rw [hc]
    have bd := dlS_in (g := dlC lg (s.1 257)) k.toNat (fun w _ _ => (dlC_in hl w).1)
    cases j with
    | zero =>
      refine k_q (by omega) (k_r ⟨?_, rfl⟩)
      unfold dlN
      rw [show k = c by omega]
    | succ j =>
      have hk' := hr k k0 (by omega)
      have nx := ih j (k + 1) (by omega) (by omega) (by omega)
      rw [dlS_up k0] at nx
      refine k_p (by omega) (k_x k0 (by omega) (k_v (k_i (fun z => ?_) (fun z => k_z (by omega) (by omega) ?_))))
      · refine k_z (by omega) (by omega) (k_x k0 (by omega) (k_v (k_z (by omega) (by omega) (k_z (by omega) (by omega) (k_x (by omega) (by omega) (k_v ?_))))))
        rw [show 8 * k + s.1 257 k - 1 = 8 * k + (s.1 257 k - 1) by omega, hlg k (s.1 257 k - 1) k0 (by omega) (by omega) (by omega)]
        refine k_i (fun y => k_z (by omega) (by omega) ?_) (fun y => k_z (by omega) (by omega) (k_z (by omega) (by omega) ?_))
        · rw [show dlC lg (s.1 257) k = 0 from if_neg (fun h => h.2 y), Int.add_zero] at nx
          exact nx
        · rw [show dlC lg (s.1 257) k = 1 from if_pos ⟨z, y⟩] at nx
          exact nx
      · rw [show dlC lg (s.1 257) k = 0 from if_neg (fun h => z h.1), Int.add_zero] at nx
        exact nx
theorem p226_4 {s : zS} {lg : Int → Int → Int} (hc : s.1 242 6 = c) (c6 : c ≤ 6) (hl : ∀ w p, -1 ≤ lg w p ∧ lg w p ≤ 30) (hr : ∀ w, 0 ≤ w → w < c → 0 ≤ s.1 257 w ∧ s.1 257 w ≤ b) (b8 : b ≤ 8) (hlg : ∀ w p, 0 ≤ w → w < c → 0 ≤ p → p < b → s.1 259 (8 * w + p) = lg w p) : ∀ (n j : Nat) (k : Int), k = c - (j : Int) → 0 ≤ k → j < n → Ok (m226_4 n (dlS (dlH lg (s.1 257)) k.toNat) k s) (fun r t => r = dlL c lg (s.1 257) ∧ t = s) := by
  intro n
  induction n with
  | zero => intro j k _ _ h; omega
  | succ n ih =>
    intro j k hk k0 hj
    rw [m226_4]
    refine k_e e183 ?_
    rw [hc]
    have bd := dlS_in (g := dlH lg (s.1 257)) k.toNat (fun w _ _ => (dlC_in hl w).2)
    cases j with
    | zero =>
      refine k_q (by omega) (k_r ⟨?_, rfl⟩)
      unfold dlL
      rw [show k = c by omega]
    | succ j =>
      have hk' := hr k k0 (by omega)
      have nx := ih j (k + 1) (by omega) (by omega) (by omega)
      rw [dlS_up k0] at nx
      refine k_p (by omega) (k_x k0 (by omega) (k_v (k_i (fun z => ?_) (fun z => k_z (by omega) (by omega) ?_))))
      · have e259 : s.1 259 (8 * k + s.1 257 k - 1) = lg k (s.1 257 k - 1) := by
          rw [show 8 * k + s.1 257 k - 1 = 8 * k + (s.1 257 k - 1) by omega, hlg k (s.1 257 k - 1) k0 (by omega) (by omega) (by omega)]
        have hlk := hl k (s.1 257 k - 1)
        refine k_z (by omega) (by omega) (k_x k0 (by omega) (k_v (k_z (by omega) (by omega) (k_z (by omega) (by omega) (k_x (by omega) (by omega) (k_v ?_))))))
        rw [e259]
        refine k_i (fun y => k_z (by omega) (by omega) ?_) (fun y => k_z (by omega) (by omega) (k_x k0 (by omega) (k_v (k_z (by omega) (by omega) (k_z (by omega) (by omega) (k_x (by omega) (by omega) (k_v ?_)))))))
        · rw [show dlH lg (s.1 257) k = 0 from if_neg (fun h => h.2 y), Int.add_zero] at nx
          exact nx
        · rw [e259]
          rw [show dlH lg (s.1 257) k = lg k (s.1 257 k - 1) from if_pos ⟨z, y⟩] at nx
          exact k_z (by omega) (by omega) (k_z (by omega) (by omega) nx)
      · rw [show dlH lg (s.1 257) k = 0 from if_neg (fun h => z h.1), Int.add_zero] at nx
        exact nx
theorem p227_152 {K : Int → Int → Int → zS → Option (Int × zS)} {P : Int → zS → Prop} {x1 x2 x3 : Int} (hK : ∀ t, (∀ w, 0 ≤ w → w < 6 → t.1 258 w = s0.1 257 w) → Fr (fun a _ => a = 258) s0 t → Ok (K x1 x2 x3 t) P) : ∀ (n j : Nat) (s : zS), j ≤ 6 → 6 - j < n → (∀ w, 0 ≤ w → w < (j : Int) → s.1 258 w = s0.1 257 w) → Fr (fun a _ => a = 258) s0 s → Ok (m227_152 K n x1 x2 x3 (j : Int) s) P := by
  intro n
  induction n with
  | zero => intro j s h1 h2; omega
  | succ n ih =>
    intro j s h1 h2 hh hs
    rw [m227_152]
    by_cases e : j = 6
    · subst e
      exact k_q (by omega) (hK s hh hs)
    · refine k_p (by omega) (k_x (by omega) (by omega) (k_v (k_x (by omega) (by omega) (k_v (k_z (by omega) (by omega) ?_)))))
      refine ih (j + 1) _ (by omega) (by omega) (fun w w0 w1 => ?_) (fr_trans hs (fr_I rfl))
      by_cases d : w = (j : Int)
      · rw [d, sI_e, hs.1 257 _ (by omega)]
      · rw [sI_k d]; exact hh w w0 (by omega)
end
