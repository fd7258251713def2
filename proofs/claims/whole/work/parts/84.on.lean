/-! ===== on: what an image is ===== -/
def chkF (b : Int → Int) : Nat → Int → Int → Int
  | 0, _, c => c
  | j + 1, k, c => chkF b j (k + 1) ((3 * c + b k) % 251)
/-- the pair told at place k of those where one is told -/
def prA (b : Int → Int) (nS nW k : Int) : Int := if k < nW then b (3 + nS + 4 * k) else b (3 + nS + 3 * nW + k)
def wOk (b : Int → Int) (nP nS w : Int) : Prop := b (3 + nS + 4 * w + 1) ≤ nP ∧ 256 * b (3 + nS + 4 * w + 2) + b (3 + nS + 4 * w + 3) ≤ 999 ∧ (b (3 + nS + 4 * w + 1) = 0 → 256 * b (3 + nS + 4 * w + 2) + b (3 + nS + 4 * w + 3) = 0)
def onOk (b : Int → Int) (l nP nS nW : Int) : Prop := l = 4 + nS + 4 * nW + (nS - nW) ∧ chkF b (l - 1).toNat 0 103 = b (l - 1) ∧ 256 * b 0 + b 1 ≤ 999 ∧ b 2 ≤ 2 ∧ (∀ p, 0 ≤ p → p < nS → b (3 + p) ≤ 9) ∧ (∀ w, 0 ≤ w → w < nW → wOk b nP nS w) ∧ ∀ p, 0 ≤ p → p < nS → ∃ k, 0 ≤ k ∧ k < nS ∧ prA b nS nW k = p
section
variable {s s0 : zS}
theorem e68_5 {l : Int} (hl : l < s.1 1 2) (h16 : s.1 1 2 ≤ 1600) (hb : ∀ k, 0 ≤ k → k < 1600 → 0 ≤ s.1 2 k ∧ s.1 2 k ≤ 255) : ∀ (n j : Nat) (k c : Int), k = l - (j : Int) → 0 ≤ k → j < n → 0 ≤ c → c ≤ 250 → m68_5 n l c k s = some (if s.1 2 l = chkF (fun i => s.1 2 i) j k c then 1 else 0, s) := by
  intro n
  induction n with
  | zero => intro j k c _ _ h; omega
  | succ n ih =>
    intro j k c hk k0 hj c0 c1
    rw [m68_5]
    cases j with
    | zero =>
      rw [if_neg (by omega), e74 (by omega) hl h16, oC_some]
      show _ = some (if s.1 2 l = c then 1 else 0, s)
      split <;> rfl
    | succ j =>
      have hbk := hb k k0 (by omega)
      rw [if_pos (by omega), oZ_pos (by omega) (by omega), e74 k0 (by omega) h16, oC_some, oZ_pos (by omega) (by omega), oN_pos (by omega), oV_eq, Int.tmod_eq_emod_of_nonneg (by omega), oZ_pos (by omega) (by omega), ih j (k + 1) _ (by omega) (by omega) (by omega) (by omega) (by omega)]
      rfl
theorem e277b {l : Int} (h16 : l ≤ 1600) (hb : ∀ k, 0 ≤ k → k < 1600 → 0 ≤ s.1 210 k ∧ s.1 210 k ≤ 255) : ∀ (n j : Nat) (k c : Int), k = l - (j : Int) → 0 ≤ k → j < n → 0 ≤ c → c ≤ 250 → m277_5 n 1600 210 l c k s = some (chkF (fun i => s.1 210 i) j k c, s) := by
  intro n
  induction n with
  | zero => intro j k c _ _ h; omega
  | succ n ih =>
    intro j k c hk k0 hj c0 c1
    rw [m277_5]
    cases j with
    | zero => rw [if_neg (by omega)]; rfl
    | succ j =>
      have hbk := hb k k0 (by omega)
      rw [if_pos (by omega), oZ_pos (by omega) (by omega), oX_pos k0 (by omega), oV_eq, oZ_pos (by omega) (by omega), oN_pos (by omega), oV_eq, Int.tmod_eq_emod_of_nonneg (by omega), oZ_pos (by omega) (by omega), ih j (k + 1) _ (by omega) (by omega) (by omega) (by omega) (by omega)]
      rfl
theorem chk_congr {b b' : Int → Int} : ∀ (j : Nat) (k c : Int), (∀ i, k ≤ i → i < k + (j : Int) → b i = b' i) → chkF b j k c = chkF b' j k c := by
  intro j
  induction j with
  | zero => intro k c _; rfl
  | succ j ih =>
    intro k c h
    show chkF b j (k + 1) ((3 * c + b k) % 251) = chkF b' j (k + 1) ((3 * c + b' k) % 251)
    rw [h k (by omega) (by omega), ih (k + 1) _ (fun i a c => h i (by omega) (by omega))]
theorem e69 {k : Int} (h16 : s.1 1 2 ≤ 1600) (hb : ∀ k, 0 ≤ k → k < 1600 → 0 ≤ s.1 2 k ∧ s.1 2 k ≤ 255) (k0 : 0 ≤ k) (k1 : k + 1 < s.1 1 2) : m69 k s = some (256 * s.1 2 k + s.1 2 (k + 1), s) := by
  have h1 := hb k k0 (by omega)
  have h2 := hb (k + 1) (by omega) (by omega)
  unfold m69
  rw [e74 k0 (by omega) h16, oC_some, oZ_pos (by omega) (by omega), oZ_pos (by omega) (by omega), e74 (by omega) k1 h16, oC_some, oZ_pos (by omega) (by omega), show s.1 2 k * 256 + s.1 2 (k + 1) = 256 * s.1 2 k + s.1 2 (k + 1) by omega]
end
abbrev oFr (a : Nat) (_ : Int) : Prop := 34 ≤ a ∧ a ≤ 39
/-- what the class has read, all being so -/
def onC (b : Int → Int) (nS nW : Int) (t : zS) : Prop := t.1 34 5 = nS - nW ∧ t.1 34 6 = 256 * b 0 + b 1 ∧ t.1 34 7 = b 2 ∧ (∀ p, 0 ≤ p → p < nS → t.1 35 p = b (3 + p)) ∧ (∀ w, 0 ≤ w → w < nW → t.1 36 w = b (3 + nS + 4 * w) ∧ t.1 37 w = b (3 + nS + 4 * w + 1) - 1 ∧ t.1 38 w = 256 * b (3 + nS + 4 * w + 2) + b (3 + nS + 4 * w + 3)) ∧ ∀ k, 0 ≤ k → k < nS - nW → t.1 39 k = b (3 + nS + 4 * nW + k)
section
variable {s0 : zS} {b : Int → Int} {nP nS nW l : Int}
/-- each is told: the class's shelf loop -/
theorem p71_27 {s : zS} {p : Int} {K : Nat → Int → Int → Int → zS → Option (Int × zS)} {P : Int → zS → Prop} (h5 : s.1 34 5 = nS - nW) (hw0 : 0 ≤ nW) (hws : nW ≤ nS) (hs8 : nS ≤ 8) (p0 : 0 ≤ p) (p1 : p < nS) : ∀ (n j : Nat) (k tl : Int), k = nS - nW - (j : Int) → 0 ≤ k → j < n → (tl = 0 ∨ tl = 1) → ((tl = 1 ∨ ∃ i, k ≤ i ∧ i < nS - nW ∧ s.1 39 i = p) → Ok (K 34 nS nW (p + 1) s) P) → (¬ (tl = 1 ∨ ∃ i, k ≤ i ∧ i < nS - nW ∧ s.1 39 i = p) → P 0 s) → Ok (m71_27 K n 34 nS nW p tl k s) P := by
  intro n
  induction n with
  | zero => intro j k tl _ _ h; omega
  | succ n ih =>
    intro j k tl hk k0 hj ht hy hn
    rw [m71_27]
    refine k_v ?_
    rw [h5]
    cases j with
    | zero =>
      refine k_q (by omega) (k_i (fun c => ?_) (fun c => ?_))
      · refine k_r (hn (fun z => ?_))
        rcases z with z | ⟨i, i0, i1, _⟩ <;> omega
      · exact k_z (by omega) (by omega) (hy (Or.inl (ht.resolve_left c)))
    | succ j =>
      refine k_p (by omega) (k_i (fun c => ?_) (fun c => ?_))
      · refine k_x k0 (by omega) (k_v (k_i (fun d => ?_) (fun d => ?_)))
        · exact k_z (by omega) (by omega) (ih j (k + 1) 1 (by omega) (by omega) (by omega) (Or.inr rfl) (fun _ => hy (Or.inr ⟨k, by omega, by omega, d⟩)) (fun z => absurd (Or.inl rfl) z))
        · refine k_z (by omega) (by omega) (ih j (k + 1) 0 (by omega) (by omega) (by omega) (Or.inl rfl) (fun z => hy ?_) (fun z => hn (fun y => z ?_)))
          · rcases z with z | ⟨i, i0, i1, i2⟩
            · omega
            · exact Or.inr ⟨i, by omega, i1, i2⟩
          · rcases y with y | ⟨i, i0, i1, i2⟩
            · omega
            · by_cases e : i = k
              · rw [e] at i2; exact absurd i2 d
              · exact Or.inr ⟨i, by omega, i1, i2⟩
      · exact k_z (by omega) (by omega) (ih j (k + 1) 1 (by omega) (by omega) (by omega) (Or.inr rfl) (fun _ => hy (Or.inl (ht.resolve_left c))) (fun z => absurd (Or.inl rfl) z))
theorem p71_2 {s : zS} (hC : onC b nS nW s) (hw0 : 0 ≤ nW) (hw6 : nW ≤ 6) (hws : nW ≤ nS) (hs8 : nS ≤ 8) : ∀ (n j : Nat) (p : Int), p = nS - (j : Int) → 0 ≤ p → j < n → Ok (m71_2 n 34 nS nW p s) (fun r t => t = s ∧ (((∀ q, p ≤ q → q < nS → ∃ k, 0 ≤ k ∧ k < nS ∧ prA b nS nW k = q) ∧ r = 1) ∨ ((¬ ∀ q, p ≤ q → q < nS → ∃ k, 0 ≤ k ∧ k < nS ∧ prA b nS nW k = q) ∧ r = 0))) := by
  obtain ⟨c1, c2, c3, c4, c5, c6⟩ := hC
  intro n
  induction n with
  | zero => intro j p _ _ h; omega
  | succ n ih =>
    intro j p hp p0 hj
    rw [m71_2]
    cases j with
    | zero => exact k_q (by omega) (k_r ⟨rfl, Or.inl ⟨fun q q0 q1 => by omega, rfl⟩⟩)
    | succ j =>
      refine k_p (by omega) (k_e (e58m hw0 hw6) ?_)
      generalize hf : fnd (fun w => s.1 (34 + 2) w) p nW.toNat 0 = fw
      -- told by a walker
      have tw : fw ≠ -1 → ∃ k, 0 ≤ k ∧ k < nS ∧ prA b nS nW k = p := by
        intro z
        have := fnd_in (g := fun w => s.1 (34 + 2) w) (p := p) nW.toNat 0
        rw [hf] at this
        rcases this with q | q
        · exact absurd q z
        · refine ⟨fw, q.1, by omega, ?_⟩
          unfold prA
          rw [if_pos (by omega), ← (c5 fw q.1 (by omega)).1]; exact q.2.2
      have tn : fw = -1 → ∀ w, 0 ≤ w → w < nW → b (3 + nS + 4 * w) ≠ p := by
        intro z w w0 w1
        rw [z] at hf
        have := fnd_none (g := fun w => s.1 (34 + 2) w) (p := p) nW.toNat 0 (by omega) hf w w0 (by omega)
        rw [← (c5 w w0 w1).1]; exact this
      have told : ∀ tl : Int, (tl = 0 ∨ tl = 1) → (tl = 1 ↔ fw ≠ -1) → ((tl = 1 ∨ ∃ i, 0 ≤ i ∧ i < nS - nW ∧ s.1 39 i = p) ↔ ∃ k, 0 ≤ k ∧ k < nS ∧ prA b nS nW k = p) := by
        intro tl _ ht
        constructor
        · intro z
          rcases z with z | ⟨i, i0, i1, i2⟩
          · exact tw (ht.mp z)
          · refine ⟨nW + i, by omega, by omega, ?_⟩
            unfold prA
            rw [if_neg (by omega), show 3 + nS + 3 * nW + (nW + i) = 3 + nS + 4 * nW + i by omega, ← c6 i i0 i1]; exact i2
        · intro ⟨k, k0, k1, k2⟩
          unfold prA at k2
          by_cases e : k < nW
          · rw [if_pos e] at k2
            refine Or.inl (ht.mpr (fun z => tn z k k0 e k2))
          · rw [if_neg e] at k2
            refine Or.inr ⟨k - nW, by omega, by omega, ?_⟩
            rw [c6 _ (by omega) (by omega), show 3 + nS + 4 * nW + (k - nW) = 3 + nS + 3 * nW + k by omega]; exact k2
      have go : ∀ tl : Int, (tl = 0 ∨ tl = 1) → (tl = 1 ↔ fw ≠ -1) → Ok (m71_27 (m71_2 n) zFu 34 nS nW p tl 0 s) (fun r t => t = s ∧ (((∀ q, p ≤ q → q < nS → ∃ k, 0 ≤ k ∧ k < nS ∧ prA b nS nW k = q) ∧ r = 1) ∨ ((¬ ∀ q, p ≤ q → q < nS → ∃ k, 0 ≤ k ∧ k < nS ∧ prA b nS nW k = q) ∧ r = 0))) := by
        intro tl h01 ht
        refine p71_27 c1 hw0 hws hs8 p0 (by omega) zFu (nS - nW).toNat 0 tl (by omega) (by omega) (by unfold zFu; omega) h01 (fun z => ?_) (fun z => ⟨rfl, Or.inr ⟨fun y => z ((told tl h01 ht).mpr (y p (by omega) (by omega))), rfl⟩⟩)
        have hz := (told tl h01 ht).mp z
        refine k_m (ih j (p + 1) (by omega) (by omega) (by omega)) (fun r t q => ⟨q.1, ?_⟩)
        rcases q.2 with ⟨q1, q2⟩ | ⟨q1, q2⟩
        · refine Or.inl ⟨fun v v0 v1 => ?_, q2⟩
          by_cases e : v = p
          · rw [e]; exact hz
          · exact q1 v (by omega) v1
        · exact Or.inr ⟨fun y => q1 (fun v v0 v1 => y v (by omega) v1), q2⟩
      refine k_i (fun c => go 0 (Or.inl rfl) ⟨fun z => by omega, fun z => absurd c z⟩) (fun c => go 1 (Or.inr rfl) ⟨fun _ => c, fun _ => rfl⟩)
end
section
variable {s0 : zS} {nP nS nW l : Int}
/-- the class reads the shelf, then looks whether each is told -/
theorem p67_190 (hl : s0.1 1 2 = 4 + nS + 4 * nW + (nS - nW)) (hw0 : 0 ≤ nW) (hw6 : nW ≤ 6) (hws : nW ≤ nS) (hs8 : nS ≤ 8) : ∀ (n j : Nat) (k : Int) (s : zS), k = nS - nW - (j : Int) → 0 ≤ k → j < n → s.1 34 5 = nS - nW → s.1 34 6 = 256 * s0.1 2 0 + s0.1 2 1 → s.1 34 7 = s0.1 2 2 → (∀ p, 0 ≤ p → p < nS → s.1 35 p = s0.1 2 (3 + p)) → (∀ w, 0 ≤ w → w < nW → s.1 36 w = s0.1 2 (3 + nS + 4 * w) ∧ s.1 37 w = s0.1 2 (3 + nS + 4 * w + 1) - 1 ∧ s.1 38 w = 256 * s0.1 2 (3 + nS + 4 * w + 2) + s0.1 2 (3 + nS + 4 * w + 3)) → (∀ i, 0 ≤ i → i < k → s.1 39 i = s0.1 2 (3 + nS + 4 * nW + i)) → Fr oFr s0 s → Ok (m67_190 n 34 nS nW k s) (fun r t => Fr oFr s0 t ∧ (((∀ q, 0 ≤ q → q < nS → ∃ k, 0 ≤ k ∧ k < nS ∧ prA (fun i => s0.1 2 i) nS nW k = q) ∧ r = 1 ∧ onC (fun i => s0.1 2 i) nS nW t) ∨ ((¬ ∀ q, 0 ≤ q → q < nS → ∃ k, 0 ≤ k ∧ k < nS ∧ prA (fun i => s0.1 2 i) nS nW k = q) ∧ r = 0))) := by
  intro n
  induction n with
  | zero => intro j k s _ _ h; omega
  | succ n ih =>
    intro j k s hk k0 hj h5 h6 h7 hh hw hsh hs
    rw [m67_190]
    refine k_v ?_
    rw [h5]
    cases j with
    | zero =>
      have hC : onC (fun i => s0.1 2 i) nS nW s := ⟨h5, h6, h7, hh, hw, fun i i0 i1 => hsh i i0 (by omega)⟩
      refine k_q (by omega) (k_c (Q := fun r t => t = s ∧ (((∀ q, 0 ≤ q → q < nS → ∃ k, 0 ≤ k ∧ k < nS ∧ prA (fun i => s0.1 2 i) nS nW k = q) ∧ r = 1) ∨ ((¬ ∀ q, 0 ≤ q → q < nS → ∃ k, 0 ≤ k ∧ k < nS ∧ prA (fun i => s0.1 2 i) nS nW k = q) ∧ r = 0))) ?_ ?_)
      · unfold m71
        exact p71_2 hC hw0 hw6 hws hs8 zFu nS.toNat 0 (by omega) (by omega) (by unfold zFu; omega)
      · intro r t ht
        obtain ⟨e, q⟩ := ht
        rw [e]
        rcases q with ⟨q1, q2⟩ | ⟨q1, q2⟩
        · exact k_d (Or.inr q2) (k_r ⟨hs, Or.inl ⟨q1, q2, hC⟩⟩)
        · exact k_d (Or.inl q2) (k_r ⟨hs, Or.inr ⟨q1, q2⟩⟩)
    | succ j =>
      have e12 : s.1 1 2 = s0.1 1 2 := hs.1 1 2 (by omega)
      have e2 : ∀ q, s.1 2 q = s0.1 2 q := fun q => hs.1 2 q (by omega)
      refine k_p (by omega) (k_z (by omega) (by omega) (k_z (by omega) (by omega) (k_z (by omega) (by omega) (k_z (by omega) (by omega) (k_e (e74 (by omega) (by omega) (by omega)) (k_x (by omega) (by omega) (k_v (k_z (by omega) (by omega) ?_))))))))
      rw [e2]
      refine ih j (k + 1) _ (by omega) (by omega) (by omega) (by rw [sI_a (by omega)]; exact h5) (by rw [sI_a (by omega)]; exact h6) (by rw [sI_a (by omega)]; exact h7) (fun p p0 p1 => by rw [sI_a (by omega)]; exact hh p p0 p1) (fun w w0 w1 => by rw [sI_a (by omega), sI_a (by omega), sI_a (by omega)]; exact hw w w0 w1) (fun i i0 i1 => ?_) (fr_trans hs (fr_I (by omega)))
      by_cases e : i = k
      · rw [e, sI_e]
      · rw [sI_k e]; exact hsh i i0 (by omega)
/-- the class reads a walker -/
theorem p70 {s : zS} {w k : Int} (hb : ∀ k, 0 ≤ k → k < 1600 → 0 ≤ s.1 2 k ∧ s.1 2 k ≤ 255) (h16 : s.1 1 2 ≤ 1600) (k0 : 0 ≤ k) (k1 : k + 3 < s.1 1 2) (w0 : 0 ≤ w) (w1 : w < 6) (hp0 : 0 ≤ nP) : Ok (m70 34 k w nP s) (fun r t => t.1 36 w = s.1 2 k ∧ t.1 37 w = s.1 2 (k + 1) - 1 ∧ t.1 38 w = 256 * s.1 2 (k + 2) + s.1 2 (k + 3) ∧ Fr (fun a q => (a = 36 ∨ a = 37 ∨ a = 38) ∧ q = w) s t ∧ (((s.1 2 (k + 1) ≤ nP ∧ 256 * s.1 2 (k + 2) + s.1 2 (k + 3) ≤ 999 ∧ (s.1 2 (k + 1) = 0 → 256 * s.1 2 (k + 2) + s.1 2 (k + 3) = 0)) ∧ r = 1) ∨ (¬ (s.1 2 (k + 1) ≤ nP ∧ 256 * s.1 2 (k + 2) + s.1 2 (k + 3) ≤ 999 ∧ (s.1 2 (k + 1) = 0 → 256 * s.1 2 (k + 2) + s.1 2 (k + 3) = 0)) ∧ r = 0))) := by
  have q0 := hb k k0 (by omega)
  have q1 := hb (k + 1) (by omega) (by omega)
  have q2 := hb (k + 2) (by omega) (by omega)
  have q3 := hb (k + 3) (by omega) (by omega)
  unfold m70
  refine k_e (e74 k0 (by omega) h16) (k_x w0 (by omega) (k_v (k_z (by omega) (by omega) ?_)))
  generalize hu : sI s (34 + 2) w (s.1 2 k) = u
  have u2 : ∀ q, u.1 2 q = s.1 2 q := fun q => by rw [← hu, sI_a (by omega)]
  have u12 : u.1 1 2 = s.1 1 2 := by rw [← hu, sI_a (by omega)]
  refine k_e (e74 (by omega) (by omega) (by omega)) ?_
  rw [u2]
  refine k_z (by omega) (by omega) (k_x w0 (by omega) (k_v (k_z (by omega) (by omega) ?_)))
  generalize hv : sI u (34 + 3) w (s.1 2 (k + 1) - 1) = v
  have v2 : ∀ q, v.1 2 q = s.1 2 q := fun q => by rw [← hv, sI_a (by omega)]; exact u2 q
  have v12 : v.1 1 2 = s.1 1 2 := by rw [← hv, sI_a (by omega)]; exact u12
  refine k_e (e69 (by omega) (fun q a c => by rw [v2]; exact hb q a c) (by omega) (by omega)) ?_
  rw [v2, v2, show k + 2 + 1 = k + 3 by omega]
  refine k_x w0 (by omega) (k_v (k_x w0 (by omega) (k_v ?_)))
  generalize ht : sI v (34 + 4) w (256 * s.1 2 (k + 2) + s.1 2 (k + 3)) = t
  have t36 : t.1 36 w = s.1 2 k := by rw [← ht, sI_a (by omega), ← hv, sI_a (by omega), ← hu]; exact sI_e
  have t37 : t.1 37 w = s.1 2 (k + 1) - 1 := by rw [← ht, sI_a (by omega), ← hv]; exact sI_e
  have t38 : t.1 38 w = 256 * s.1 2 (k + 2) + s.1 2 (k + 3) := by rw [← ht]; exact sI_e
  have ft : Fr (fun a q => (a = 36 ∨ a = 37 ∨ a = 38) ∧ q = w) s t := by rw [← ht, ← hv, ← hu]; exact fr_trans (fr_I (by omega)) (fr_trans (fr_I (by omega)) (fr_I (by omega)))
  have t37' : t.1 (34 + 3) w = s.1 2 (k + 1) - 1 := t37
  have t38' : t.1 (34 + 4) w = 256 * s.1 2 (k + 2) + s.1 2 (k + 3) := t38
  rw [t37']
  refine k_i (fun c => ?_) (fun c => k_r ⟨t36, t37, t38, ft, Or.inr ⟨fun z => c (by have := z.1; omega), rfl⟩⟩)
  refine k_x w0 (by omega) (k_v ?_)
  rw [t38']
  refine k_i (fun d => k_r ⟨t36, t37, t38, ft, Or.inr ⟨fun z => by have := z.2.1; omega, rfl⟩⟩) (fun d => ?_)
  refine k_x w0 (by omega) (k_v ?_)
  refine k_i (fun e => ?_) (fun e => k_r ⟨t36, t37, t38, ft, Or.inl ⟨⟨by omega, by omega, fun z => by omega⟩, rfl⟩⟩)
  refine k_x w0 (by omega) (k_v ?_)
  refine k_i (fun g => k_r ⟨t36, t37, t38, ft, Or.inl ⟨⟨by omega, by omega, fun _ => g⟩, rfl⟩⟩) (fun g => k_r ⟨t36, t37, t38, ft, Or.inr ⟨fun z => g (z.2.2 (by omega)), rfl⟩⟩)
end
