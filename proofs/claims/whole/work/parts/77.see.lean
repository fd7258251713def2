/-! ===== see ===== -/
/-- rows from k on, j of them, are such -/
def sOk (b : Int → Int) (m : Int) : Nat → Int → Prop
  | 0, _ => True
  | j + 1, k => b (2 * k) ≤ 30 ∧ b (2 * k + 1) < m ∧ sOk b m j (k + 1)
theorem sOk_at {b : Int → Int} {m : Int} : ∀ (j : Nat) (k : Int), sOk b m j k → ∀ i, k ≤ i → i < k + (j : Int) → b (2 * i) ≤ 30 ∧ b (2 * i + 1) < m := by
  intro j
  induction j with
  | zero => intro k _ i h1 h2; omega
  | succ j ih =>
    intro k h i h1 h2
    by_cases e : i = k
    · rw [e]; exact ⟨h.1, h.2.1⟩
    · exact ih (k + 1) h.2.2 i (by omega) (by omega)
section
variable {s : zS} {x : Int}
theorem e74 (h0 : 0 ≤ x) (h1 : x < s.1 1 2) (h2 : s.1 1 2 ≤ 1600) : m74 x s = some (s.1 2 x, s) := by
  unfold m74
  rw [if_neg (by omega), oV_eq, if_pos h1, oX_pos h0 (by omega), oV_eq]
theorem p12_76 {s0 : zS} {m : Int} (hm0 : 1 ≤ m) (hm1 : m ≤ 16) (hlen : 2 * m ≤ s0.1 1 2) (h16 : s0.1 1 2 ≤ 1600) : ∀ (n j : Nat) (k : Int) (s : zS), k = m - (j : Int) → 0 ≤ k → j < n → (∀ i, 0 ≤ i → i < k → s.1 25 i = s0.1 2 (2 * i) ∧ s.1 26 i = s0.1 2 (2 * i + 1)) → Fr (fun a q => a = 25 ∨ a = 26 ∨ (a = 24 ∧ q = 0)) s0 s → Ok (m12_76 n m k s) (fun r t => r = 1 ∧ t.1 24 0 = m ∧ (∀ i, 0 ≤ i → i < m → t.1 25 i = s0.1 2 (2 * i) ∧ t.1 26 i = s0.1 2 (2 * i + 1)) ∧ Fr (fun a q => a = 25 ∨ a = 26 ∨ (a = 24 ∧ q = 0)) s0 t) := by
  intro n
  induction n with
  | zero => intro j k s _ _ h; omega
  | succ n ih =>
    intro j k s hk k0 hj hr hs
    have e2 : ∀ q, s.1 2 q = s0.1 2 q := fun q => hs.1 2 q (by omega)
    have e12 : s.1 1 2 = s0.1 1 2 := hs.1 1 2 (by omega)
    rw [m12_76]
    cases j with
    | zero =>
      refine k_q (by omega) (k_v (k_r ⟨rfl, sI_e, fun i i0 i1 => ?_, fr_trans hs (fr_I (by omega))⟩))
      rw [sI_a (by omega), sI_a (by omega)]; exact hr i i0 (by omega)
    | succ j =>
      refine k_p (by omega) (k_z (by omega) (by omega) (k_e (e74 (by omega) (by omega) (by omega)) (k_x (by omega) (by omega) (k_v (k_z (by omega) (by omega) (k_z (by omega) (by omega) ?_))))))
      have u12 : (sI s 25 k (s.1 2 (2 * k))).1 1 2 = s0.1 1 2 := by rw [sI_a (by omega)]; exact e12
      refine k_e (e74 (by omega) (by omega) (by omega)) (k_x (by omega) (by omega) (k_v (k_z (by omega) (by omega) ?_)))
      refine ih j (k + 1) _ (by omega) (by omega) (by omega) (fun i i0 i1 => ?_) (fr_trans hs (fr_trans (fr_I (by omega)) (fr_I (by omega))))
      by_cases e : i = k
      · subst e
        refine ⟨?_, ?_⟩
        · rw [sI_a (by omega), sI_e]; exact e2 _
        · rw [sI_e, sI_a (by omega)]; exact e2 _
      · have := hr i i0 (by omega)
        refine ⟨?_, ?_⟩
        · rw [sI_a (by omega), sI_k e]; exact this.1
        · rw [sI_k e, sI_a (by omega)]; exact this.2
theorem p12_32 {m np : Int} (hm0 : 1 ≤ m) (hm1 : m ≤ 16) (hlen : 2 * m ≤ s.1 1 2) (h16 : s.1 1 2 ≤ 1600) : ∀ (n j : Nat) (k : Int), k = m - (j : Int) → 0 ≤ k → j < n → Ok (m12_32 n np m k s) (fun r t => (sOk (fun i => s.1 2 i) np j k ∧ r = 1 ∧ t.1 24 0 = m ∧ (∀ i, 0 ≤ i → i < m → t.1 25 i = s.1 2 (2 * i) ∧ t.1 26 i = s.1 2 (2 * i + 1)) ∧ Fr (fun a q => a = 25 ∨ a = 26 ∨ (a = 24 ∧ q = 0)) s t) ∨ (¬ sOk (fun i => s.1 2 i) np j k ∧ r = 0 ∧ t = s)) := by
  intro n
  induction n with
  | zero => intro j k _ _ h; omega
  | succ n ih =>
    intro j k hk k0 hj
    rw [m12_32]
    cases j with
    | zero =>
      refine k_q (by omega) (k_m (p12_76 (s0 := s) hm0 hm1 hlen h16 zFu m.toNat 0 s (by omega) (by omega) (by unfold zFu; omega) (fun i i0 i1 => by omega) fr_refl) (fun r t q => Or.inl ⟨trivial, q⟩))
    | succ j =>
      refine k_p (by omega) (k_z (by omega) (by omega) (k_e (e74 (by omega) (by omega) (by omega)) (k_i (fun c => k_r (Or.inr ⟨fun z => ?_, rfl, rfl⟩)) (fun c => ?_))))
      · have := z.1; dsimp only at this; omega
      refine k_z (by omega) (by omega) (k_z (by omega) (by omega) (k_e (e74 (by omega) (by omega) (by omega)) (k_i (fun d => ?_) (fun d => k_r (Or.inr ⟨fun z => d z.2.1, rfl, rfl⟩)))))
      refine k_z (by omega) (by omega) (k_m (ih j (k + 1) (by omega) (by omega) (by omega)) (fun r t q => ?_))
      rcases q with q | q
      · exact Or.inl ⟨⟨by show s.1 2 (2 * k) ≤ 30; omega, d, q.1⟩, q.2⟩
      · exact Or.inr ⟨fun z => q.1 z.2.2, q.2⟩
/-- the rows are such: of a tape so long -/
def seeOk (b : Int → Int) (l np : Int) : Prop := l % 2 = 0 ∧ 1 ≤ l / 2 ∧ l / 2 ≤ 16 ∧ sOk b np (l / 2).toNat 0
theorem p12 {np : Int} (h0 : 0 ≤ s.1 1 2) (h16 : s.1 1 2 ≤ 1600) : Ok (m12 np s) (fun r t => (seeOk (fun i => s.1 2 i) (s.1 1 2) np ∧ r = 1 ∧ t.1 24 0 = s.1 1 2 / 2 ∧ (∀ i, 0 ≤ i → i < s.1 1 2 / 2 → t.1 25 i = s.1 2 (2 * i) ∧ t.1 26 i = s.1 2 (2 * i + 1)) ∧ Fr (fun a q => a = 25 ∨ a = 26 ∨ (a = 24 ∧ q = 0)) s t) ∨ (¬ seeOk (fun i => s.1 2 i) (s.1 1 2) np ∧ r = 0 ∧ t = s)) := by
  unfold m12
  refine k_v (k_n (by decide) ?_)
  rw [Int.tdiv_eq_ediv_of_nonneg h0]
  refine k_z (by omega) (by omega) (k_v (k_n (by decide) (k_v ?_)))
  rw [Int.tmod_eq_emod_of_nonneg h0]
  refine k_i (fun c => ?_) (fun c => k_r (Or.inr ⟨fun z => c z.1, rfl, rfl⟩))
  refine k_i (fun d => k_r (Or.inr ⟨fun z => by have := z.2.1; omega, rfl, rfl⟩)) (fun d => ?_)
  refine k_i (fun e => k_r (Or.inr ⟨fun z => by have := z.2.2.1; omega, rfl, rfl⟩)) (fun e => ?_)
  refine k_m (p12_32 (np := np) (m := s.1 1 2 / 2) (by omega) (by omega) (by omega) h16 zFu (s.1 1 2 / 2).toNat 0 (by omega) (by omega) (by unfold zFu; omega)) (fun r t q => ?_)
  rcases q with q | q
  · exact Or.inl ⟨⟨c, by omega, by omega, q.1⟩, q.2⟩
  · exact Or.inr ⟨fun z => q.1 z.2.2.2, q.2⟩
/-- the reference's rows -/
theorem p233_96 {s0 : zS} {l : Int} (hl0 : 0 ≤ l) (hl1 : l ≤ 32) : ∀ (n j : Nat) (k : Int) (s : zS), k = l - (j : Int) → 0 ≤ k → j < n → (∀ i, 0 ≤ i → i < k → s.1 260 i = s0.1 210 i) → Fr (fun a q => a = 260 ∨ (a = 209 ∧ q = 67)) s0 s → Ok (m233_96 n l k s) (fun r t => r = l / 2 ∧ t.1 209 67 = l / 2 ∧ (∀ i, 0 ≤ i → i < l → t.1 260 i = s0.1 210 i) ∧ Fr (fun a q => a = 260 ∨ (a = 209 ∧ q = 67)) s0 t) := by
  intro n
  induction n with
  | zero => intro j k s _ _ h; omega
  | succ n ih =>
    intro j k s hk k0 hj hr hs
    rw [m233_96]
    cases j with
    | zero =>
      refine k_q (by omega) (k_n (by decide) ?_)
      rw [Int.tdiv_eq_ediv_of_nonneg hl0]
      refine k_z (by omega) (by omega) (k_v (k_v (k_r ⟨sI_e, sI_e, fun i i0 i1 => ?_, fr_trans hs (fr_I (by omega))⟩)))
      rw [sI_a (by omega)]; exact hr i i0 (by omega)
    | succ j =>
      refine k_p (by omega) (k_x (by omega) (by omega) (k_v (k_x (by omega) (by omega) (k_v (k_z (by omega) (by omega) ?_)))))
      refine ih j (k + 1) _ (by omega) (by omega) (by omega) (fun i i0 i1 => ?_) (fr_trans hs (fr_I (by omega)))
      by_cases e : i = k
      · rw [e, sI_e]; exact hs.1 210 k (by omega)
      · rw [sI_k e]; exact hr i i0 (by omega)
/-- the reference, behind its test -/
theorem p233_84g {l : Int} {P : Int → zS → Prop} (hl0 : 0 ≤ l) (hl1 : l ≤ 32) (hP : ∀ t, t.1 209 67 = l / 2 → (∀ i, 0 ≤ i → i < l → t.1 260 i = s.1 210 i) → Fr (fun a q => a = 260 ∨ (a = 209 ∧ q = 67)) s t → P (l / 2) t) : Ok (m233_84 l 1 s) P := by
  unfold m233_84
  refine k_q (by decide) (k_m (p233_96 (s0 := s) hl0 hl1 zFu l.toNat 0 s (by omega) (by omega) (by unfold zFu; omega) (fun i i0 i1 => by omega) fr_refl) (fun r t q => ?_))
  rw [q.1]
  exact hP t q.2.1 q.2.2.1 q.2.2.2
theorem e233_84b {l : Int} (h1 : 0 ≤ s.1 211 1) (h2 : s.1 211 1 ≤ 600) : m233_84 l 0 s = some (-1, sI s 211 1 (s.1 211 1 + 1)) := by
  unfold m233_84
  rw [if_pos rfl, e232 h1 h2 (by omega) (by omega), oC_some]
theorem e233_36b {l : Int} (h1 : 0 ≤ s.1 211 1) (h2 : s.1 211 1 ≤ 600) (n : Nat) (k : Int) : m233_36 (n + 1) l 0 k s = some (-1, sI s 211 1 (s.1 211 1 + 1)) := by
  rw [m233_36]
  by_cases c : k < l
  · rw [if_pos c, if_pos rfl, e233_84b h1 h2]
  · rw [if_neg c, e233_84b h1 h2]
theorem p233_36 {l : Int} {P : Int → zS → Prop} (hb : ∀ i, 0 ≤ i → i < l → 0 ≤ s.1 210 i) (hp0 : 0 ≤ s.1 242 4) (hp1 : s.1 242 4 ≤ 7) (he : l % 2 = 0) (hl0 : 0 ≤ l) (hl1 : l ≤ 32) (h1 : 0 ≤ s.1 211 1) (h2 : s.1 211 1 ≤ 600) : ∀ (n j : Nat) (k : Int), 2 * k = l - 2 * (j : Int) → 0 ≤ k → j + 1 < n → (sOk (fun i => s.1 210 i) (s.1 242 4) j k → Ok (m233_84 l 1 s) P) → (¬ sOk (fun i => s.1 210 i) (s.1 242 4) j k → P (-1) (sI s 211 1 (s.1 211 1 + 1))) → Ok (m233_36 n l 1 (2 * k) s) P := by
  intro n
  induction n with
  | zero => intro j k _ _ h; omega
  | succ n ih =>
    intro j k hk k0 hj hy hn
    rw [m233_36]
    cases j with
    | zero => exact k_q (by omega) (hy trivial)
    | succ j =>
      have bad : ¬ sOk (fun i => s.1 210 i) (s.1 242 4) (j + 1) k → Ok (m233_36 n l 0 (2 * k + 2) s) P := by
        intro z
        obtain ⟨m, rfl⟩ : ∃ m, n = m + 1 := ⟨n - 1, by omega⟩
        exact k_eq (e233_36b h1 h2 m _) (hn z)
      refine k_p (by omega) (k_q (by decide) (k_x (by omega) (by omega) (k_v (k_i (fun c => ?_) (fun c => ?_)))))
      · exact k_z (by omega) (by omega) (bad (fun z => by have := z.1; dsimp only at this; omega))
      refine k_z (by omega) (by omega) (k_x (by omega) (by omega) (k_v (k_e (e184 hp0 hp1) ?_)))
      have hb1 := hb (2 * k + 1) (by omega) (by omega)
      by_cases d : s.1 210 (2 * k + 1) < s.1 242 4
      · rw [if_pos (show 0 ≤ s.1 210 (2 * k + 1) ∧ s.1 210 (2 * k + 1) < s.1 242 4 from ⟨hb1, d⟩)]
        refine k_q (by decide) (k_z (by omega) (by omega) ?_)
        rw [show 2 * k + 2 = 2 * (k + 1) by omega]
        refine ih j (k + 1) (by omega) (by omega) (by omega) (fun z => hy ⟨?_, d, z⟩) (fun z => hn (fun y => z y.2.2))
        show s.1 210 (2 * k) ≤ 30; omega
      · rw [if_neg (show ¬ (0 ≤ s.1 210 (2 * k + 1) ∧ s.1 210 (2 * k + 1) < s.1 242 4) from fun z => d z.2)]
        exact k_p rfl (k_z (by omega) (by omega) (bad (fun z => d z.2.1)))
end
theorem t121 : T121 := by
  intro n s hR hn
  obtain ⟨b1, b2, b3, b4, b5, b6, b7, b8, b9, b10⟩ := R_cnt hR
  have hLL := R_LL hR
  obtain ⟨q1, q2, q3, q4, q5, q6⟩ := R_tape hR
  obtain ⟨r1, r2, r3, r4⟩ := R_rows hR
  have hr1 := R_refu hR 1 (by omega) (by omega)
  generalize hl : s.1 1 2 = l at *
  -- what is so of both rows of bytes
  have hbb : ∀ i, 0 ≤ i → i < 1600 → s.1 2 i = s.1 210 i := fun i i0 i1 => (q4 i i0 i1).1
  have sok : ∀ (j : Nat) (k : Int), 0 ≤ k → 2 * k + 2 * (j : Int) ≤ 1600 → (sOk (fun i => s.1 2 i) (s.1 242 4) j k ↔ sOk (fun i => s.1 210 i) (s.1 242 4) j k) := by
    intro j
    induction j with
    | zero => intro k _ _; exact Iff.rfl
    | succ j ih =>
      intro k k0 k1
      show (s.1 2 (2 * k) ≤ 30 ∧ s.1 2 (2 * k + 1) < s.1 242 4 ∧ sOk _ _ j (k + 1)) ↔ (s.1 210 (2 * k) ≤ 30 ∧ s.1 210 (2 * k + 1) < s.1 242 4 ∧ sOk _ _ j (k + 1))
      rw [hbb _ (by omega) (by omega), hbb _ (by omega) (by omega), ih (k + 1) (by omega) (by omega)]
  -- the reference, from a state whose cells it reads are s's
  have ref : ∀ (u : zS) {P : Int → zS → Prop}, (∀ a k, 209 ≤ a → u.1 a k = s.1 a k) → (seeOk (fun i => s.1 2 i) l (s.1 242 4) → ∀ t, t.1 209 67 = l / 2 → (∀ i, 0 ≤ i → i < l → t.1 260 i = s.1 210 i) → Fr (fun a q => a = 260 ∨ (a = 209 ∧ q = 67)) (sI u 209 1 0) t → P (l / 2) t) → (¬ seeOk (fun i => s.1 2 i) l (s.1 242 4) → P (-1) (sI (sI u 209 1 0) 211 1 (s.1 211 1 + 1))) → Ok (m233 u) P := by
    intro u P hu hy hn'
    have v1 : ∀ a k, 209 ≤ a → ¬ (a = 209 ∧ k = 1) → (sI u 209 1 0).1 a k = s.1 a k := fun a k z1 z2 => by rw [sI_if, if_neg z2]; exact hu a k z1
    have v211 : (sI u 209 1 0).1 211 1 = s.1 211 1 := v1 211 1 (by omega) (by omega)
    have bad : ∀ m, ¬ seeOk (fun i => s.1 2 i) l (s.1 242 4) → Ok (m233_36 zFu l 0 m (sI u 209 1 0)) P := by
      intro m z
      have hz : zFu = 999999 + 1 := rfl
      rw [hz]
      refine k_eq (e233_36b (by rw [v211]; omega) (by rw [v211]; omega) 999999 m) ?_
      rw [v211]
      exact hn' z
    unfold m233
    refine k_v (k_v ?_)
    rw [hu 209 1 (by omega), ← q1]
    refine k_i (fun c0 => ?_) (fun c0 => bad 0 (fun z => by have := z.2.1; omega))
    refine k_n (by decide) (k_v ?_)
    rw [Int.tmod_eq_emod_of_nonneg (by omega)]
    refine k_i (fun c1 => ?_) (fun c1 => bad 0 (fun z => c1 z.1))
    refine k_n (by decide) ?_
    rw [Int.tdiv_eq_ediv_of_nonneg (by omega)]
    refine k_z (by omega) (by omega) (k_i (fun c2 => bad 0 (fun z => by have := z.2.2.1; omega)) (fun c2 => ?_))
    have key := sok (l / 2).toNat 0 (by omega) (by omega)
    have g210 : (fun i => (sI u 209 1 0).1 210 i) = (fun i => s.1 210 i) := funext fun i => v1 210 i (by omega) (by omega)
    have := p233_36 (s := sI u 209 1 0) (l := l) (P := P) (fun i i0 i1 => by rw [v1 210 i (by omega) (by omega), ← hbb i i0 (by omega)]; exact (q4 i i0 (by omega)).2.1) (by rw [v1 242 4 (by omega) (by omega)]; exact b2) (by rw [v1 242 4 (by omega) (by omega)]; exact b3) c1 (by omega) (by omega) (by rw [v211]; omega) (by rw [v211]; omega) zFu (l / 2).toNat 0 (by omega) (by omega) (by unfold zFu; omega)
    rw [g210, v1 242 4 (by omega) (by omega), v211] at this
    refine this (fun z => ?_) (fun z => hn' (fun y => z (key.mp y.2.2.2)))
    refine p233_84g (by omega) (by omega) (fun t t1 t2 t3 => hy ⟨c1, by omega, by omega, key.mpr z⟩ t t1 (fun i i0 i1 => by rw [t2 i i0 i1]; exact v1 210 i (by omega) (by omega)) t3)
  unfold Two m121
  refine k_v (k_v ?_)
  rw [b1]
  refine k_c (p12 (np := s.1 242 4) (by rw [hl]; exact q2) (by rw [hl]; exact q3)) ?_
  intro r s1 h1
  rw [hl] at h1
  refine k_v ?_
  rcases h1 with ⟨ok, e, g1, g2, g3⟩ | ⟨nok, e, e1⟩
  · rw [e]
    refine k_q (by decide) (k_v (k_r ?_))
    have u209 : ∀ a k, 209 ≤ a → (sI s1 1 2 0).1 a k = s.1 a k := fun a k z => by rw [sI_a (by omega)]; exact g3.1 a k (by omega)
    refine ref (sI s1 1 2 0) u209 (fun _ t t1 t2 t3 => ?_) (fun z => absurd ok z)
    refine ⟨by rw [sI_a (by omega)]; exact g1, ?_⟩
    have fr : ∀ a k, ¬ (a = 1 ∧ k = 2) → ¬ (a = 209 ∧ (k = 1 ∨ k = 67)) → a ≠ 25 → a ≠ 26 → ¬ (a = 24 ∧ k = 0) → a ≠ 260 → t.1 a k = s.1 a k := fun a k z1 z2 z3 z4 z5 z6 => by
      rw [t3.1 a k (by omega), sI_if, if_neg (by omega), sI_if, if_neg z1]; exact g3.1 a k (by omega)
    have hM : t.2 = s.2 := Prod.ext (t3.2.1.trans g3.2.1) (t3.2.2.trans g3.2.2)
    have tl1 : t.1 1 2 = 0 := by rw [t3.1 1 2 (by omega), sI_a (by omega), sI_e]
    have tl2 : t.1 209 1 = 0 := by rw [t3.1 209 1 (by omega), sI_e]
    have tc : ∀ a k, a = 24 ∨ a = 25 ∨ a = 26 → t.1 a k = s1.1 a k := fun a k z => by rw [t3.1 a k (by omega), sI_a (by omega), sI_a (by omega)]
    obtain ⟨o1, o2, o3, o4⟩ := ok
    have oat := sOk_at _ _ o4
    have F : ∀ a k, ¬ (a = 1 ∧ k = 2) ∧ ¬ (a = 209 ∧ (k = 1 ∨ k = 67)) ∧ a ≠ 25 ∧ a ≠ 26 ∧ ¬ (a = 24 ∧ k = 0) ∧ a ≠ 260 → t.1 a k = s.1 a k := fun a k z => fr a k z.1 z.2.1 z.2.2.1 z.2.2.2.1 z.2.2.2.2.1 z.2.2.2.2.2
    refine R_of (n := n) (s := s) hR (by rw [hM]) (fun a k q => ⟨F a k (by unfold Stt at q; omega), by rw [hM]⟩) ?_ ?_ ?_ ?_ ?_ ?_ ?_
    · refine ⟨by rw [tl1, tl2], by rw [tl1]; omega, by rw [tl1]; omega, fun k k0 k1 => ?_, ?_, ?_⟩
      · rw [F 2 k (by omega), F 210 k (by omega)]; exact q4 k k0 k1
      · rw [F 1 5 (by omega), F 209 7 (by omega)]; exact q5
      · rw [F 1 6 (by omega), F 209 8 (by omega)]; exact q6
    · exact rRefu_eq (fun k => F _ _ (by omega)) (fun k => F _ _ (by omega)) (R_refu hR)
    · exact rSeed_eq (F _ _ (by omega)) (by rw [hM]) (R_seed hR)
    · exact rImg_eq (F _ _ (by omega)) (F _ _ (by omega)) (fun k => F _ _ (by omega)) (fun k => F _ _ (by omega)) (R_img hR)
    · have t24 : t.1 24 0 = l / 2 := by rw [tc 24 0 (by omega)]; exact g1
      refine ⟨by rw [t24, t1], by rw [t24]; omega, by rw [t24]; omega, fun k k0 k1 => ?_⟩
      rw [t24] at k1
      have z := g2 k k0 k1
      have zz := oat k k0 (by omega)
      have y1 := q4 (2 * k) (by omega) (by omega)
      have y2 := q4 (2 * k + 1) (by omega) (by omega)
      rw [tc 25 k (by omega), tc 26 k (by omega), z.1, z.2, t2 _ (by omega) (by omega), t2 _ (by omega) (by omega), F 242 4 (by omega)]
      exact ⟨y1.1, y2.1, y1.2.1, zz.1, y2.2.1, zz.2⟩
    · exact rNow_eq (R_cnt hR) (fun k => F _ _ (by omega)) (fun a k q1 q2 => F _ _ (by omega)) (fun k => F _ _ (by omega)) (R_now hR)
    · exact rPast_eq (R_cnt hR) (fun k => F _ _ (by omega)) (F _ _ (by omega)) (F _ _ (by omega)) (F _ _ (by omega)) (F _ _ (by omega)) (fun a k q1 q2 => F _ _ (by omega)) (fun k => F _ _ (by omega)) (R_past hR)
  · rw [e, e1]
    have e41 : (sI s 1 2 0).1 41 1 = s.1 41 1 := sI_a (by omega)
    have e136' : m136 1 (sI s 1 2 0) = some (-1, sI (sI s 1 2 0) 41 1 (s.1 41 1 + 1)) := by
      unfold m136
      rw [oX_pos (by omega) (by omega), oV_eq, e41, oZ_pos (by omega) (by omega), oX_pos (by omega) (by omega), oV_eq]
    refine k_p rfl (k_e e136' (k_r ?_))
    refine ref _ (fun a k z => by rw [sI_a (by omega), sI_a (by omega)]) (fun z => absurd z nok) (fun _ => ⟨rfl, ?_⟩)
    generalize ht : sI (sI (sI (sI s 1 2 0) 41 1 (s.1 41 1 + 1)) 209 1 0) 211 1 (s.1 211 1 + 1) = t
    have F : ∀ a k, ¬ (a = 1 ∧ k = 2) ∧ ¬ (a = 41 ∧ k = 1) ∧ ¬ (a = 209 ∧ k = 1) ∧ ¬ (a = 211 ∧ k = 1) → t.1 a k = s.1 a k := fun a k z => by
      rw [← ht, sI_if, if_neg z.2.2.2, sI_if, if_neg z.2.2.1, sI_if, if_neg z.2.1, sI_if, if_neg z.1]
    have hM : t.2 = s.2 := by rw [← ht]; rfl
    have tl1 : t.1 1 2 = 0 := by rw [← ht, sI_a (by omega), sI_a (by omega), sI_a (by omega), sI_e]
    have tl2 : t.1 209 1 = 0 := by rw [← ht, sI_a (by omega), sI_e]
    refine R_of (n := n) (s := s) hR (by rw [hM]) (fun a k q => ⟨F a k (by unfold Stt at q; omega), by rw [hM]⟩) ?_ ?_ ?_ ?_ ?_ ?_ ?_
    · refine ⟨by rw [tl1, tl2], by rw [tl1]; omega, by rw [tl1]; omega, fun k k0 k1 => ?_, ?_, ?_⟩
      · rw [F 2 k (by omega), F 210 k (by omega)]; exact q4 k k0 k1
      · rw [F 1 5 (by omega), F 209 7 (by omega)]; exact q5
      · rw [F 1 6 (by omega), F 209 8 (by omega)]; exact q6
    · refine rRefu_inc (j := 1) (by omega) (by omega) (fun k => ?_) (fun k => ?_) (R_refu hR)
      · by_cases e : k = 1
        · rw [if_pos e, e, ← ht, sI_a (by omega), sI_a (by omega), sI_e]
        · rw [if_neg e]; exact F 41 k (by omega)
      · by_cases e : k = 1
        · rw [if_pos e, e, ← ht, sI_e]
        · rw [if_neg e]; exact F 211 k (by omega)
    · exact rSeed_eq (F _ _ (by omega)) (by rw [hM]) (R_seed hR)
    · exact rImg_eq (F _ _ (by omega)) (F _ _ (by omega)) (fun k => F _ _ (by omega)) (fun k => F _ _ (by omega)) (R_img hR)
    · exact rRows_eq (F _ _ (by omega)) (F _ _ (by omega)) (fun k => F _ _ (by omega)) (fun k => F _ _ (by omega)) (fun k => F _ _ (by omega)) (F _ _ (by omega)) (R_rows hR)
    · exact rNow_eq (R_cnt hR) (fun k => F _ _ (by omega)) (fun a k q1 q2 => F _ _ (by omega)) (fun k => F _ _ (by omega)) (R_now hR)
    · exact rPast_eq (R_cnt hR) (fun k => F _ _ (by omega)) (F _ _ (by omega)) (F _ _ (by omega)) (F _ _ (by omega)) (F _ _ (by omega)) (fun a k q1 q2 => F _ _ (by omega)) (fun k => F _ _ (by omega)) (R_past hR)
