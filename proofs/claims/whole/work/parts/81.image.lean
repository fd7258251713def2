/-! ===== image ===== -/
/-- a row begins with these -/
def wrt (g : Int → Int) (l : List Int) : Prop := ∀ (i : Nat) (x : Int), l[i]? = some x → g (i : Int) = x
theorem wrt_snoc {g g' : Int → Int} {l : List Int} {x : Int} (h : wrt g l) (e : g' (l.length : Int) = x) (ho : ∀ i : Int, i < (l.length : Int) → g' i = g i) : wrt g' (l ++ [x]) := by
  intro i y hy
  by_cases c : i < l.length
  · rw [List.getElem?_append_left c] at hy
    rw [ho _ (by omega)]; exact h i y hy
  · have hi : i < (l ++ [x]).length := (List.getElem?_eq_some_iff.mp hy).1
    rw [List.length_append, List.length_singleton] at hi
    have ei : i = l.length := by omega
    subst ei
    rw [List.getElem?_append_right (Nat.le_refl _), Nat.sub_self] at hy
    cases hy
    exact e
def imH (N : Int → Int) : Nat → Int → List Int
  | 0, _ => []
  | j + 1, k => [N (2 + k)] ++ imH N j (k + 1)
def imW (N : Int → Int) : Nat → Int → List Int
  | 0, _ => []
  | j + 1, w => [N (10 + 3 * w), N (11 + 3 * w), N (12 + 3 * w) / 256, N (12 + 3 * w) % 256] ++ imW N j (w + 1)
def imS (N : Int → Int) : Nat → Int → List Int
  | 0, _ => []
  | j + 1, k => [N (29 + k)] ++ imS N j (k + 1)
def imC (l : List Int) : Int := l.foldl (fun c x => (3 * c + x) % 251) 103
abbrev byt (x : Int) : Prop := 0 ≤ x ∧ x ≤ 255
section
variable {s : zS} {l : List Int} {v : Int}
/-- what has been written: the class's -/
def cW (s0 s : zS) (l : List Int) : Prop := wrt (fun i => s.1 42 i) l ∧ Fr (fun a _ => a = 42) s0 s
theorem e65 {s0 : zS} (h : cW s0 s l) (hl : l.length < 60) : Ok (m65 (l.length : Int) v s) (fun r t => r = ((l ++ [v]).length : Int) ∧ cW s0 t (l ++ [v])) := by
  unfold m65
  refine k_z (by omega) (by omega) (k_p (by omega) (k_x (by omega) (by omega) (k_v (k_z (by omega) (by omega) (k_r ⟨by rw [List.length_append, List.length_singleton]; omega, ?_, fr_trans h.2 (fr_I rfl)⟩)))))
  refine wrt_snoc h.1 ?_ (fun i hi => ?_)
  · show (sI s 42 (l.length : Int) v).1 42 (l.length : Int) = v; exact sI_e
  · show (sI s 42 (l.length : Int) v).1 42 i = s.1 42 i; exact sI_k (by omega)
theorem e66 {s0 : zS} (h : cW s0 s l) (hl : l.length < 59) (v0 : 0 ≤ v) (v1 : v ≤ 100000) : Ok (m66 (l.length : Int) v s) (fun r t => r = ((l ++ [v / 256] ++ [v % 256]).length : Int) ∧ cW s0 t (l ++ [v / 256] ++ [v % 256])) := by
  unfold m66
  refine k_n (by decide) ?_
  rw [Int.tdiv_eq_ediv_of_nonneg v0]
  refine k_z (by omega) (by omega) (k_c (e65 h (by omega)) ?_)
  intro r t ht
  refine k_n (by decide) (k_v ?_)
  rw [Int.tmod_eq_emod_of_nonneg v0, ht.1]
  refine k_c (e65 ht.2 (by rw [List.length_append, List.length_singleton]; omega)) ?_
  intro r' t' ht'
  exact k_r ht'
/-- what has been written: the reference's -/
def mW (s0 s : zS) (l : List Int) : Prop := s.1 209 110 = (l.length : Int) ∧ wrt (fun i => s.1 288 i) l ∧ Fr (fun a q => a = 288 ∨ (a = 209 ∧ q = 110)) s0 s
theorem e278 {s0 : zS} (h : mW s0 s l) (hl : l.length < 44) : Ok (m278 v s) (fun _ t => mW s0 t (l ++ [v])) := by
  obtain ⟨h1, h2, h3⟩ := h
  unfold m278
  refine k_v ?_
  rw [h1]
  refine k_x (by omega) (by omega) (k_v (k_v ?_))
  rw [sI_a (by omega), h1]
  refine k_z (by omega) (by omega) (k_v (k_r ⟨by rw [sI_e, List.length_append, List.length_singleton]; omega, ?_, fr_trans h3 (fr_trans (fr_I (by omega)) (fr_I (by omega)))⟩))
  refine wrt_snoc h2 ?_ (fun i hi => ?_)
  · show (sI (sI s 288 (l.length : Int) v) 209 110 _).1 288 (l.length : Int) = v; rw [sI_a (by omega), sI_e]
  · show (sI (sI s 288 (l.length : Int) v) 209 110 _).1 288 i = s.1 288 i; rw [sI_a (by omega), sI_k (by omega)]
end
theorem imC_step {l : List Int} {j : Nat} (hlt : j < l.length) : imC (l.take (j + 1)) = (3 * imC (l.take j) + l[j]) % 251 := by
  unfold imC
  rw [List.take_succ_eq_append_getElem hlt, List.foldl_append]; rfl
theorem imC_in {l : List Int} : 0 ≤ imC l ∧ imC l ≤ 250 := by
  have : ∀ (l : List Int) (c : Int), 0 ≤ c → c ≤ 250 → 0 ≤ l.foldl (fun c x => (3 * c + x) % 251) c ∧ l.foldl (fun c x => (3 * c + x) % 251) c ≤ 250 := by
    intro l
    induction l with
    | nil => intro c h1 h2; exact ⟨h1, h2⟩
    | cons x t ih => intro c _ _; exact ih _ (by show 0 ≤ (3 * c + x) % 251; omega) (by show (3 * c + x) % 251 ≤ 250; omega)
  exact this l 103 (by omega) (by omega)
section
variable {s : zS} {l : List Int}
theorem e277 {n0 a0 : Nat} (h : wrt (fun i => s.1 a0 i) l) (hb : ∀ x, x ∈ l → byt x) (hl : l.length ≤ n0) (hn : n0 ≤ 2000) : ∀ (n j : Nat) (i : Int), (j : Int) = (l.length : Int) - i → 0 ≤ i → j < n → m277_5 n n0 a0 (l.length : Int) (imC (l.take i.toNat)) i s = some (imC l, s) := by
  intro n
  induction n with
  | zero => intro j i _ _ h; omega
  | succ n ih =>
    intro j i hi i0 hj
    rw [m277_5]
    cases j with
    | zero => rw [if_neg (by omega), List.take_of_length_le (by omega)]
    | succ j =>
      have hlt : i.toNat < l.length := by omega
      have hx := h i.toNat l[i.toNat] (List.getElem?_eq_getElem hlt)
      rw [show ((i.toNat : Nat) : Int) = i by omega] at hx
      have hbx := hb l[i.toNat] (List.getElem_mem hlt)
      have hc := imC_in (l := l.take i.toNat)
      have st := imC_step hlt
      rw [show i.toNat + 1 = (i + 1).toNat by omega] at st
      have hx' : s.1 a0 i = l[i.toNat] := hx
      rw [if_pos (by omega), oZ_pos (by omega) (by omega), oX_pos i0 (by omega), oV_eq, hx', oZ_pos (by omega) (by omega), oN_pos (by omega), oV_eq, Int.tmod_eq_emod_of_nonneg (by omega), oZ_pos (by omega) (by omega), ← st]
      exact ih j (i + 1) (by omega) (by omega) (by omega)
theorem p64_154 {s0 : zS} (h : cW s0 s l) (hb : ∀ x, x ∈ l → byt x) (hl : l.length < 59) : ∀ (n j : Nat) (i : Int), (j : Int) = (l.length : Int) - i → 0 ≤ i → j < n → Ok (m64_154 n (l.length : Int) (imC (l.take i.toNat)) i s) (fun r t => r = ((l ++ [imC l]).length : Int) ∧ cW s0 t (l ++ [imC l])) := by
  intro n
  induction n with
  | zero => intro j i _ _ h; omega
  | succ n ih =>
    intro j i hi i0 hj
    rw [m64_154]
    cases j with
    | zero =>
      rw [List.take_of_length_le (by omega)]
      refine k_q (by omega) (k_c (e65 h (by omega)) ?_)
      intro r t ht
      exact k_r ht
    | succ j =>
      have hlt : i.toNat < l.length := by omega
      have hx := h.1 i.toNat l[i.toNat] (List.getElem?_eq_getElem hlt)
      rw [show ((i.toNat : Nat) : Int) = i by omega] at hx
      have hbx := hb l[i.toNat] (List.getElem_mem hlt)
      have hc := imC_in (l := l.take i.toNat)
      have st := imC_step hlt
      rw [show i.toNat + 1 = (i + 1).toNat by omega] at st
      have hx' : s.1 42 i = l[i.toNat] := hx
      refine k_p (by omega) (k_z (by omega) (by omega) (k_x i0 (by omega) (k_v ?_)))
      rw [hx']
      refine k_z (by omega) (by omega) (k_n (by decide) (k_v (k_z (by omega) (by omega) ?_)))
      rw [Int.tmod_eq_emod_of_nonneg (by omega), ← st]
      exact ih j (i + 1) (by omega) (by omega) (by omega)
end
/-- all that is written, but for the check -/
def imA (f : Nat → Int → Int) : List Int := [f 254 0 / 256] ++ [f 254 0 % 256] ++ [f 254 1] ++ imH (fun i => f 254 i) (f 242 5).toNat 0 ++ imW (fun i => f 254 i) (f 242 6).toNat 0 ++ imS (fun i => f 254 i) (f 254 28).toNat 0
section
variable {n0 : Nat} {s0 : zS}
theorem imH_len {N : Int → Int} : ∀ (j : Nat) (k : Int), (imH N j k).length = j := by
  intro j
  induction j with
  | zero => intro k; rfl
  | succ j ih => intro k; show ([N (2 + k)] ++ imH N j (k + 1)).length = j + 1; rw [List.length_append, ih, List.length_singleton]; omega
theorem imW_len {N : Int → Int} : ∀ (j : Nat) (k : Int), (imW N j k).length = 4 * j := by
  intro j
  induction j with
  | zero => intro k; rfl
  | succ j ih => intro k; show ([N (10 + 3 * k), N (11 + 3 * k), N (12 + 3 * k) / 256, N (12 + 3 * k) % 256] ++ imW N j (k + 1)).length = 4 * (j + 1); rw [List.length_append, ih]; simp only [List.length_cons, List.length_nil]; omega
theorem imS_len {N : Int → Int} : ∀ (j : Nat) (k : Int), (imS N j k).length = j := by
  intro j
  induction j with
  | zero => intro k; rfl
  | succ j ih => intro k; show ([N (29 + k)] ++ imS N j (k + 1)).length = j + 1; rw [List.length_append, ih, List.length_singleton]; omega
theorem byt_app {a b : List Int} (h1 : ∀ x, x ∈ a → byt x) (h2 : ∀ x, x ∈ b → byt x) : ∀ x, x ∈ a ++ b → byt x := fun x hx => (List.mem_append.mp hx).elim (h1 x) (h2 x)
theorem byt_one {a : Int} (h : byt a) : ∀ x, x ∈ [a] → byt x := fun x hx => by rw [List.mem_singleton.mp hx]; exact h
theorem imH_b (hR : R n0 s0) : ∀ (j : Nat) (k : Int), 0 ≤ k → k + (j : Int) ≤ s0.1 242 5 → ∀ x, x ∈ imH (fun i => s0.1 254 i) j k → byt x := by
  intro j
  induction j with
  | zero => intro k _ _ x hx; simp [imH] at hx
  | succ j ih =>
    intro k k0 k1
    have := R_hh hR k k0 (by omega)
    exact byt_app (byt_one (by show byt (s0.1 254 (2 + k)); omega)) (ih (k + 1) (by omega) (by omega))
theorem imW_b (hR : R n0 s0) : ∀ (j : Nat) (k : Int), 0 ≤ k → k + (j : Int) ≤ s0.1 242 6 → ∀ x, x ∈ imW (fun i => s0.1 254 i) j k → byt x := by
  have hc := R_cnt hR
  obtain ⟨b1, b2, b3, b4, b5, b6, b7, b8, b9, b10⟩ := hc
  intro j
  induction j with
  | zero => intro k _ _ x hx; simp [imW] at hx
  | succ j ih =>
    intro k k0 k1
    have := R_w hR k0 (by omega)
    refine byt_app (fun x hx => ?_) (ih (k + 1) (by omega) (by omega))
    simp only [List.mem_cons, List.not_mem_nil, or_false] at hx
    rcases hx with rfl | rfl | rfl | rfl <;> omega
theorem imS_b (hR : R n0 s0) : ∀ (j : Nat) (k : Int), 0 ≤ k → k + (j : Int) ≤ s0.1 254 28 → ∀ x, x ∈ imS (fun i => s0.1 254 i) j k → byt x := by
  have hc := R_cnt hR
  obtain ⟨b1, b2, b3, b4, b5, b6, b7, b8, b9, b10⟩ := hc
  intro j
  induction j with
  | zero => intro k _ _ x hx; simp [imS] at hx
  | succ j ih =>
    intro k k0 k1
    have := R_sh hR k k0 (by omega)
    exact byt_app (byt_one (by show byt (s0.1 254 (29 + k)); omega)) (ih (k + 1) (by omega) (by omega))
/-- the class writes the shelf and the check -/
theorem p64_119 (hR : R n0 s0) : ∀ (n j : Nat) (k : Int) (s : zS) (l : List Int), k = s0.1 254 28 - (j : Int) → 0 ≤ k → j < n → l.length + j < 50 → (∀ x, x ∈ l → byt x) → cW s0 s l → Ok (m64_119 n 28 (l.length : Int) k s) (fun r t => r = ((l ++ imS (fun i => s0.1 254 i) j k ++ [imC (l ++ imS (fun i => s0.1 254 i) j k)]).length : Int) ∧ cW s0 t (l ++ imS (fun i => s0.1 254 i) j k ++ [imC (l ++ imS (fun i => s0.1 254 i) j k)])) := by
  obtain ⟨b1, b2, b3, b4, b5, b6, b7, b8, b9, b10⟩ := R_cnt hR
  have h28 := R_28 hR
  have h285 := R_285 hR
  intro n
  induction n with
  | zero => intro j k s l _ _ h; omega
  | succ n ih =>
    intro j k s l hk k0 hj hl hb hW
    rw [m64_119]
    refine k_v ?_
    rw [hW.2.1 28 5 (by omega), h285]
    cases j with
    | zero =>
      refine k_q (by omega) ?_
      show Ok _ (fun r t => r = ((l ++ [] ++ [imC (l ++ [])]).length : Int) ∧ cW s0 t (l ++ [] ++ [imC (l ++ [])]))
      rw [List.append_nil]
      exact p64_154 hW hb (by omega) zFu l.length 0 (by omega) (by omega) (by unfold zFu; omega)
    | succ j =>
      have e33 : s.1 (28 + 5) k = s0.1 254 (29 + k) := by rw [hW.2.1 (28 + 5) k (by omega)]; exact R_33 hR k k0 (by omega)
      have hbk := R_sh hR k k0 (by omega)
      refine k_p (by omega) (k_x k0 (by omega) (k_v ?_))
      rw [e33]
      refine k_c (e65 hW (by omega)) ?_
      intro r t ht
      rw [ht.1]
      refine k_z (by omega) (by omega) ?_
      have := ih j (k + 1) t (l ++ [s0.1 254 (29 + k)]) (by omega) (by omega) (by omega) (by rw [List.length_append, List.length_singleton]; omega) (byt_app hb (byt_one (by omega))) ht.2
      rw [List.append_assoc l [s0.1 254 (29 + k)]] at this
      exact this
theorem p64_57 (hR : R n0 s0) : ∀ (n j : Nat) (k : Int) (s : zS) (l : List Int), k = s0.1 242 6 - (j : Int) → 0 ≤ k → j < n → l.length + 4 * j < 40 → (∀ x, x ∈ l → byt x) → cW s0 s l → Ok (m64_57 n 28 (s0.2.2 1) (l.length : Int) k s) (fun r t => r = ((l ++ imW (fun i => s0.1 254 i) j k ++ imS (fun i => s0.1 254 i) (s0.1 254 28).toNat 0 ++ [imC (l ++ imW (fun i => s0.1 254 i) j k ++ imS (fun i => s0.1 254 i) (s0.1 254 28).toNat 0)]).length : Int) ∧ cW s0 t (l ++ imW (fun i => s0.1 254 i) j k ++ imS (fun i => s0.1 254 i) (s0.1 254 28).toNat 0 ++ [imC (l ++ imW (fun i => s0.1 254 i) j k ++ imS (fun i => s0.1 254 i) (s0.1 254 28).toNat 0)])) := by
  obtain ⟨b1, b2, b3, b4, b5, b6, b7, b8, b9, b10⟩ := R_cnt hR
  have hLL := R_LL hR
  have h28 := R_28 hR
  intro n
  induction n with
  | zero => intro j k s l _ _ h; omega
  | succ n ih =>
    intro j k s l hk k0 hj hl hb hW
    rw [m64_57]
    refine k_v ?_
    rw [hW.2.1 (s0.2.2 1 + 5) 0 (by omega), b6]
    cases j with
    | zero =>
      refine k_q (by omega) ?_
      show Ok _ (fun r t => r = ((l ++ [] ++ imS (fun i => s0.1 254 i) (s0.1 254 28).toNat 0 ++ [imC (l ++ [] ++ imS (fun i => s0.1 254 i) (s0.1 254 28).toNat 0)]).length : Int) ∧ cW s0 t (l ++ [] ++ imS (fun i => s0.1 254 i) (s0.1 254 28).toNat 0 ++ [imC (l ++ [] ++ imS (fun i => s0.1 254 i) (s0.1 254 28).toNat 0)]))
      rw [List.append_nil]
      exact p64_119 hR zFu (s0.1 254 28).toNat 0 s l (by omega) (by omega) (by unfold zFu; omega) (by omega) hb hW
    | succ j =>
      have hw := R_w hR k0 (by omega)
      have e30 : s.1 (28 + 2) k = s0.1 254 (10 + 3 * k) := by rw [hW.2.1 (28 + 2) k (by omega)]; exact hw.1
      refine k_p (by omega) (k_x k0 (by omega) (k_v ?_))
      rw [e30]
      refine k_c (e65 hW (by omega)) ?_
      intro r t ht
      rw [ht.1]
      have e31 : t.1 (28 + 3) k = s0.1 254 (11 + 3 * k) - 1 := by rw [ht.2.2.1 (28 + 3) k (by omega)]; exact hw.2.1
      refine k_x k0 (by omega) (k_v ?_)
      rw [e31]
      refine k_z (by omega) (by omega) ?_
      rw [show s0.1 254 (11 + 3 * k) - 1 + 1 = s0.1 254 (11 + 3 * k) by omega]
      refine k_c (e65 ht.2 (by rw [List.length_append, List.length_singleton]; omega)) ?_
      intro r' t' ht'
      rw [ht'.1]
      have e32 : t'.1 (28 + 4) k = s0.1 254 (12 + 3 * k) := by rw [ht'.2.2.1 (28 + 4) k (by omega)]; exact hw.2.2.1
      refine k_x k0 (by omega) (k_v ?_)
      rw [e32]
      refine k_c (e66 ht'.2 (by rw [List.length_append, List.length_append, List.length_singleton, List.length_singleton]; omega) (by omega) (by omega)) ?_
      intro r'' u hu
      rw [hu.1]
      refine k_z (by omega) (by omega) ?_
      have := ih j (k + 1) u (l ++ [s0.1 254 (10 + 3 * k)] ++ [s0.1 254 (11 + 3 * k)] ++ [s0.1 254 (12 + 3 * k) / 256] ++ [s0.1 254 (12 + 3 * k) % 256]) (by omega) (by omega) (by omega) (by simp only [List.length_append, List.length_singleton]; omega) (byt_app (byt_app (byt_app (byt_app hb (byt_one (by omega))) (byt_one (by omega))) (byt_one (by omega))) (byt_one (by omega))) hu.2
      have el : l ++ [s0.1 254 (10 + 3 * k)] ++ [s0.1 254 (11 + 3 * k)] ++ [s0.1 254 (12 + 3 * k) / 256] ++ [s0.1 254 (12 + 3 * k) % 256] ++ imW (fun i => s0.1 254 i) j (k + 1) = l ++ imW (fun i => s0.1 254 i) (j + 1) k := by
        show _ = l ++ ([s0.1 254 (10 + 3 * k), s0.1 254 (11 + 3 * k), s0.1 254 (12 + 3 * k) / 256, s0.1 254 (12 + 3 * k) % 256] ++ imW (fun i => s0.1 254 i) j (k + 1))
        simp only [List.append_assoc, List.cons_append, List.nil_append]
      rw [el] at this
      exact this
theorem p64_23 (hR : R n0 s0) : ∀ (n j : Nat) (k : Int) (s : zS) (l : List Int), k = s0.1 242 5 - (j : Int) → 0 ≤ k → j < n → l.length + j < 13 → (∀ x, x ∈ l → byt x) → cW s0 s l → Ok (m64_23 n 28 (s0.2.2 1) (l.length : Int) k s) (fun r t => r = ((l ++ imH (fun i => s0.1 254 i) j k ++ imW (fun i => s0.1 254 i) (s0.1 242 6).toNat 0 ++ imS (fun i => s0.1 254 i) (s0.1 254 28).toNat 0 ++ [imC (l ++ imH (fun i => s0.1 254 i) j k ++ imW (fun i => s0.1 254 i) (s0.1 242 6).toNat 0 ++ imS (fun i => s0.1 254 i) (s0.1 254 28).toNat 0)]).length : Int) ∧ cW s0 t (l ++ imH (fun i => s0.1 254 i) j k ++ imW (fun i => s0.1 254 i) (s0.1 242 6).toNat 0 ++ imS (fun i => s0.1 254 i) (s0.1 254 28).toNat 0 ++ [imC (l ++ imH (fun i => s0.1 254 i) j k ++ imW (fun i => s0.1 254 i) (s0.1 242 6).toNat 0 ++ imS (fun i => s0.1 254 i) (s0.1 254 28).toNat 0)])) := by
  obtain ⟨b1, b2, b3, b4, b5, b6, b7, b8, b9, b10⟩ := R_cnt hR
  have hLL := R_LL hR
  intro n
  induction n with
  | zero => intro j k s l _ _ h; omega
  | succ n ih =>
    intro j k s l hk k0 hj hl hb hW
    rw [m64_23]
    refine k_v ?_
    rw [hW.2.1 (s0.2.2 1 + 3) 0 (by omega), b4]
    cases j with
    | zero =>
      refine k_q (by omega) ?_
      show Ok _ (fun r t => r = ((l ++ [] ++ imW (fun i => s0.1 254 i) (s0.1 242 6).toNat 0 ++ imS (fun i => s0.1 254 i) (s0.1 254 28).toNat 0 ++ [imC (l ++ [] ++ imW (fun i => s0.1 254 i) (s0.1 242 6).toNat 0 ++ imS (fun i => s0.1 254 i) (s0.1 254 28).toNat 0)]).length : Int) ∧ cW s0 t (l ++ [] ++ imW (fun i => s0.1 254 i) (s0.1 242 6).toNat 0 ++ imS (fun i => s0.1 254 i) (s0.1 254 28).toNat 0 ++ [imC (l ++ [] ++ imW (fun i => s0.1 254 i) (s0.1 242 6).toNat 0 ++ imS (fun i => s0.1 254 i) (s0.1 254 28).toNat 0)]))
      rw [List.append_nil]
      exact p64_57 hR zFu (s0.1 242 6).toNat 0 s l (by omega) (by omega) (by unfold zFu; omega) (by omega) hb hW
    | succ j =>
      have e29 : s.1 (28 + 1) k = s0.1 254 (2 + k) := by rw [hW.2.1 (28 + 1) k (by omega)]; exact (R_now hR).1.2.2.1 k k0 (by omega)
      have hbk := R_hh hR k k0 (by omega)
      refine k_p (by omega) (k_x k0 (by omega) (k_v ?_))
      rw [e29]
      refine k_c (e65 hW (by omega)) ?_
      intro r t ht
      rw [ht.1]
      refine k_z (by omega) (by omega) ?_
      have := ih j (k + 1) t (l ++ [s0.1 254 (2 + k)]) (by omega) (by omega) (by omega) (by rw [List.length_append, List.length_singleton]; omega) (byt_app hb (byt_one (by omega))) ht.2
      rw [List.append_assoc l [s0.1 254 (2 + k)]] at this
      exact this
end
section
variable {n0 : Nat} {s0 sR : zS}
theorem p279_132 (hR : R n0 sR) (hE : ∀ a q, 209 ≤ a → s0.1 a q = sR.1 a q) : ∀ (n j : Nat) (k : Int) (s : zS) (l : List Int), k = sR.1 254 28 - (j : Int) → 0 ≤ k → j < n → l.length + j < 43 → (∀ x, x ∈ l → byt x) → mW s0 s l → Ok (m279_132 n k s) (fun r t => r = ((l ++ imS (fun i => sR.1 254 i) j k ++ [imC (l ++ imS (fun i => sR.1 254 i) j k)]).length : Int) ∧ mW s0 t (l ++ imS (fun i => sR.1 254 i) j k ++ [imC (l ++ imS (fun i => sR.1 254 i) j k)])) := by
  obtain ⟨b1, b2, b3, b4, b5, b6, b7, b8, b9, b10⟩ := R_cnt hR
  have h28 := R_28 hR
  intro n
  induction n with
  | zero => intro j k s l _ _ h; omega
  | succ n ih =>
    intro j k s l hk k0 hj hl hb hW
    have g : ∀ q, s.1 254 q = sR.1 254 q := fun q => (hW.2.2.1 254 q (by omega)).trans (hE 254 q (by omega))
    rw [m279_132]
    refine k_x (by omega) (by omega) (k_v ?_)
    rw [g 28]
    cases j with
    | zero =>
      refine k_q (by omega) (k_v ?_)
      rw [hW.1]
      have ec : m277 44 288 (l.length : Int) s = some (imC l, s) := by
        unfold m277
        exact e277 hW.2.1 hb (by omega) (by omega) zFu l.length 0 (by omega) (by omega) (by unfold zFu; omega)
      refine k_e ec (k_c (e278 hW (by omega)) ?_)
      intro _ t ht
      refine k_v (k_r ?_)
      show t.1 209 110 = ((l ++ [] ++ [imC (l ++ [])]).length : Int) ∧ mW s0 t (l ++ [] ++ [imC (l ++ [])])
      rw [List.append_nil]
      exact ⟨ht.1, ht⟩
    | succ j =>
      have hbk := R_sh hR k k0 (by omega)
      refine k_p (by omega) (k_z (by omega) (by omega) (k_x (by omega) (by omega) (k_v ?_)))
      rw [g]
      refine k_c (e278 hW (by omega)) ?_
      intro _ t ht
      refine k_z (by omega) (by omega) ?_
      have := ih j (k + 1) t (l ++ [sR.1 254 (29 + k)]) (by omega) (by omega) (by omega) (by rw [List.length_append, List.length_singleton]; omega) (byt_app hb (byt_one (by omega))) ht
      rw [List.append_assoc l [sR.1 254 (29 + k)]] at this
      exact this
theorem p279_70 (hR : R n0 sR) (hE : ∀ a q, 209 ≤ a → s0.1 a q = sR.1 a q) : ∀ (n j : Nat) (k : Int) (s : zS) (l : List Int), k = sR.1 242 6 - (j : Int) → 0 ≤ k → j < n → l.length + 4 * j + (sR.1 254 28).toNat < 43 → (∀ x, x ∈ l → byt x) → mW s0 s l → Ok (m279_70 n k s) (fun r t => r = ((l ++ imW (fun i => sR.1 254 i) j k ++ imS (fun i => sR.1 254 i) (sR.1 254 28).toNat 0 ++ [imC (l ++ imW (fun i => sR.1 254 i) j k ++ imS (fun i => sR.1 254 i) (sR.1 254 28).toNat 0)]).length : Int) ∧ mW s0 t (l ++ imW (fun i => sR.1 254 i) j k ++ imS (fun i => sR.1 254 i) (sR.1 254 28).toNat 0 ++ [imC (l ++ imW (fun i => sR.1 254 i) j k ++ imS (fun i => sR.1 254 i) (sR.1 254 28).toNat 0)])) := by
  obtain ⟨b1, b2, b3, b4, b5, b6, b7, b8, b9, b10⟩ := R_cnt hR
  have h28 := R_28 hR
  intro n
  induction n with
  | zero => intro j k s l _ _ h; omega
  | succ n ih =>
    intro j k s l hk k0 hj hl hb hW
    rw [m279_70]
    refine k_e e183 ?_
    rw [(hW.2.2.1 242 6 (by omega)).trans (hE 242 6 (by omega))]
    cases j with
    | zero =>
      refine k_q (by omega) ?_
      show Ok _ (fun r t => r = ((l ++ [] ++ imS (fun i => sR.1 254 i) (sR.1 254 28).toNat 0 ++ [imC (l ++ [] ++ imS (fun i => sR.1 254 i) (sR.1 254 28).toNat 0)]).length : Int) ∧ mW s0 t (l ++ [] ++ imS (fun i => sR.1 254 i) (sR.1 254 28).toNat 0 ++ [imC (l ++ [] ++ imS (fun i => sR.1 254 i) (sR.1 254 28).toNat 0)]))
      rw [List.append_nil]
      exact p279_132 hR hE zFu (sR.1 254 28).toNat 0 s l (by omega) (by omega) (by unfold zFu; omega) (by omega) hb hW
    | succ j =>
      have hw := R_w hR k0 (by omega)
      have g : ∀ (u : zS) (l' : List Int), mW s0 u l' → ∀ q, u.1 254 q = sR.1 254 q := fun u l' h q => (h.2.2.1 254 q (by omega)).trans (hE 254 q (by omega))
      refine k_p (by omega) (k_e (e188 k0 (by omega)) ?_)
      rw [g s l hW]
      refine k_c (e278 hW (by omega)) ?_
      intro _ t ht
      refine k_e (e189 k0 (by omega) (by rw [g t _ ht]; omega) (by rw [g t _ ht]; omega)) ?_
      rw [g t _ ht]
      refine k_z (by omega) (by omega) ?_
      rw [show sR.1 254 (11 + 3 * k) - 1 + 1 = sR.1 254 (11 + 3 * k) by omega]
      refine k_c (e278 ht (by rw [List.length_append, List.length_singleton]; omega)) ?_
      intro _ t' ht'
      refine k_e (e190 k0 (by omega)) (k_n (by decide) ?_)
      rw [g t' _ ht', Int.tdiv_eq_ediv_of_nonneg (by omega)]
      refine k_z (by omega) (by omega) (k_c (e278 ht' (by simp only [List.length_append, List.length_singleton]; omega)) ?_)
      intro _ v hv
      refine k_e (e190 k0 (by omega)) (k_n (by decide) (k_v ?_))
      rw [g v _ hv, Int.tmod_eq_emod_of_nonneg (by omega)]
      refine k_c (e278 hv (by simp only [List.length_append, List.length_singleton]; omega)) ?_
      intro _ u hu
      refine k_z (by omega) (by omega) ?_
      have := ih j (k + 1) u (l ++ [sR.1 254 (10 + 3 * k)] ++ [sR.1 254 (11 + 3 * k)] ++ [sR.1 254 (12 + 3 * k) / 256] ++ [sR.1 254 (12 + 3 * k) % 256]) (by omega) (by omega) (by omega) (by simp only [List.length_append, List.length_singleton]; omega) (byt_app (byt_app (byt_app (byt_app hb (byt_one (by omega))) (byt_one (by omega))) (byt_one (by omega))) (byt_one (by omega))) hu
      have el : l ++ [sR.1 254 (10 + 3 * k)] ++ [sR.1 254 (11 + 3 * k)] ++ [sR.1 254 (12 + 3 * k) / 256] ++ [sR.1 254 (12 + 3 * k) % 256] ++ imW (fun i => sR.1 254 i) j (k + 1) = l ++ imW (fun i => sR.1 254 i) (j + 1) k := by
        show _ = l ++ ([sR.1 254 (10 + 3 * k), sR.1 254 (11 + 3 * k), sR.1 254 (12 + 3 * k) / 256, sR.1 254 (12 + 3 * k) % 256] ++ imW (fun i => sR.1 254 i) j (k + 1))
        simp only [List.append_assoc, List.cons_append, List.nil_append]
      rw [el] at this
      exact this
theorem p279_45 (hR : R n0 sR) (hE : ∀ a q, 209 ≤ a → s0.1 a q = sR.1 a q) : ∀ (n j : Nat) (k : Int) (s : zS) (l : List Int), k = sR.1 242 5 - (j : Int) → 0 ≤ k → j < n → l.length + j + 4 * (sR.1 242 6).toNat + (sR.1 254 28).toNat < 43 → (∀ x, x ∈ l → byt x) → mW s0 s l → Ok (m279_45 n k s) (fun r t => r = ((l ++ imH (fun i => sR.1 254 i) j k ++ imW (fun i => sR.1 254 i) (sR.1 242 6).toNat 0 ++ imS (fun i => sR.1 254 i) (sR.1 254 28).toNat 0 ++ [imC (l ++ imH (fun i => sR.1 254 i) j k ++ imW (fun i => sR.1 254 i) (sR.1 242 6).toNat 0 ++ imS (fun i => sR.1 254 i) (sR.1 254 28).toNat 0)]).length : Int) ∧ mW s0 t (l ++ imH (fun i => sR.1 254 i) j k ++ imW (fun i => sR.1 254 i) (sR.1 242 6).toNat 0 ++ imS (fun i => sR.1 254 i) (sR.1 254 28).toNat 0 ++ [imC (l ++ imH (fun i => sR.1 254 i) j k ++ imW (fun i => sR.1 254 i) (sR.1 242 6).toNat 0 ++ imS (fun i => sR.1 254 i) (sR.1 254 28).toNat 0)])) := by
  obtain ⟨b1, b2, b3, b4, b5, b6, b7, b8, b9, b10⟩ := R_cnt hR
  intro n
  induction n with
  | zero => intro j k s l _ _ h; omega
  | succ n ih =>
    intro j k s l hk k0 hj hl hb hW
    rw [m279_45]
    refine k_e e182 ?_
    rw [(hW.2.2.1 242 5 (by omega)).trans (hE 242 5 (by omega))]
    cases j with
    | zero =>
      refine k_q (by omega) ?_
      show Ok _ (fun r t => r = ((l ++ [] ++ imW (fun i => sR.1 254 i) (sR.1 242 6).toNat 0 ++ imS (fun i => sR.1 254 i) (sR.1 254 28).toNat 0 ++ [imC (l ++ [] ++ imW (fun i => sR.1 254 i) (sR.1 242 6).toNat 0 ++ imS (fun i => sR.1 254 i) (sR.1 254 28).toNat 0)]).length : Int) ∧ mW s0 t (l ++ [] ++ imW (fun i => sR.1 254 i) (sR.1 242 6).toNat 0 ++ imS (fun i => sR.1 254 i) (sR.1 254 28).toNat 0 ++ [imC (l ++ [] ++ imW (fun i => sR.1 254 i) (sR.1 242 6).toNat 0 ++ imS (fun i => sR.1 254 i) (sR.1 254 28).toNat 0)]))
      rw [List.append_nil]
      exact p279_70 hR hE zFu (sR.1 242 6).toNat 0 s l (by omega) (by omega) (by unfold zFu; omega) (by omega) hb hW
    | succ j =>
      have hbk := R_hh hR k k0 (by omega)
      refine k_p (by omega) (k_e (e187 k0 (by omega)) ?_)
      rw [(hW.2.2.1 254 (2 + k) (by omega)).trans (hE 254 (2 + k) (by omega))]
      refine k_c (e278 hW (by omega)) ?_
      intro _ t ht
      refine k_z (by omega) (by omega) ?_
      have := ih j (k + 1) t (l ++ [sR.1 254 (2 + k)]) (by omega) (by omega) (by omega) (by rw [List.length_append, List.length_singleton]; omega) (byt_app hb (byt_one (by omega))) ht
      rw [List.append_assoc l [sR.1 254 (2 + k)]] at this
      exact this
theorem p64 (hR : R n0 s0) : Ok (m64 28 (s0.2.2 1) s0) (fun r t => r = ((imA s0.1 ++ [imC (imA s0.1)]).length : Int) ∧ cW s0 t (imA s0.1 ++ [imC (imA s0.1)])) := by
  obtain ⟨b1, b2, b3, b4, b5, b6, b7, b8, b9, b10⟩ := R_cnt hR
  have hday : s0.1 28 6 = s0.1 254 0 := (R_now hR).1.1
  have hdi : 0 ≤ s0.1 254 0 ∧ s0.1 254 0 ≤ 999 := (R_now hR).2.1
  have h287 := R_287 hR
  unfold m64
  refine k_v ?_
  rw [hday]
  refine k_c (e66 (s := s0) (l := []) (s0 := s0) ⟨fun i x hx => by simp at hx, fr_refl⟩ (by simp only [List.length_nil]; omega) hdi.1 (by omega)) ?_
  intro r t ht
  refine k_v ?_
  rw [ht.1, ht.2.2.1 28 7 (by omega), h287.1]
  refine k_c (e65 ht.2 (by simp only [List.length_append, List.length_singleton, List.length_nil]; omega)) ?_
  intro r' t' ht'
  rw [ht'.1]
  refine p64_23 hR zFu (s0.1 242 5).toNat 0 t' _ (by omega) (by omega) (by unfold zFu; omega) (by simp only [List.length_append, List.length_singleton, List.length_nil]; omega) ?_ ht'.2
  exact byt_app (byt_app (byt_app (fun x hx => by simp at hx) (byt_one (by omega))) (byt_one (by omega))) (byt_one (by omega))
theorem p279 (hR : R n0 sR) (hE : ∀ a q, 209 ≤ a → s0.1 a q = sR.1 a q) : Ok (m279 s0) (fun r t => r = ((imA sR.1 ++ [imC (imA sR.1)]).length : Int) ∧ mW s0 t (imA sR.1 ++ [imC (imA sR.1)])) := by
  obtain ⟨b1, b2, b3, b4, b5, b6, b7, b8, b9, b10⟩ := R_cnt hR
  have hdi : 0 ≤ sR.1 254 0 ∧ sR.1 254 0 ≤ 999 := (R_now hR).2.1
  have h287 := R_287 hR
  have h28 := R_28 hR
  unfold m279
  have h0 : mW s0 (sI s0 209 110 0) [] := ⟨by rw [sI_e]; rfl, fun i x hx => by simp at hx, fr_I (Or.inr ⟨rfl, rfl⟩)⟩
  have g : ∀ (u : zS) (l' : List Int), mW s0 u l' → ∀ q, u.1 254 q = sR.1 254 q := fun u l' h q => (h.2.2.1 254 q (by omega)).trans (hE 254 q (by omega))
  refine k_v (k_x (by omega) (by omega) (k_v (k_n (by decide) ?_)))
  rw [g _ _ h0, Int.tdiv_eq_ediv_of_nonneg hdi.1]
  refine k_z (by omega) (by omega) (k_c (e278 h0 (by simp only [List.length_nil]; omega)) ?_)
  intro _ t1 h1
  refine k_x (by omega) (by omega) (k_v (k_n (by decide) (k_v ?_)))
  rw [g _ _ h1, Int.tmod_eq_emod_of_nonneg hdi.1]
  refine k_c (e278 h1 (by simp only [List.length_append, List.length_singleton, List.length_nil]; omega)) ?_
  intro _ t2 h2
  refine k_x (by omega) (by omega) (k_v ?_)
  rw [g _ _ h2]
  refine k_c (e278 h2 (by simp only [List.length_append, List.length_singleton, List.length_nil]; omega)) ?_
  intro _ t3 h3
  refine p279_45 hR hE zFu (sR.1 242 5).toNat 0 t3 _ (by omega) (by omega) (by unfold zFu; omega) (by simp only [List.length_append, List.length_singleton, List.length_nil]; omega) ?_ h3
  exact byt_app (byt_app (byt_one (by omega)) (byt_one (by omega))) (byt_one (by omega))
end
/-- two rows that both begin so -/
theorem wrt_both {g g' : Int → Int} {l : List Int} (h : wrt g l) (h' : wrt g' l) : ∀ k, 0 ≤ k → k < (l.length : Int) → g k = g' k := by
  intro k k0 k1
  have hlt : k.toNat < l.length := by omega
  have e := h k.toNat _ (List.getElem?_eq_getElem hlt)
  have e' := h' k.toNat _ (List.getElem?_eq_getElem hlt)
  rw [show ((k.toNat : Nat) : Int) = k by omega] at e e'
  rw [e, e']
theorem t132 : T132 := by
  intro n s hR hn
  have hLL := R_LL hR
  obtain ⟨b1, b2, b3, b4, b5, b6, b7, b8, b9, b10⟩ := R_cnt hR
  have h28 := R_28 hR
  have hlen : (imA s.1 ++ [imC (imA s.1)]).length ≤ 44 := by
    unfold imA
    simp only [List.length_append, List.length_singleton, imH_len, imW_len, imS_len]
    omega
  unfold Two m132
  refine k_v (k_c (p64 hR) ?_)
  intro r s1 h1
  refine k_v (k_v (k_r ?_))
  rw [sI_e, h1.1]
  generalize hv : sI s1 0 15 ((imA s.1 ++ [imC (imA s.1)]).length : Int) = v
  have fv : Fr (fun a q => a = 42 ∨ (a = 0 ∧ q = 15)) s v := by rw [← hv]; exact fr_trans (fr_mono (fun a q z => Or.inl z) h1.2.2) (fr_I (Or.inr ⟨rfl, rfl⟩))
  have v42 : wrt (fun i => v.1 42 i) (imA s.1 ++ [imC (imA s.1)]) := by
    intro i x hx
    show v.1 42 (i : Int) = x
    rw [← hv, sI_a (by omega)]; exact h1.2.1 i x hx
  have v15 : v.1 0 15 = ((imA s.1 ++ [imC (imA s.1)]).length : Int) := by rw [← hv, sI_e]
  refine k_m (p279 (s0 := v) hR (fun a q z => fv.1 a q (by omega))) ?_
  intro r' t ht
  obtain ⟨y1, y2, y3, y4⟩ := ht
  refine ⟨y1.symm, ?_⟩
  have F : ∀ a k, ¬ (a = 42 ∨ (a = 0 ∧ k = 15) ∨ a = 288 ∨ (a = 209 ∧ k = 110)) → t.1 a k = s.1 a k := fun a k z => by rw [y4.1 a k (by omega), fv.1 a k (by omega)]
  have hM : t.2 = s.2 := Prod.ext (y4.2.1.trans fv.2.1) (y4.2.2.trans fv.2.2)
  have t15 : t.1 0 15 = ((imA s.1 ++ [imC (imA s.1)]).length : Int) := by rw [y4.1 0 15 (by omega)]; exact v15
  refine R_of (n := n) (s := s) hR (by rw [hM]) (fun a k q => ⟨F a k (by unfold Stt at q; omega), by rw [hM]⟩) ?_ ?_ ?_ ?_ ?_ ?_ ?_
  · exact rTape_eq (F _ _ (by omega)) (F _ _ (by omega)) (fun k => F _ _ (by omega)) (fun k => F _ _ (by omega)) (F _ _ (by omega)) (F _ _ (by omega)) (F _ _ (by omega)) (F _ _ (by omega)) (R_tape hR)
  · exact rRefu_eq (fun k => F _ _ (by omega)) (fun k => F _ _ (by omega)) (R_refu hR)
  · exact rSeed_eq (F _ _ (by omega)) (by rw [hM]) (R_seed hR)
  · refine ⟨by rw [t15, y2], by rw [t15]; omega, by rw [t15]; omega, fun k k0 k1 => ?_⟩
    rw [t15] at k1
    rw [y4.1 42 k (by omega)]
    exact wrt_both v42 y3 k k0 k1
  · exact rRows_eq (F _ _ (by omega)) (F _ _ (by omega)) (fun k => F _ _ (by omega)) (fun k => F _ _ (by omega)) (fun k => F _ _ (by omega)) (F _ _ (by omega)) (R_rows hR)
  · exact rNow_eq (R_cnt hR) (fun k => F _ _ (by omega)) (fun a k q1 q2 => F _ _ (by omega)) (fun k => F _ _ (by omega)) (R_now hR)
  · exact rPast_eq (R_cnt hR) (fun k => F _ _ (by omega)) (F _ _ (by omega)) (F _ _ (by omega)) (F _ _ (by omega)) (F _ _ (by omega)) (fun a k q1 q2 => F _ _ (by omega)) (fun k => F _ _ (by omega)) (R_past hR)
