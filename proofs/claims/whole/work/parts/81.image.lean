/-! ===== image ===== -/
/-- a row begins with these -/
def wrt (g : Int → Int) (l : List Int) : Prop := ∀ (i : Nat) (x : Int), l[i]? = some x → g (i : Int) = x
theorem wrt_snoc {g g' : Int → Int} {l : List Int} {x : Int} (h : wrt g l) (e : g' (l.length : Int) = x) (ho : ∀ i : Int, i < (l.length : Int) → g' i = g i) : wrt g' (l ++ [x]) := by
  intro i y hy
  by_cases c : i < l.length
  · rw [List.getElem?_append_left c] at hy
    rw [ho _ (by omega)]; exact h i y hy
  · have hi : i < (l ++ [x]).length := (List.getElem?_eq_some_iff.mp hy).1
    rw [List.length_append, List.length_singleton] at hi
    have ei : i = l.length := by omega
    subst ei
    rw [List.getElem?_append_right (Nat.le_refl _), Nat.sub_self] at hy
    cases hy
    exact e
def imH (N : Int → Int) : Nat → Int → List Int
  | 0, _ => []
  | j + 1, k => [N (2 + k)] ++ imH N j (k + 1)
def imW (N : Int → Int) : Nat → Int → List Int
  | 0, _ => []
  | j + 1, w => [N (10 + 3 * w), N (11 + 3 * w), N (12 + 3 * w) / 256, N (12 + 3 * w) % 256] ++ imW N j (w + 1)
def imS (N : Int → Int) : Nat → Int → List Int
  | 0, _ => []
  | j + 1, k => [N (29 + k)] ++ imS N j (k + 1)
def imC (l : List Int) : Int := l.foldl (fun c x => (3 * c + x) % 251) 103
abbrev byt (x : Int) : Prop := 0 ≤ x ∧ x ≤ 255
section
variable {s : zS} {l : List Int} {v : Int}
/-- what has been written: the class's -/
def cW (s0 s : zS) (l : List Int) : Prop := wrt (fun i => s.1 42 i) l ∧ Fr (fun a _ => a = 42) s0 s
theorem e65 {s0 : zS} (h : cW s0 s l) (hl : l.length < 60) : Ok (m65 (l.length : Int) v s) (fun r t => r = ((l ++ [v]).length : Int) ∧ cW s0 t (l ++ [v])) := by
  unfold m65
  refine k_z (by omega) (by omega) (k_p (by omega) (k_x (by omega) (by omega) (k_v (k_z (by omega) (by omega) (k_r ⟨by rw [List.length_append, List.length_singleton]; omega, ?_, fr_trans h.2 (fr_I rfl)⟩)))))
  refine wrt_snoc h.1 ?_ (fun i hi => ?_)
  · show (sI s 42 (l.length : Int) v).1 42 (l.length : Int) = v; exact sI_e
  · show (sI s 42 (l.length : Int) v).1 42 i = s.1 42 i; exact sI_k (by omega)
theorem e66 {s0 : zS} (h : cW s0 s l) (hl : l.length < 59) (v0 : 0 ≤ v) (v1 : v ≤ 100000) : Ok (m66 (l.length : Int) v s) (fun r t => r = ((l ++ [v / 256] ++ [v % 256]).length : Int) ∧ cW s0 t (l ++ [v / 256] ++ [v % 256])) := by
  unfold m66
  refine k_n (by decide) ?_
  rw [Int.tdiv_eq_ediv_of_nonneg v0]
  refine k_z (by omega) (by omega) (k_c (e65 h (by omega)) ?_)
  intro r t ht
  refine k_n (by decide) (k_v ?_)
  rw [Int.tmod_eq_emod_of_nonneg v0, ht.1]
  refine k_c (e65 ht.2 (by rw [List.length_append, List.length_singleton]; omega)) ?_
  intro r' t' ht'
  exact k_r ht'
/-- what has been written: the reference's -/
def mW (s0 s : zS) (l : List Int) : Prop := s.1 209 110 = (l.length : Int) ∧ wrt (fun i => s.1 288 i) l ∧ Fr (fun a q => a = 288 ∨ (a = 209 ∧ q = 110)) s0 s
theorem e278 {s0 : zS} (h : mW s0 s l) (hl : l.length < 44) : Ok (m278 v s) (fun _ t => mW s0 t (l ++ [v])) := by
  obtain ⟨h1, h2, h3⟩ := h
  unfold m278
  refine k_v ?_
  rw [h1]
  refine k_x (by omega) (by omega) (k_v (k_v ?_))
  rw [sI_a (by omega), h1]
  refine k_z (by omega) (by omega) (k_v (k_r ⟨by rw [sI_e, List.length_append, List.length_singleton]; omega, ?_, fr_trans h3 (fr_trans (fr_I (by omega)) (fr_I (by omega)))⟩))
  refine wrt_snoc h2 ?_ (fun i hi => ?_)
  · show (sI (sI s 288 (l.length : Int) v) 209 110 _).1 288 (l.length : Int) = v; rw [sI_a (by omega), sI_e]
  · show (sI (sI s 288 (l.length : Int) v) 209 110 _).1 288 i = s.1 288 i; rw [sI_a (by omega), sI_k (by omega)]
end
/-- the check, over the first ones of a row -/
theorem e_chk {g : Int → Int} {l : List Int} (h : wrt g l) (hb : ∀ x, x ∈ l → byt x) : ∀ j : Nat, j ≤ l.length → 0 ≤ imC (l.take j) ∧ imC (l.take j) ≤ 250 ∨ j = 0 := by
  intro j
  induction j with
  | zero => intro _; exact Or.inr rfl
  | succ j ih =>
    intro hj
    have hlt : j < l.length := by omega
    have e : imC (l.take (j + 1)) = (3 * imC (l.take j) + l[j]) % 251 := by
      unfold imC
      rw [List.take_succ_eq_append_getElem hlt, List.foldl_append]; rfl
    rw [e]
    omega
theorem imC_step {l : List Int} {j : Nat} (hlt : j < l.length) : imC (l.take (j + 1)) = (3 * imC (l.take j) + l[j]) % 251 := by
  unfold imC
  rw [List.take_succ_eq_append_getElem hlt, List.foldl_append]; rfl
theorem imC_in {l : List Int} : 0 ≤ imC l ∧ imC l ≤ 250 := by
  have : ∀ (l : List Int) (c : Int), 0 ≤ c → c ≤ 250 → 0 ≤ l.foldl (fun c x => (3 * c + x) % 251) c ∧ l.foldl (fun c x => (3 * c + x) % 251) c ≤ 250 := by
    intro l
    induction l with
    | nil => intro c h1 h2; exact ⟨h1, h2⟩
    | cons x t ih => intro c _ _; exact ih _ (by omega) (by omega)
  exact this l 103 (by omega) (by omega)
section
variable {s : zS} {l : List Int}
theorem e277 {n0 a0 : Nat} (h : wrt (fun i => s.1 a0 i) l) (hb : ∀ x, x ∈ l → byt x) (hl : l.length ≤ n0) (hn : n0 ≤ 2000) : ∀ (n j : Nat) (i : Int), (j : Int) = (l.length : Int) - i → 0 ≤ i → j < n → m277_5 n n0 a0 (l.length : Int) (imC (l.take i.toNat)) i s = some (imC l, s) := by
  intro n
  induction n with
  | zero => intro j i _ _ h; omega
  | succ n ih =>
    intro j i hi i0 hj
    rw [m277_5]
    cases j with
    | zero => rw [if_neg (by omega), List.take_of_length_le (by omega)]
    | succ j =>
      have hlt : i.toNat < l.length := by omega
      have hx := h i.toNat l[i.toNat] (List.getElem?_eq_getElem hlt)
      rw [show ((i.toNat : Nat) : Int) = i by omega] at hx
      have hbx := hb l[i.toNat] (List.getElem_mem hlt)
      have hc := imC_in (l := l.take i.toNat)
      have st := imC_step hlt
      rw [show i.toNat + 1 = (i + 1).toNat by omega] at st
      have hx' : s.1 a0 i = l[i.toNat] := hx
      rw [if_pos (by omega), oZ_pos (by omega) (by omega), oX_pos i0 (by omega), oV_eq, hx', oZ_pos (by omega) (by omega), oN_pos (by omega), oV_eq, Int.tmod_eq_emod_of_nonneg (by omega), oZ_pos (by omega) (by omega), ← st]
      exact ih j (i + 1) (by omega) (by omega) (by omega)
theorem p64_154 {s0 : zS} (h : cW s0 s l) (hb : ∀ x, x ∈ l → byt x) (hl : l.length < 59) : ∀ (n j : Nat) (i : Int), (j : Int) = (l.length : Int) - i → 0 ≤ i → j < n → Ok (m64_154 n (l.length : Int) (imC (l.take i.toNat)) i s) (fun r t => r = ((l ++ [imC l]).length : Int) ∧ cW s0 t (l ++ [imC l])) := by
  intro n
  induction n with
  | zero => intro j i _ _ h; omega
  | succ n ih =>
    intro j i hi i0 hj
    rw [m64_154]
    cases j with
    | zero =>
      rw [List.take_of_length_le (by omega)]
      refine k_q (by omega) (k_c (e65 h (by omega)) ?_)
      intro r t ht
      exact k_r ht
    | succ j =>
      have hlt : i.toNat < l.length := by omega
      have hx := h.1 i.toNat l[i.toNat] (List.getElem?_eq_getElem hlt)
      rw [show ((i.toNat : Nat) : Int) = i by omega] at hx
      have hbx := hb l[i.toNat] (List.getElem_mem hlt)
      have hc := imC_in (l := l.take i.toNat)
      have st := imC_step hlt
      rw [show i.toNat + 1 = (i + 1).toNat by omega] at st
      have hx' : s.1 42 i = l[i.toNat] := hx
      refine k_p (by omega) (k_z (by omega) (by omega) (k_x i0 (by omega) (k_v ?_)))
      rw [hx']
      refine k_z (by omega) (by omega) (k_n (by decide) (k_v (k_z (by omega) (by omega) ?_)))
      rw [Int.tmod_eq_emod_of_nonneg (by omega), ← st]
      exact ih j (i + 1) (by omega) (by omega) (by omega)
end
/-- all that is written, but for the check -/
def imA (f : Nat → Int → Int) : List Int := [f 254 0 / 256] ++ [f 254 0 % 256] ++ [f 254 1] ++ imH (fun i => f 254 i) (f 242 5).toNat 0 ++ imW (fun i => f 254 i) (f 242 6).toNat 0 ++ imS (fun i => f 254 i) (f 254 28).toNat 0
section
variable {n0 : Nat} {s0 : zS}
theorem imH_len {N : Int → Int} : ∀ (j : Nat) (k : Int), (imH N j k).length = j := by
  intro j
  induction j with
  | zero => intro k; rfl
  | succ j ih => intro k; show ([N (2 + k)] ++ imH N j (k + 1)).length = j + 1; rw [List.length_append, ih, List.length_singleton]; omega
theorem imW_len {N : Int → Int} : ∀ (j : Nat) (k : Int), (imW N j k).length = 4 * j := by
  intro j
  induction j with
  | zero => intro k; rfl
  | succ j ih => intro k; show ([N (10 + 3 * k), N (11 + 3 * k), N (12 + 3 * k) / 256, N (12 + 3 * k) % 256] ++ imW N j (k + 1)).length = 4 * (j + 1); rw [List.length_append, ih]; simp only [List.length_cons, List.length_nil]; omega
theorem imS_len {N : Int → Int} : ∀ (j : Nat) (k : Int), (imS N j k).length = j := by
  intro j
  induction j with
  | zero => intro k; rfl
  | succ j ih => intro k; show ([N (29 + k)] ++ imS N j (k + 1)).length = j + 1; rw [List.length_append, ih, List.length_singleton]; omega
theorem byt_app {a b : List Int} (h1 : ∀ x, x ∈ a → byt x) (h2 : ∀ x, x ∈ b → byt x) : ∀ x, x ∈ a ++ b → byt x := fun x hx => (List.mem_append.mp hx).elim (h1 x) (h2 x)
theorem byt_one {a : Int} (h : byt a) : ∀ x, x ∈ [a] → byt x := fun x hx => by rw [List.mem_singleton.mp hx]; exact h
theorem imH_b (hR : R n0 s0) : ∀ (j : Nat) (k : Int), 0 ≤ k → k + (j : Int) ≤ s0.1 242 5 → ∀ x, x ∈ imH (fun i => s0.1 254 i) j k → byt x := by
  intro j
  induction j with
  | zero => intro k _ _ x hx; simp [imH] at hx
  | succ j ih =>
    intro k k0 k1
    have := R_hh hR k k0 (by omega)
    exact byt_app (byt_one (by show byt (s0.1 254 (2 + k)); omega)) (ih (k + 1) (by omega) (by omega))
theorem imW_b (hR : R n0 s0) : ∀ (j : Nat) (k : Int), 0 ≤ k → k + (j : Int) ≤ s0.1 242 6 → ∀ x, x ∈ imW (fun i => s0.1 254 i) j k → byt x := by
  have hc := R_cnt hR
  obtain ⟨b1, b2, b3, b4, b5, b6, b7, b8, b9, b10⟩ := hc
  intro j
  induction j with
  | zero => intro k _ _ x hx; simp [imW] at hx
  | succ j ih =>
    intro k k0 k1
    have := R_w hR k0 (by omega)
    refine byt_app (fun x hx => ?_) (ih (k + 1) (by omega) (by omega))
    simp only [List.mem_cons, List.not_mem_nil, or_false] at hx
    rcases hx with rfl | rfl | rfl | rfl <;> dsimp only <;> omega
theorem imS_b (hR : R n0 s0) : ∀ (j : Nat) (k : Int), 0 ≤ k → k + (j : Int) ≤ s0.1 254 28 → ∀ x, x ∈ imS (fun i => s0.1 254 i) j k → byt x := by
  have hc := R_cnt hR
  obtain ⟨b1, b2, b3, b4, b5, b6, b7, b8, b9, b10⟩ := hc
  intro j
  induction j with
  | zero => intro k _ _ x hx; simp [imS] at hx
  | succ j ih =>
    intro k k0 k1
    have := R_sh hR k k0 (by omega)
    exact byt_app (byt_one (by show byt (s0.1 254 (29 + k)); omega)) (ih (k + 1) (by omega) (by omega))
/-- the class writes the shelf and the check -/
theorem p64_119 (hR : R n0 s0) : ∀ (n j : Nat) (k : Int) (s : zS) (l : List Int), k = s0.1 254 28 - (j : Int) → 0 ≤ k → j < n → l.length + j < 50 → (∀ x, x ∈ l → byt x) → cW s0 s l → Ok (m64_119 n 28 (l.length : Int) k s) (fun r t => r = ((l ++ imS (fun i => s0.1 254 i) j k ++ [imC (l ++ imS (fun i => s0.1 254 i) j k)]).length : Int) ∧ cW s0 t (l ++ imS (fun i => s0.1 254 i) j k ++ [imC (l ++ imS (fun i => s0.1 254 i) j k)])) := by
  obtain ⟨b1, b2, b3, b4, b5, b6, b7, b8, b9, b10⟩ := R_cnt hR
  have h28 := R_28 hR
  have h285 := R_285 hR
  intro n
  induction n with
  | zero => intro j k s l _ _ h; omega
  | succ n ih =>
    intro j k s l hk k0 hj hl hb hW
    rw [m64_119]
    refine k_v ?_
    rw [hW.2.1 28 5 (by omega), h285]
    cases j with
    | zero =>
      refine k_q (by omega) ?_
      show Ok _ (fun r t => r = ((l ++ [] ++ [imC (l ++ [])]).length : Int) ∧ cW s0 t (l ++ [] ++ [imC (l ++ [])]))
      rw [List.append_nil]
      exact p64_154 hW hb (by omega) zFu l.length 0 (by omega) (by omega) (by unfold zFu; omega)
    | succ j =>
      have e33 : s.1 (28 + 5) k = s0.1 254 (29 + k) := by rw [hW.2.1 (28 + 5) k (by omega)]; exact R_33 hR k k0 (by omega)
      have hbk := R_sh hR k k0 (by omega)
      refine k_p (by omega) (k_x k0 (by omega) (k_v ?_))
      rw [e33]
      refine k_c (e65 hW (by omega)) ?_
      intro r t ht
      rw [ht.1]
      refine k_z (by omega) (by omega) ?_
      have := ih j (k + 1) t (l ++ [s0.1 254 (29 + k)]) (by omega) (by omega) (by omega) (by rw [List.length_append, List.length_singleton]; omega) (byt_app hb (byt_one (by omega))) ht.2
      rw [List.append_assoc l [s0.1 254 (29 + k)]] at this
      exact this
theorem p64_57 (hR : R n0 s0) : ∀ (n j : Nat) (k : Int) (s : zS) (l : List Int), k = s0.1 242 6 - (j : Int) → 0 ≤ k → j < n → l.length + 4 * j < 40 → (∀ x, x ∈ l → byt x) → cW s0 s l → Ok (m64_57 n 28 (s0.2.2 1) (l.length : Int) k s) (fun r t => r = ((l ++ imW (fun i => s0.1 254 i) j k ++ imS (fun i => s0.1 254 i) (s0.1 254 28).toNat 0 ++ [imC (l ++ imW (fun i => s0.1 254 i) j k ++ imS (fun i => s0.1 254 i) (s0.1 254 28).toNat 0)]).length : Int) ∧ cW s0 t (l ++ imW (fun i => s0.1 254 i) j k ++ imS (fun i => s0.1 254 i) (s0.1 254 28).toNat 0 ++ [imC (l ++ imW (fun i => s0.1 254 i) j k ++ imS (fun i => s0.1 254 i) (s0.1 254 28).toNat 0)])) := by
  obtain ⟨b1, b2, b3, b4, b5, b6, b7, b8, b9, b10⟩ := R_cnt hR
  have hLL := R_LL hR
  have h28 := R_28 hR
  intro n
  induction n with
  | zero => intro j k s l _ _ h; omega
  | succ n ih =>
    intro j k s l hk k0 hj hl hb hW
    rw [m64_57]
    refine k_v ?_
    rw [hW.2.1 (s0.2.2 1 + 5) 0 (by omega), b6]
    cases j with
    | zero =>
      refine k_q (by omega) ?_
      show Ok _ (fun r t => r = ((l ++ [] ++ imS (fun i => s0.1 254 i) (s0.1 254 28).toNat 0 ++ [imC (l ++ [] ++ imS (fun i => s0.1 254 i) (s0.1 254 28).toNat 0)]).length : Int) ∧ cW s0 t (l ++ [] ++ imS (fun i => s0.1 254 i) (s0.1 254 28).toNat 0 ++ [imC (l ++ [] ++ imS (fun i => s0.1 254 i) (s0.1 254 28).toNat 0)]))
      rw [List.append_nil]
      exact p64_119 hR zFu (s0.1 254 28).toNat 0 s l (by omega) (by omega) (by unfold zFu; omega) (by omega) hb hW
    | succ j =>
      have hw := R_w hR k0 (by omega)
      have e30 : s.1 (28 + 2) k = s0.1 254 (10 + 3 * k) := by rw [hW.2.1 (28 + 2) k (by omega)]; exact hw.1
      refine k_p (by omega) (k_x k0 (by omega) (k_v ?_))
      rw [e30]
      refine k_c (e65 hW (by omega)) ?_
      intro r t ht
      rw [ht.1]
      have e31 : t.1 (28 + 3) k = s0.1 254 (11 + 3 * k) - 1 := by rw [ht.2.2.1 (28 + 3) k (by omega)]; exact hw.2.1
      refine k_x k0 (by omega) (k_v ?_)
      rw [e31]
      refine k_z (by omega) (by omega) ?_
      rw [show s0.1 254 (11 + 3 * k) - 1 + 1 = s0.1 254 (11 + 3 * k) by omega]
      refine k_c (e65 ht.2 (by rw [List.length_append, List.length_singleton]; omega)) ?_
      intro r' t' ht'
      rw [ht'.1]
      have e32 : t'.1 (28 + 4) k = s0.1 254 (12 + 3 * k) := by rw [ht'.2.2.1 (28 + 4) k (by omega)]; exact hw.2.2.1
      refine k_x k0 (by omega) (k_v ?_)
      rw [e32]
      refine k_c (e66 ht'.2 (by rw [List.length_append, List.length_append, List.length_singleton, List.length_singleton]; omega) (by omega) (by omega)) ?_
      intro r'' u hu
      rw [hu.1]
      refine k_z (by omega) (by omega) ?_
      have := ih j (k + 1) u (l ++ [s0.1 254 (10 + 3 * k)] ++ [s0.1 254 (11 + 3 * k)] ++ [s0.1 254 (12 + 3 * k) / 256] ++ [s0.1 254 (12 + 3 * k) % 256]) (by omega) (by omega) (by omega) (by simp only [List.length_append, List.length_singleton]; omega) (byt_app (byt_app (byt_app (byt_app hb (byt_one (by omega))) (byt_one (by omega))) (byt_one (by omega))) (byt_one (by omega))) hu.2
      have el : l ++ [s0.1 254 (10 + 3 * k)] ++ [s0.1 254 (11 + 3 * k)] ++ [s0.1 254 (12 + 3 * k) / 256] ++ [s0.1 254 (12 + 3 * k) % 256] ++ imW (fun i => s0.1 254 i) j (k + 1) = l ++ imW (fun i => s0.1 254 i) (j + 1) k := by
        show _ = l ++ ([s0.1 254 (10 + 3 * k), s0.1 254 (11 + 3 * k), s0.1 254 (12 + 3 * k) / 256, s0.1 254 (12 + 3 * k) % 256] ++ imW (fun i => s0.1 254 i) j (k + 1))
        simp only [List.append_assoc, List.cons_append, List.nil_append]
      rw [el] at this
      exact this
theorem p64_23 (hR : R n0 s0) : ∀ (n j : Nat) (k : Int) (s : zS) (l : List Int), k = s0.1 242 5 - (j : Int) → 0 ≤ k → j < n → l.length + j < 13 → (∀ x, x ∈ l → byt x) → cW s0 s l → Ok (m64_23 n 28 (s0.2.2 1) (l.length : Int) k s) (fun r t => r = ((l ++ imH (fun i => s0.1 254 i) j k ++ imW (fun i => s0.1 254 i) (s0.1 242 6).toNat 0 ++ imS (fun i => s0.1 254 i) (s0.1 254 28).toNat 0 ++ [imC (l ++ imH (fun i => s0.1 254 i) j k ++ imW (fun i => s0.1 254 i) (s0.1 242 6).toNat 0 ++ imS (fun i => s0.1 254 i) (s0.1 254 28).toNat 0)]).length : Int) ∧ cW s0 t (l ++ imH (fun i => s0.1 254 i) j k ++ imW (fun i => s0.1 254 i) (s0.1 242 6).toNat 0 ++ imS (fun i => s0.1 254 i) (s0.1 254 28).toNat 0 ++ [imC (l ++ imH (fun i => s0.1 254 i) j k ++ imW (fun i => s0.1 254 i) (s0.1 242 6).toNat 0 ++ imS (fun i => s0.1 254 i) (s0.1 254 28).toNat 0)])) := by
  obtain ⟨b1, b2, b3, b4, b5, b6, b7, b8, b9, b10⟩ := R_cnt hR
  have hLL := R_LL hR
  intro n
  induction n with
  | zero => intro j k s l _ _ h; omega
  | succ n ih =>
    intro j k s l hk k0 hj hl hb hW
    rw [m64_23]
    refine k_v ?_
    rw [hW.2.1 (s0.2.2 1 + 3) 0 (by omega), b4]
    cases j with
    | zero =>
      refine k_q (by omega) ?_
      show Ok _ (fun r t => r = ((l ++ [] ++ imW (fun i => s0.1 254 i) (s0.1 242 6).toNat 0 ++ imS (fun i => s0.1 254 i) (s0.1 254 28).toNat 0 ++ [imC (l ++ [] ++ imW (fun i => s0.1 254 i) (s0.1 242 6).toNat 0 ++ imS (fun i => s0.1 254 i) (s0.1 254 28).toNat 0)]).length : Int) ∧ cW s0 t (l ++ [] ++ imW (fun i => s0.1 254 i) (s0.1 242 6).toNat 0 ++ imS (fun i => s0.1 254 i) (s0.1 254 28).toNat 0 ++ [imC (l ++ [] ++ imW (fun i => s0.1 254 i) (s0.1 242 6).toNat 0 ++ imS (fun i => s0.1 254 i) (s0.1 254 28).toNat 0)]))
      rw [List.append_nil]
      exact p64_57 hR zFu (s0.1 242 6).toNat 0 s l (by omega) (by omega) (by unfold zFu; omega) (by omega) hb hW
    | succ j =>
      have e29 : s.1 (28 + 1) k = s0.1 254 (2 + k) := by rw [hW.2.1 (28 + 1) k (by omega)]; exact (R_now hR).1.2.2.1 k k0 (by omega)
      have hbk := R_hh hR k k0 (by omega)
      refine k_p (by omega) (k_x k0 (by omega) (k_v ?_))
      rw [e29]
      refine k_c (e65 hW (by omega)) ?_
      intro r t ht
      rw [ht.1]
      refine k_z (by omega) (by omega) ?_
      have := ih j (k + 1) t (l ++ [s0.1 254 (2 + k)]) (by omega) (by omega) (by omega) (by rw [List.length_append, List.length_singleton]; omega) (byt_app hb (byt_one (by omega))) ht.2
      rw [List.append_assoc l [s0.1 254 (2 + k)]] at this
      exact this
end
