/-! ===== the reference tells a land: its steps ===== -/
/-- what the telling changes in the reference -/
def rlF (a : Nat) (k : Int) : Prop := (a = 209 ∧ (k = 2 ∨ k = 4 ∨ k = 5 ∨ k = 6 ∨ k = 40 ∨ k = 51 ∨ k = 52 ∨ k = 53 ∨ k = 100 ∨ k = 102 ∨ k = 103 ∨ k = 104)) ∨ a = 285 ∨ a = 286 ∨ (a = 242 ∧ k < 4) ∨ (a = 243 ∧ k < 24) ∨ (a = 244 ∧ k < 49) ∨ (a = 245 ∧ k < 24) ∨ (a = 246 ∧ k < 18) ∨ a = 247 ∨ (a = 248 ∧ k < 3) ∨ (a = 249 ∧ k < 2) ∨ (a = 250 ∧ k < 2) ∨ (a = 251 ∧ k < 1600)
abbrev sA (a : Nat) (k : Int) : Prop := (a = 209 ∧ (k = 2 ∨ k = 4 ∨ k = 5 ∨ k = 6 ∨ k = 40 ∨ k = 53 ∨ k = 100 ∨ k = 102 ∨ k = 103 ∨ k = 104)) ∨ a = 285 ∨ a = 286
theorem rlF_A (a : Nat) (k : Int) (h : sA a k) : rlF a k := by
  rcases h with ⟨h1, h2⟩ | h | h
  · rcases h2 with rfl | rfl | rfl | rfl | rfl | rfl | rfl | rfl | rfl | rfl <;> exact Or.inl ⟨h1, by decide⟩
  · exact Or.inr (Or.inl h)
  · exact Or.inr (Or.inr (Or.inl h))
/-- the land that is told, in the reference's rows -/
def rDc (D : dL) (c : Int → Int) : Prop := ∀ k, 0 ≤ k → k < 4 → c k = D.1 0 k
def rDn (D : dL) (c : Int → Int) : Prop := ∀ d i, 0 ≤ d → d < 3 → 0 ≤ i → i < D.1 0 d → c (8 * d + i) = D.1 1 (8 * d + i)
def rDr (D : dL) (c : Int → Int) : Prop := ∀ k, 0 ≤ k → k < 49 → c k = D.1 2 k
def rDp (D : dL) (c : Int → Int) : Prop := ∀ p, 0 ≤ p → p < D.1 0 1 → c (3 * p) = D.1 3 (3 * p) ∧ c (3 * p + 1) = D.1 3 (3 * p + 1) ∧ c (3 * p + 2) = D.1 3 (3 * p + 2)
def rDw (D : dL) (c c' : Int → Int) : Prop := ∀ w, 0 ≤ w → w < D.1 0 2 → c (3 * w) = D.1 4 (3 * w) ∧ c (3 * w + 1) = D.1 4 (3 * w + 1) ∧ c (3 * w + 2) = D.1 4 (3 * w + 2) ∧ c' w = D.1 5 w
def rDs (D : dL) (c : Int → Int) : Prop := c 0 = D.1 6 0 ∧ c 1 = D.1 6 1 ∧ c 2 = D.1 6 2
def rFm (x : Int) (l : List Int) (c c' c'' : Int → Int) (n : Int) : Prop := (l = [] ∧ c x = -1) ∨ (l ≠ [] ∧ 0 ≤ c x ∧ c' x = c x + (l.length : Int) ∧ c' x ≤ n ∧ ∀ i : Nat, i < l.length → c'' (c x + (i : Int)) = l.getD i 0)
def rD (D : dL) (s : zS) : Prop := (rDc D (s.1 242) ∧ rDn D (s.2.1 243)) ∧ rDr D (s.1 244) ∧ rDp D (s.1 245) ∧ rDw D (s.1 246) (s.1 247) ∧ rDs D (s.1 248) ∧ (rFm 0 D.2.1 (s.1 249) (s.1 250) (s.1 251) (s.1 209 51) ∧ rFm 1 D.2.2.1 (s.1 249) (s.1 250) (s.1 251) (s.1 209 51)) ∧ s.1 209 51 = dLn D ∧ s.1 209 52 = D.2.2.2
theorem rD_fr {D : dL} {s t : zS} {A : Nat → Int → Prop} (hA : ∀ a k, A a k → ¬ (a = 209 ∧ (k = 51 ∨ k = 52)) ∧ ¬ (242 ≤ a ∧ a ≤ 251)) (hf : FrJ A s t) (h : rD D s) : rD D t := by
  have e : ∀ a, 242 ≤ a → a ≤ 251 → t.1 a = s.1 a ∧ t.2.1 a = s.2.1 a := fun a a0 a1 => ⟨funext fun k => (hf.1 a k (fun z => (hA a k z).2 ⟨a0, a1⟩)).1, funext fun k => (hf.1 a k (fun z => (hA a k z).2 ⟨a0, a1⟩)).2⟩
  have e1 : t.1 209 51 = s.1 209 51 := (hf.1 209 51 (fun z => (hA _ _ z).1 ⟨rfl, Or.inl rfl⟩)).1
  have e2 : t.1 209 52 = s.1 209 52 := (hf.1 209 52 (fun z => (hA _ _ z).1 ⟨rfl, Or.inr rfl⟩)).1
  unfold rD
  rw [(e 242 (by omega) (by omega)).1, (e 243 (by omega) (by omega)).2, (e 244 (by omega) (by omega)).1, (e 245 (by omega) (by omega)).1, (e 246 (by omega) (by omega)).1, (e 247 (by omega) (by omega)).1, (e 248 (by omega) (by omega)).1, (e 249 (by omega) (by omega)).1, (e 250 (by omega) (by omega)).1, (e 251 (by omega) (by omega)).1, e1, e2]
  exact h
/-- what a land that is being told keeps to -/
def dOk (D : dL) : Prop := dInv D ∧ 0 ≤ D.2.2.2 ∧ D.2.2.2 ≤ 80
/-- all is well so far -/
def gS (g : Int → Int) (e : Int) (D : dL) (F E : Int) (s0 s : zS) : Prop := nN g e F E s ∧ rD D s ∧ FrJ rlF s0 s
/-- a fault is noted -/
def bS (s0 : zS) (q : Int × Int) (s : zS) : Prop := (q.1 ≠ 0 ∧ s.1 209 5 = q.1 ∧ s.1 209 6 = q.2 ∧ FrJ rlF s0 s) ∧ (0 ≤ s.1 242 0 ∧ s.1 242 0 ≤ 7) ∧ (0 ≤ s.1 242 1 ∧ s.1 242 1 ≤ 8) ∧ (0 ≤ s.1 242 2 ∧ s.1 242 2 ≤ 6) ∧ 0 ≤ s.1 209 52 ∧ s.1 209 52 ≤ 80
def rK (g : Int → Int) (e : Int) (s0 : zS) (x : dR) (_ : Int) (t : zS) : Prop := match x with
  | .inl q => bS s0 q t
  | .inr q => gS g e q.1 q.2.1 q.2.2 s0 t
section
variable {g : Int → Int} {e F E p : Int} {D : dL} {s s0 t : zS} {q : Int × Int}
theorem gS_fr {F' E' : Int} (h : gS g e D F E s0 s) (hn : nN g e F' E' t) (hf : Fr sA s t) : gS g e D F' E' s0 t :=
  ⟨hn, rD_fr (A := sA) (fun a k z => by omega) (frj_of hf) h.2.1, frj_trans h.2.2 (frj_of (fr_mono rlF_A hf))⟩
theorem bS_of {w p : Int} (hD : dOk D) (h : gS g e D F E s0 s) (hw : w ≠ 0) (h5 : t.1 209 5 = w) (h6 : t.1 209 6 = p) (hf : Fr sA s t) : bS s0 (w, p) t := by
  have hr := rD_fr (A := sA) (fun a k z => by omega) (frj_of hf) h.2.1
  obtain ⟨⟨⟨i1, i2, i3, i4⟩, _⟩, c0, c1⟩ := hD
  have r0 := hr.1.1 0 (by omega) (by omega)
  have r1 := hr.1.1 1 (by omega) (by omega)
  have r2 := hr.1.1 2 (by omega) (by omega)
  have r3 := hr.2.2.2.2.2.2.2
  refine ⟨⟨hw, h5, h6, frj_trans h.2.2 (frj_of (fr_mono rlF_A hf))⟩, ?_, ?_, ?_, ?_⟩
  · rw [r0]; exact i1
  · rw [r1]; exact i2
  · rw [r2]; exact i3
  · rw [r3]; exact ⟨c0, c1⟩
theorem bS_5 (h : bS s0 q s) : s.1 209 5 ≠ 0 := by rw [h.1.2.1]; exact h.1.1
theorem gS_5 (h : gS g e D F E s0 s) : s.1 209 5 = 0 := h.1.2.1.2.1
/-- what is passed over once a fault is noted -/
theorem u159 {m a : Nat} (h : s.1 209 5 ≠ 0) : m159 m a s = some (0, s) := by unfold m159; rw [oV_eq, if_neg h]
theorem u161 {c : Int} (h : s.1 209 5 ≠ 0) : m161 c s = some (0, s) := by unfold m161; rw [oV_eq, if_neg h]
theorem u162 {lo hi : Int} (h : s.1 209 5 ≠ 0) : m162 lo hi s = some (0, s) := by unfold m162; rw [oV_eq, if_neg h]
theorem u164 (h : s.1 209 5 ≠ 0) : m164 s = some (0, s) := by unfold m164; rw [oV_eq, if_neg h]
theorem u153 {w p : Int} (h : s.1 209 5 ≠ 0) : m153 w p s = some (0, s) := by unfold m153; rw [oV_eq, if_neg h]
theorem e167_3 {d v : Int} (d0 : 0 ≤ d) (d1 : d < 3) (c8 : s.1 242 d ≤ 8) : ∀ (n j : Nat) (i : Int), i = s.1 242 d - (j : Int) → 0 ≤ i → j < n → m167_3 n d v i s = some (fnd (fun i => s.2.1 243 (8 * d + i)) v j i, s) := by
  intro n
  induction n with
  | zero => intro j i _ _ h; omega
  | succ n ih =>
    intro j i hi i0 hj
    rw [m167_3, oX_pos (by omega) (by omega), oV_eq]
    cases j with
    | zero => rw [if_neg (by omega)]; rfl
    | succ j =>
      rw [if_pos (by omega), oZ_pos (by omega) (by omega), oZ_pos (by omega) (by omega), oX_pos (by omega) (by omega), oV_eq, oV_eq]
      show _ = some (if s.2.1 243 (8 * d + i) = v then i else fnd (fun i => s.2.1 243 (8 * d + i)) v j (i + 1), s)
      by_cases c : s.2.1 243 (8 * d + i) = v
      · rw [if_pos c, if_pos (by rw [c]; unfold zCmp; rw [if_neg (by omega), if_pos rfl])]
      · rw [if_neg c, if_neg (by unfold zCmp; by_cases z : v < s.2.1 243 (8 * d + i); rw [if_pos z]; decide; rw [if_neg z, if_neg c]; decide), oZ_pos (by omega) (by omega), ih j (i + 1) (by omega) (by omega) (by omega)]
theorem e167 {d v : Int} (d0 : 0 ≤ d) (d1 : d < 3) (c0 : 0 ≤ s.1 242 d) (c8 : s.1 242 d ≤ 8) : m167 d v s = some (fnd (fun i => s.2.1 243 (8 * d + i)) v (s.1 242 d).toNat 0, s) := by
  unfold m167
  exact e167_3 d0 d1 c8 zFu (s.1 242 d).toNat 0 (by omega) (by omega) (by unfold zFu; omega)
/-- what is told is found -/
theorem e167g {d v : Int} (hD : dOk D) (h : rD D s) (d0 : 0 ≤ d) (d1 : d < 3) : m167 d v s = some (dF D d v, s) := by
  obtain ⟨⟨⟨i1, i2, i3, i4⟩, _⟩, _⟩ := hD
  have hd : 0 ≤ D.1 0 d ∧ D.1 0 d ≤ 8 := by
    have : d = 0 ∨ d = 1 ∨ d = 2 := by omega
    rcases this with rfl | rfl | rfl <;> omega
  have hc := h.1.1 d d0 (by omega)
  rw [e167 d0 d1 (by omega) (by omega), hc]
  unfold dF
  rw [fnd_congr (g' := fun i => D.1 1 (8 * d + i)) _ _ (fun w w0 w1 => h.1.2 d w d0 d1 w0 (by omega))]
theorem u169 {d : Int} (h : bS s0 q s) (hd : d = 0 ∨ d = 1) : m169 d s = some (0, s) := by
  have h5 := bS_5 h
  have hc : 0 ≤ s.1 242 d ∧ s.1 242 d ≤ 8 := by
    obtain ⟨_, c0, c1, _⟩ := h
    rcases hd with rfl | rfl <;> omega
  unfold m169
  rw [u164 h5, oC_some, e167 (by omega) (by omega) hc.1 hc.2, oC_some, oV_eq, if_neg h5]
  unfold m169_35
  rw [oV_eq, if_neg h5]
theorem u168_7 {x : Int} (h : s.1 209 5 ≠ 0) : ∀ (n j : Nat) (d : Int), d = 3 - (j : Int) → 0 ≤ d → j < n → m168_7 n x d s = some (x, s) := by
  intro n
  induction n with
  | zero => intro j d _ _ h; omega
  | succ n ih =>
    intro j d hd d0 hj
    rw [m168_7]
    cases j with
    | zero => rw [if_neg (by omega)]
    | succ j => rw [if_pos (by omega), oV_eq, if_neg h, oZ_pos (by omega) (by omega), ih j (d + 1) (by omega) (by omega) (by omega)]
theorem u168 (h : s.1 209 5 ≠ 0) : m168 s = some (0, s) := by
  unfold m168
  rw [u164 h, oC_some, u168_7 h zFu 3 0 (by omega) (by omega) (by unfold zFu; omega)]
theorem lxNum_nz {lo hi : Int} (h : lxNum g e F E lo hi = .inl q) : q.1 ≠ 0 := by
  by_cases c2 : tkK g e F E = 2
  · by_cases c4 : 4 < tkB g e F - F
    · rw [lxNum_4 c2 c4] at h; cases h; show (1 : Int) ≠ 0; decide
    · by_cases cv : lxV g F (tkB g e F - F).toNat < lo ∨ hi < lxV g F (tkB g e F - F).toNat
      · rw [lxNum_v c2 c4 cv] at h; cases h; show (2 : Int) ≠ 0; decide
      · rw [lxNum_n c2 c4 cv] at h; cases h
  · rw [lxNum_1 c2] at h; cases h; show (1 : Int) ≠ 0; decide
theorem lxNm_nz (h : lxNm g e F E = .inl q) : q.1 ≠ 0 := by
  by_cases c : tkK g e F E = 1 ∧ ¬ isOwn g e F E = true
  · by_cases c6 : 6 < tkB g e F - F
    · rw [lxNm_6 c c6] at h; cases h; show (1 : Int) ≠ 0; decide
    · rw [lxNm_n c c6] at h; cases h
  · rw [lxNm_1 c] at h; cases h; show (1 : Int) ≠ 0; decide
/-- a word that must stand here -/
theorem r_word {P : dR → Int → zS → Prop} {K : Int → zS → Option (Int × zS)} {k' : Int → Int → dR} {m a : Nat} {l : List Int} (ht : tOk g e) (hD : dOk D) (h : gS g e D F E s0 s) (hk : (a, l) ∈ wTab) (hm : m = l.length) (hl : m ≤ 10) (hK : ∀ r t, gS g e D (nxF g e F) (nxE g e F E) s0 t → lxW g e (nxF g e F) (nxE g e F E) → t.1 209 40 = s.1 209 40 → Ok (K r t) (P (k' (nxF g e F) (nxE g e F E)))) (hB : ∀ q r t, bS s0 q t → Ok (K r t) (P (.inl q))) : Ok (oC (m159 m a s) K) (P (tW g e l F E k')) := by
  unfold tW
  by_cases c : isW g e F E l = true
  · rw [if_pos c]
    refine k_c (nN_asks ht h.1 hk hm hl c) ?_
    rintro r t ⟨t1, t2⟩
    exact hK r t (gS_fr h t1 (fr_mono (fun a k z => by omega) t2)) t1.1 (t2.1 209 40 (by omega))
  · rw [if_neg c]
    rw [Bool.not_eq_true] at c
    refine k_c (p159f ht h.1.1 h.1.2.1 hm (by omega) (h.1.2.2.1 _ hk) (by have := wTab_at _ hk; omega) c) ?_
    rintro r t ⟨t5, t6, t3⟩
    exact hB (1, F) r t (bS_of hD h (by decide) t5 t6 (fr_mono (fun a k z => by omega) t3))
/-- a number that must stand here -/
theorem r_num {P : dR → Int → zS → Prop} {K : Int → zS → Option (Int × zS)} {k' : Int → Int → Int → dR} {lo hi : Int} (ht : tOk g e) (hD : dOk D) (h : gS g e D F E s0 s) (hK : ∀ (y : Int × Int × Int) (t : zS), lo ≤ y.1 → y.1 ≤ hi → gS g e D y.2.1 y.2.2 s0 t → t.1 209 40 = s.1 209 40 → Ok (K y.1 t) (P (k' y.1 y.2.1 y.2.2))) (hB : ∀ q r t, bS s0 q t → Ok (K r t) (P (.inl q))) : Ok (oC (m162 lo hi s) K) (P (tN g e lo hi F E k')) := by
  unfold tN
  refine k_c (p162 ht h.1.1 h.1.2.1) ?_
  intro r t hr
  rcases hz : lxNum g e F E lo hi with q | q
  · rw [hz] at hr
    obtain ⟨t5, t6, t3, _⟩ := hr
    exact hB q r t (bS_of hD h (lxNum_nz hz) t5 t6 (fr_mono (fun a k z => by omega) t3))
  · rw [hz] at hr
    obtain ⟨rfl, t1, t2, t3⟩ := hr
    have hi' := lxNum_in h.1.1 hz
    exact hK q t hi'.1 hi'.2.1 (gS_fr h (nN_fr (A := yF) (fun a k z => by omega) h.1 t1 t2 (frj_of t3)) (fr_mono (fun a k z => by omega) t3)) (t3.1 209 40 (by omega))
/-- a name that is told -/
theorem r_one {K : Int → zS → Option (Int × zS)} {k' : Int → Int → Int → dR} {d : Int} (ht : tOk g e) (hD : dOk D) (hd : d = 0 ∨ d = 1) (h : gS g e D F E s0 s) (hK : ∀ (i F2 E2 : Int) (t : zS), 0 ≤ i → i < D.1 0 d → gS g e D F2 E2 s0 t → t.1 209 40 = F → Ok (K i t) (rK g e s0 (k' i F2 E2))) (hB : ∀ q r t, bS s0 q t → Ok (K r t) (rK g e s0 (.inl q))) : Ok (oC (m169 d s) K) (rK g e s0 (tOne g e D d F E k')) := by
  refine k_c (Q := fun r t => Ok (K r t) (rK g e s0 (tOne g e D d F E k'))) ?_ (fun r t q => q)
  unfold m169
  refine k_c (p164 ht h.1) ?_
  intro r t hr
  unfold tOne
  rcases hz : lxNm g e F E with q | q
  · rw [hz] at hr
    obtain ⟨rfl, t5, t6, t3⟩ := hr
    have hb := bS_of hD h (lxNm_nz hz) t5 t6 (fr_mono (fun a k z => by omega) t3)
    have h5 := bS_5 hb
    have hc : 0 ≤ t.1 242 d ∧ t.1 242 d ≤ 8 := by
      obtain ⟨_, c0, c1, _⟩ := hb
      rcases hd with rfl | rfl <;> omega
    refine k_e (e167 (by omega) (by omega) hc.1 hc.2) (k_v (k_q h5 ?_))
    unfold m169_35
    exact k_v (k_q h5 (k_r (hB q _ t hb)))
  · rw [hz] at hr
    obtain ⟨rfl, t1, t40, t3⟩ := hr
    have gt := gS_fr h t1 (fr_mono (fun a k z => by omega) t3)
    refine k_e (e167g hD gt.2.1 (by omega) (by omega)) (k_v ?_)
    rw [gS_5 gt]
    refine k_p rfl ?_
    by_cases c : dF D d q.1 = -1
    · refine k_p c (k_v (k_c (p153 (gS_5 gt)) ?_))
      rintro _ u ⟨u5, u6, u3⟩
      have hb : bS s0 (3, F) u := bS_of hD gt (by decide) u5 (by rw [u6, t40]) (fr_mono (fun a k z => by omega) u3)
      unfold m169_35
      refine k_v (k_q (bS_5 hb) (k_r ?_))
      show Ok _ (rK g e s0 (if dF D d q.1 = -1 then .inl (3, F) else k' (dF D d q.1) q.2.1 q.2.2))
      rw [if_pos c]
      exact hB (3, F) _ u hb
    · refine k_q c ?_
      unfold m169_35
      refine k_v (k_p (gS_5 gt) (k_r ?_))
      show Ok _ (rK g e s0 (if dF D d q.1 = -1 then .inl (3, F) else k' (dF D d q.1) q.2.1 q.2.2))
      rw [if_neg c]
      have hcn : 0 ≤ D.1 0 d := by
        obtain ⟨⟨⟨i1, i2, i3, i4⟩, _⟩, _⟩ := hD
        rcases hd with rfl | rfl <;> omega
      have hi := (dF_in (D := D) d q.1 hcn).resolve_left c
      exact hK _ _ _ t hi.1 hi.2 gt t40
theorem p168_7 {v : Int} (hD : dOk D) (h : gS g e D F E s0 s) (h40 : s.1 209 40 = p) : ∀ (n j : Nat) (d : Int), d = 3 - (j : Int) → 0 ≤ d → j < n → Ok (m168_7 n v d s) (fun r t => r = v ∧ (((∀ d', d ≤ d' → d' < 3 → dF D d' v = -1) ∧ t = s) ∨ ((∃ d', d ≤ d' ∧ d' < 3 ∧ dF D d' v ≠ -1) ∧ bS s0 (3, p) t))) := by
  intro n
  induction n with
  | zero => intro j d _ _ h; omega
  | succ n ih =>
    intro j d hd d0 hj
    rw [m168_7]
    cases j with
    | zero => exact k_q (by omega) (k_r ⟨rfl, Or.inl ⟨fun d' a b => by omega, rfl⟩⟩)
    | succ j =>
      refine k_p (by omega) (k_v ?_)
      rw [gS_5 h]
      refine k_p rfl (k_e (e167g hD h.2.1 d0 (by omega)) ?_)
      by_cases c : dF D d v = -1
      · refine k_p c (k_z (by omega) (by omega) (k_m (ih j (d + 1) (by omega) (by omega) (by omega)) ?_))
        rintro r t ⟨r1, r2⟩
        refine ⟨r1, ?_⟩
        rcases r2 with ⟨a, b⟩ | ⟨⟨d', a, b, x⟩, y⟩
        · refine Or.inl ⟨fun d' x y => ?_, b⟩
          by_cases z : d' = d
          · rw [z]; exact c
          · exact a d' (by omega) y
        · exact Or.inr ⟨⟨d', by omega, b, x⟩, y⟩
      · refine k_q c (k_v (k_c (p153 (gS_5 h)) ?_))
        rintro _ u ⟨u5, u6, u3⟩
        have hb : bS s0 (3, p) u := bS_of hD h (by decide) u5 (by rw [u6, h40]) (fr_mono (fun a k z => by omega) u3)
        refine k_z (by omega) (by omega) (k_eq (u168_7 (bS_5 hb) n j (d + 1) (by omega) (by omega) (by omega)) ⟨rfl, Or.inr ⟨⟨d, by omega, by omega, c⟩, hb⟩⟩)
/-- a new name -/
theorem r_new {K : Int → zS → Option (Int × zS)} {k' : Int → Int → Int → dR} (ht : tOk g e) (hD : dOk D) (h : gS g e D F E s0 s) (hK : ∀ (v F2 E2 : Int) (t : zS), gS g e D F2 E2 s0 t → Ok (K v t) (rK g e s0 (k' v F2 E2))) (hB : ∀ q r t, bS s0 q t → Ok (K r t) (rK g e s0 (.inl q))) : Ok (oC (m168 s) K) (rK g e s0 (tNew g e D F E k')) := by
  refine k_c (Q := fun r t => Ok (K r t) (rK g e s0 (tNew g e D F E k'))) ?_ (fun r t q => q)
  unfold m168
  refine k_c (p164 ht h.1) ?_
  intro r t hr
  unfold tNew
  rcases hz : lxNm g e F E with q | q
  · rw [hz] at hr
    obtain ⟨rfl, t5, t6, t3⟩ := hr
    have hb := bS_of hD h (lxNm_nz hz) t5 t6 (fr_mono (fun a k z => by omega) t3)
    exact k_eq (u168_7 (bS_5 hb) zFu 3 0 (by omega) (by omega) (by unfold zFu; omega)) (hB q _ t hb)
  · rw [hz] at hr
    obtain ⟨rfl, t1, t40, t3⟩ := hr
    have gt := gS_fr h t1 (fr_mono (fun a k z => by omega) t3)
    refine k_m (p168_7 hD gt t40 zFu 3 0 (by omega) (by omega) (by unfold zFu; omega)) ?_
    rintro r u ⟨rfl, hu⟩
    show Ok _ (rK g e s0 (if dF D 0 q.1 ≠ -1 ∨ dF D 1 q.1 ≠ -1 ∨ dF D 2 q.1 ≠ -1 then .inl (3, F) else k' q.1 q.2.1 q.2.2))
    rcases hu with ⟨a, rfl⟩ | ⟨⟨d', a, b, x⟩, y⟩
    · rw [if_neg (fun z => by
        rcases z with z | z | z
        · exact z (a 0 (by omega) (by omega))
        · exact z (a 1 (by omega) (by omega))
        · exact z (a 2 (by omega) (by omega)))]
      exact hK _ _ _ _ gt
    · have : d' = 0 ∨ d' = 1 ∨ d' = 2 := by omega
      rw [if_pos (by
        rcases this with rfl | rfl | rfl
        · exact Or.inl x
        · exact Or.inr (Or.inl x)
        · exact Or.inr (Or.inr x))]
      exact hB (3, F) _ u y
end
