/-! ===== a leg ===== -/
/-- the class's value of a land's formula -/
theorem cVal {b L : Nat} {w dflt d : Int} {s : zS} {pt : Int → Int} (hw : (w = 0 ∧ dflt = 10003 ∧ d = pt 0) ∨ (w = 1 ∧ dflt = 10002 ∧ d = pt 3)) (hc : rCode s.1 b w dflt) (hl : s.1 (L + 1) 0 ≤ 7) (d1 : L + 1 ≠ b + 2) (d2 : L + 8 ≠ b + 2) (d3 : 11 ≠ b + 2)
    (hp0 : pt 0 = s.1 11 3) (hp1 : pt 1 = s.1 11 4) (hp2 : pt 2 = s.1 11 5) (hp3 : pt 3 = s.1 11 2) (hp4 : pt 4 = s.1 11 6)
    (hp : ∀ q, 0 ≤ q → q ≤ 4 → inM (pt q)) : Ok (m20 b L s) (fun r t => r = fVal s.1 w d pt ∧ Fr (fun a _ => a = b + 2) s t) := by
  obtain ⟨h1, h2, h3⟩ := hc
  have hpt : ∀ q, 0 ≤ q → q ≤ 4 → s.1 11 (fIx q) = pt q := by
    intro q q1 q2
    have hq : q = 0 ∨ q = 1 ∨ q = 2 ∨ q = 3 ∨ q = 4 := by omega
    rcases hq with rfl | rfl | rfl | rfl | rfl
    · exact hp0.symm
    · exact hp1.symm
    · exact hp2.symm
    · exact hp3.symm
    · exact hp4.symm
  have hp' : ∀ q, 0 ≤ q → q ≤ 4 → inM (s.1 11 (fIx q)) := fun q q1 q2 => by rw [hpt q q1 q2]; exact hp q q1 q2
  have key : ∀ (N : Nat) (c : Int → Int), s.1 b 2 = (N : Int) → lWf c N → (∀ i : Nat, i < N → s.1 (b + 1) (i : Int) = cDec (c (i : Int))) → Ok (m20 b L s) (fun r t => r = (cRl pt (fun _ => -1) c N).headD 0 ∧ Fr (fun a _ => a = b + 2) s t) := by
    intro N c e hwf hcc
    have := c20_all (b := b) (L := L) (N := N) (s0 := s) (pt := fun q => s.1 11 (fIx q)) (c := c) e (by omega) hl d1 d2 d3 hcc (fun q _ _ => rfl) (fun x => rfl) (fun i hi => lWf_gd hwf hp' hi) (lWf_end hwf hp') zFu 0 s (by omega) (by unfold zFu; omega) fr_refl trivial
    unfold m20
    refine k_m this (fun r t q => ⟨?_, q.2⟩)
    rw [q.1, cRl_congr (pt' := pt) (fr' := fun _ => -1) hwf hpt N (by omega)]
  unfold fVal
  rcases h3 with h | h
  · rw [if_pos h.1]
    rcases hw with ⟨rfl, rfl, rfl⟩ | ⟨rfl, rfl, rfl⟩
    · have hwf : lWf (fun _ => 40) 1 := ⟨rfl, fun i hi => by
        have : i = 0 := by omega
        subst this
        exact Or.inl ⟨Or.inr ⟨by show (40 : Int) ≤ 40; omega, by show (40 : Int) ≤ 44; omega⟩, by show (0 : Int) ≤ 0; omega, by show (0 : Int) < 60; omega⟩⟩
      exact key 1 (fun _ => 40) (by rw [h.2.1]; rfl) hwf (fun i hi => by
        have : i = 0 := by omega
        subst this
        exact h.2.2)
    · have hwf : lWf (fun _ => 43) 1 := ⟨rfl, fun i hi => by
        have : i = 0 := by omega
        subst this
        exact Or.inl ⟨Or.inr ⟨by show (40 : Int) ≤ 43; omega, by show (43 : Int) ≤ 44; omega⟩, by show (0 : Int) ≤ 0; omega, by show (0 : Int) < 60; omega⟩⟩
      exact key 1 (fun _ => 43) (by rw [h.2.1]; rfl) hwf (fun i hi => by
        have : i = 0 := by omega
        subst this
        exact h.2.2)
  · obtain ⟨q1, q2, q3, q4, q5⟩ := h
    rw [if_neg (by omega), show s.1 250 (2 + w) - s.1 249 (2 + w) = s.1 b 2 by omega]
    exact key _ _ (by omega) q5 (fun i hi => q4 i (by omega) (by omega))
def tgt (f : Nat → Int → Int) (w p : Int) : Int := if f 246 (18 + 3 * w) - f 245 (24 + 3 * p) < 0 then -(f 246 (18 + 3 * w) - f 245 (24 + 3 * p)) else f 246 (18 + 3 * w) - f 245 (24 + 3 * p)
/-- where one comes: the step by the will, by the pull, where he is, the two sums -/
def lgTo (wt pt place pv sv : Int) : Int := if pt = -1 then (if wt = -1 then place else wt) else if wt = -1 ∨ wt = pt ∨ sv < pv then pt else wt
def lgHb (wt pt hb pv sv : Int) : Int := if pt = -1 then hb else if wt = -1 ∨ wt = pt ∨ sv < pv then (if hb < 9 then hb + 1 else 9) else (if 0 < hb then hb - 1 else 0)
def legPv (f : Nat → Int → Int) (w p hb wk will day : Int) : Int := fVal f 0 hb (lPt hb (tgt f w p) wk will day)
def legSv (f : Nat → Int → Int) (w p hb wk will day : Int) : Int := fVal f 1 will (lPt hb (tgt f w p) wk will day)
def legTo (f : Nat → Int → Int) (w p place hb wk will day : Int) : Int := lgTo (f 253 (7 * place + f 246 (20 + 3 * w))) (f 253 (7 * place + f 245 (25 + 3 * p))) place (legPv f w p hb wk will day) (legSv f w p hb wk will day)
def legHb (f : Nat → Int → Int) (w p place hb wk will day : Int) : Int := lgHb (f 253 (7 * place + f 246 (20 + 3 * w))) (f 253 (7 * place + f 245 (25 + 3 * p))) hb (legPv f w p hb wk will day) (legSv f w p hb wk will day)
/-- the reference's land -/
def mLand (f : Nat → Int → Int) : Prop := (0 ≤ f 242 4 ∧ f 242 4 ≤ 7 ∧ 0 ≤ f 242 6 ∧ f 242 6 ≤ 6 ∧ f 242 6 ≤ f 242 5 ∧ f 242 5 ≤ 8) ∧ (∀ p, 0 ≤ p → p < f 242 5 → 1 ≤ f 245 (24 + 3 * p) ∧ f 245 (24 + 3 * p) ≤ 50 ∧ 0 ≤ f 245 (25 + 3 * p) ∧ f 245 (25 + 3 * p) < f 242 4) ∧ (∀ w, 0 ≤ w → w < f 242 6 → 1 ≤ f 246 (18 + 3 * w) ∧ f 246 (18 + 3 * w) ≤ 50 ∧ 0 ≤ f 246 (19 + 3 * w) ∧ f 246 (19 + 3 * w) ≤ 99 ∧ 0 ≤ f 246 (20 + 3 * w) ∧ f 246 (20 + 3 * w) < f 242 4) ∧ (∀ a b, 0 ≤ a → a < f 242 4 → 0 ≤ b → b < f 242 4 → -1 ≤ f 253 (7 * a + b) ∧ f 253 (7 * a + b) < f 242 4 ∧ (a = b → f 253 (7 * a + b) = -1)) ∧ (1 ≤ f 248 4 ∧ f 248 4 ≤ 9) ∧ (0 ≤ f 248 5 ∧ f 248 5 ≤ 100) ∧ mCode f 0 ∧ mCode f 1
theorem mLand_of {f g : Nat → Int → Int} {L : Nat} (h : rLand f g L) : mLand f := by
  obtain ⟨⟨a1, a2, a3, a4, a5, a6, a7, a8, a9, a10⟩, h2, h3, h4, h5, h6, h7, h8, h9⟩ := h
  refine ⟨⟨a2, a3, a7, a8, a9, a5⟩, fun p q1 q2 => ?_, fun w q1 q2 => ?_, fun a b q1 q2 q3 q4 => ?_, by omega, by omega, ?_, ?_⟩
  · have := h3 p q1 q2; omega
  · have := h4 w q1 q2; omega
  · obtain ⟨_, _, _, _, z1, z2, z3⟩ := h5 a b q1 q2 q3 q4
    exact ⟨z1, z2, z3⟩
  · rcases h8 with ⟨z1, z2, z3⟩ | ⟨_, z⟩
    rotate_left
    · exact Or.inl z
    rcases z3 with z | ⟨y1, y2, y3, y4, y5⟩
    · exact Or.inl z.1
    · exact Or.inr ⟨y1, by omega, y3, by rw [show f 250 (2 + 0) - f 249 (2 + 0) = f (L + 17) 2 by omega]; exact y5⟩
  · rcases h9 with ⟨z1, z2, z3⟩ | ⟨_, z⟩
    rotate_left
    · exact Or.inl z
    rcases z3 with z | ⟨y1, y2, y3, y4, y5⟩
    · exact Or.inl z.1
    · exact Or.inr ⟨y1, by omega, y3, by rw [show f 250 (2 + 1) - f 249 (2 + 1) = f (L + 20) 2 by omega]; exact y5⟩
/-- the rows that tell the reference's land -/
def eqL (f g : Nat → Int → Int) : Prop := g 242 = f 242 ∧ g 245 = f 245 ∧ g 246 = f 246 ∧ g 248 = f 248 ∧ g 249 = f 249 ∧ g 250 = f 250 ∧ g 251 = f 251 ∧ g 253 = f 253
theorem mLand_eq {f g : Nat → Int → Int} (e : eqL f g) (h : mLand f) : mLand g := by
  obtain ⟨e1, e2, e3, e4, e5, e6, e7, e8⟩ := e
  unfold mLand mCode at h ⊢
  rw [e1, e2, e3, e4, e5, e6, e7, e8]
  exact h
theorem legTo_eq {f g : Nat → Int → Int} (e : eqL f g) (w p place hb wk will day : Int) : legTo g w p place hb wk will day = legTo f w p place hb wk will day := by
  obtain ⟨e1, e2, e3, e4, e5, e6, e7, e8⟩ := e
  unfold legTo legPv legSv fVal tgt
  rw [e2, e3, e5, e6, e7, e8]
theorem legHb_eq {f g : Nat → Int → Int} (e : eqL f g) (w p place hb wk will day : Int) : legHb g w p place hb wk will day = legHb f w p place hb wk will day := by
  obtain ⟨e1, e2, e3, e4, e5, e6, e7, e8⟩ := e
  unfold legHb legPv legSv fVal tgt
  rw [e2, e3, e5, e6, e7, e8]
theorem eqL_refl {f : Nat → Int → Int} : eqL f f := ⟨rfl, rfl, rfl, rfl, rfl, rfl, rfl, rfl⟩
theorem eqL_trans {f g h : Nat → Int → Int} (a : eqL f g) (b : eqL g h) : eqL f h := ⟨b.1.trans a.1, b.2.1.trans a.2.1, b.2.2.1.trans a.2.2.1, b.2.2.2.1.trans a.2.2.2.1, b.2.2.2.2.1.trans a.2.2.2.2.1, b.2.2.2.2.2.1.trans a.2.2.2.2.2.1, b.2.2.2.2.2.2.1.trans a.2.2.2.2.2.2.1, b.2.2.2.2.2.2.2.trans a.2.2.2.2.2.2.2⟩
theorem eqL_fr {A : Nat → Int → Prop} {s t : zS} (h : Fr A s t) (hA : ∀ a k, A a k → a ≠ 242 ∧ a ≠ 245 ∧ a ≠ 246 ∧ a ≠ 248 ∧ a ≠ 249 ∧ a ≠ 250 ∧ a ≠ 251 ∧ a ≠ 253) : eqL s.1 t.1 := by
  refine ⟨?_, ?_, ?_, ?_, ?_, ?_, ?_, ?_⟩ <;> funext k <;> refine h.1 _ k (fun q => ?_) <;> have := hA _ _ q <;> omega
theorem eqL_frj {A : Nat → Int → Prop} {s t : zS} (h : FrJ A s t) (hA : ∀ a k, A a k → a ≠ 242 ∧ a ≠ 245 ∧ a ≠ 246 ∧ a ≠ 248 ∧ a ≠ 249 ∧ a ≠ 250 ∧ a ≠ 251 ∧ a ≠ 253) : eqL s.1 t.1 := by
  refine ⟨?_, ?_, ?_, ?_, ?_, ?_, ?_, ?_⟩ <;> funext k <;> refine (h.1 _ k (fun q => ?_)).1 <;> have := hA _ _ q <;> omega
theorem e194 {w p : Int} {s : zS} (hL : mLand s.1) (h1 : 0 ≤ w) (h2 : w < s.1 242 6) (h3 : 0 ≤ p) (h4 : p < s.1 242 5) : m194 w p s = some (tgt s.1 w p, s) := by
  obtain ⟨⟨a1, a2, a3, a4, a5, a6⟩, b, c, _⟩ := hL
  have q1 := b p h3 h4
  have q2 := c w h1 h2
  unfold m194 tgt
  rw [oZ_pos (by omega) (by omega), oZ_pos (by omega) (by omega), oX_pos (by omega) (by omega), oV_eq, oZ_pos (by omega) (by omega), oZ_pos (by omega) (by omega), oX_pos (by omega) (by omega), oV_eq, oZ_pos (by omega) (by omega)]
  split
  · rw [oZ_pos (by omega) (by omega)]
  · rfl
theorem tgt_in {w p : Int} {f : Nat → Int → Int} (hL : mLand f) (h1 : 0 ≤ w) (h2 : w < f 242 6) (h3 : 0 ≤ p) (h4 : p < f 242 5) : 0 ≤ tgt f w p ∧ tgt f w p ≤ 50 := by
  obtain ⟨⟨a1, a2, a3, a4, a5, a6⟩, b, c, _⟩ := hL
  have q1 := b p h3 h4
  have q2 := c w h1 h2
  unfold tgt
  split <;> omega
theorem lPt_in {h t k w d : Int} (h1 : inM h) (h2 : inM t) (h3 : inM k) (h4 : inM w) (h5 : inM d) : ∀ q, 0 ≤ q → q ≤ 4 → inM (lPt h t k w d q) := by
  intro q _ _
  unfold lPt
  repeat' split
  all_goals assumption
abbrev gFr (a : Nat) (k : Int) : Prop := (a = 209 ∧ (k = 53 ∨ k = 58 ∨ k = 59 ∨ k = 60 ∨ k = 61 ∨ k = 62 ∨ k = 106)) ∨ a = 287
/-- the end of the reference's leg -/
theorem p198_167 {hb pt to : Int} {s : zS} (h0 : 0 ≤ hb) (h9 : hb ≤ 9) (e : s.1 209 62 = hb) : Ok (m198_167 hb pt to s) (fun r t => r = to ∧ t.1 209 62 = (if pt = -1 then hb else if to = pt then (if hb < 9 then hb + 1 else 9) else (if 0 < hb then hb - 1 else 0)) ∧ FrJ gFr s t) := by
  have f62 : ∀ v, FrJ gFr s (sI s 209 62 v) := fun v => frj_I (Or.inl ⟨rfl, by omega⟩)
  unfold m198_167
  refine k_i (fun c => ?_) (fun c => ?_)
  · rw [if_pos c]; exact k_r ⟨rfl, e, frj_refl⟩
  rw [if_neg c]
  refine k_i (fun c1 => ?_) (fun c1 => ?_)
  · rw [if_pos c1]
    refine k_i (fun c2 => ?_) (fun c2 => ?_)
    · rw [if_neg (by omega)]; exact k_v (k_r ⟨rfl, sI_e, f62 _⟩)
    · rw [if_pos (by omega)]; exact k_z (by omega) (by omega) (k_v (k_r ⟨rfl, sI_e, f62 _⟩))
  · rw [if_neg c1]
    refine k_i (fun c2 => ?_) (fun c2 => ?_)
    · rw [if_neg (by omega)]; exact k_v (k_r ⟨rfl, sI_e, f62 _⟩)
    · rw [if_pos (by omega)]; exact k_z (by omega) (by omega) (k_v (k_r ⟨rfl, sI_e, f62 _⟩))
/-- the reference's leg -/
theorem p198 {w p place hb wk will : Int} {s : zS} (hL : mLand s.1) (hw0 : 0 ≤ w) (hw1 : w < s.1 242 6) (hp0 : 0 ≤ p) (hp1 : p < s.1 242 5) (hl0 : 0 ≤ place) (hl1 : place < s.1 242 4) (hh0 : 0 ≤ hb) (hh1 : hb ≤ 9) (hk0 : 0 ≤ wk) (hk1 : wk ≤ 999) (hi0 : 0 ≤ will) (hi1 : will ≤ 99) (hd : inM (s.1 254 0)) :
    Ok (m198 w p place hb wk will s) (fun r t => r = legTo s.1 w p place hb wk will (s.1 254 0) ∧ t.1 209 62 = legHb s.1 w p place hb wk will (s.1 254 0) ∧ FrJ gFr s t) := by
  have hL0 := hL
  obtain ⟨⟨a1, a2, a3, a4, a5, a6⟩, b, c, d, _, _, k0, k1⟩ := hL
  have q1 := b p hp0 hp1
  have q2 := c w hw0 hw1
  have n1 := d place (s.1 246 (20 + 3 * w)) hl0 hl1 (by omega) (by omega)
  have n2 := d place (s.1 245 (25 + 3 * p)) hl0 hl1 (by omega) (by omega)
  unfold m198
  refine k_e (e191 hw0 (by omega)) ?_
  generalize hwt : s.1 253 (7 * place + s.1 246 (20 + 3 * w)) = wt at n1
  generalize hpt : s.1 253 (7 * place + s.1 245 (25 + 3 * p)) = pt at n2
  -- behind the two ways
  have tail : Ok (m198_66 w p place hb wk will wt pt s) (fun r t => r = legTo s.1 w p place hb wk will (s.1 254 0) ∧ t.1 209 62 = legHb s.1 w p place hb wk will (s.1 254 0) ∧ FrJ gFr s t) := by
    unfold legTo legHb
    rw [hwt, hpt]
    have f62 : FrJ gFr s (sI s 209 62 hb) := frj_I (Or.inl ⟨rfl, by omega⟩)
    have e88 : Ok (m198_88 w p hb wk will wt pt (sI s 209 62 hb)) (fun r t => (pt = -1 → wt ≠ -1) → r = lgTo wt pt place (legPv s.1 w p hb wk will (s.1 254 0)) (legSv s.1 w p hb wk will (s.1 254 0)) ∧ t.1 209 62 = lgHb wt pt hb (legPv s.1 w p hb wk will (s.1 254 0)) (legSv s.1 w p hb wk will (s.1 254 0)) ∧ FrJ gFr s t) := by
      unfold m198_88
      have f58 : FrJ gFr s (sI (sI s 209 62 hb) 209 58 hb) := frj_trans f62 (frj_I (Or.inl ⟨rfl, by omega⟩))
      have eq58 : eqL s.1 (sI (sI s 209 62 hb) 209 58 hb).1 := eqL_frj f58 (fun a k z => by omega)
      have t194 : m194 w p (sI (sI s 209 62 hb) 209 58 hb) = some (tgt s.1 w p, sI (sI s 209 62 hb) 209 58 hb) := by
        rw [e194 (mLand_eq eq58 hL0) hw0 (by rw [eq58.1]; exact hw1) hp0 (by rw [eq58.1]; exact hp1)]
        unfold tgt
        rw [eq58.2.1, eq58.2.2.1]
      refine k_v (k_e t194 (k_v (k_v (k_v ?_))))
      generalize hs7 : sI (sI (sI (sI (sI s 209 62 hb) 209 58 hb) 209 59 (tgt s.1 w p)) 209 60 wk) 209 61 will = s7
      have f7 : FrJ gFr s s7 := by
        rw [← hs7]
        exact frj_trans f58 (frj_trans (frj_I (Or.inl ⟨rfl, by omega⟩)) (frj_trans (frj_I (Or.inl ⟨rfl, by omega⟩)) (frj_I (Or.inl ⟨rfl, by omega⟩))))
      have v58 : s7.1 209 58 = hb := by rw [← hs7, sI_k (by omega), sI_k (by omega), sI_k (by omega), sI_e]
      have v59 : s7.1 209 59 = tgt s.1 w p := by rw [← hs7, sI_k (by omega), sI_k (by omega), sI_e]
      have v60 : s7.1 209 60 = wk := by rw [← hs7, sI_k (by omega), sI_e]
      have v61 : s7.1 209 61 = will := by rw [← hs7, sI_e]
      have v62 : s7.1 209 62 = hb := by rw [← hs7, sI_k (by omega), sI_k (by omega), sI_k (by omega), sI_k (by omega), sI_e]
      have v254 : s7.1 254 0 = s.1 254 0 := (f7.1 254 0 (by omega)).1
      have eq7 : eqL s.1 s7.1 := eqL_frj f7 (fun a k z => by omega)
      have tin := tgt_in hL0 hw0 hw1 hp0 hp1
      have pin := lPt_in (h := hb) (t := tgt s.1 w p) (k := wk) (w := will) (d := s.1 254 0) (by omega) (by omega) (by omega) (by omega) hd
      refine k_i (fun c0 => ?_) (fun c0 => ?_)
      · unfold m198_153
        refine k_p rfl ?_
        refine k_m (p198_167 hh0 hh1 v62) (fun r t q hne => ?_)
        obtain ⟨z1, z2, z3⟩ := q
        have := hne c0
        unfold lgTo lgHb
        rw [if_pos c0] at z2
        rw [if_pos c0, if_pos c0, if_neg this]
        exact ⟨z1, z2, frj_trans f7 z3⟩
      refine k_i (fun c1 => ?_) (fun c1 => ?_)
      · unfold m198_153
        refine k_q (by decide) ?_
        refine k_m (p198_167 hh0 hh1 v62) (fun r t q _ => ?_)
        obtain ⟨z1, z2, z3⟩ := q
        unfold lgTo lgHb
        rw [if_neg c0, if_pos rfl] at z2
        rw [if_neg c0, if_neg c0, if_pos (Or.inl c1), if_pos (Or.inl c1)]
        exact ⟨z1, z2, frj_trans f7 z3⟩
      have k0' : mCode s7.1 0 := (mLand_eq eq7 hL0).2.2.2.2.2.2.1
      have k1' : mCode s7.1 1 := (mLand_eq eq7 hL0).2.2.2.2.2.2.2
      refine k_c (v197 (w := 0) (d := hb) (pt := lPt hb (tgt s.1 w p) wk will (s.1 254 0)) (by omega) (by omega) k0' v58.symm v59.symm v60.symm v61.symm v254.symm pin) ?_
      intro r1 t1 hv1
      have g1 : ∀ (a : Nat) (k : Int), a ≠ 287 → ¬ (a = 209 ∧ (k = 53 ∨ k = 106)) → t1.1 a k = s7.1 a k := fun a k n1 n2 => (hv1.2.1 a k (by omega)).1
      have eq1 : eqL s7.1 t1.1 := eqL_frj hv1.2 (fun a k z => by omega)
      refine k_c (v197 (w := 1) (d := will) (pt := lPt hb (tgt s.1 w p) wk will (s.1 254 0)) (by omega) (by omega) (mLand_eq eq1 (mLand_eq eq7 hL0)).2.2.2.2.2.2.2 (by rw [g1 209 58 (by omega) (by omega)]; exact v58.symm) (by rw [g1 209 59 (by omega) (by omega)]; exact v59.symm) (by rw [g1 209 60 (by omega) (by omega)]; exact v60.symm) (by rw [g1 209 61 (by omega) (by omega)]; exact v61.symm) (by rw [g1 254 0 (by omega) (by omega)]; exact v254.symm) pin) ?_
      intro r2 t2 hv2
      have f2 : FrJ gFr s t2 := frj_trans f7 (frj_trans (frj_mono (fun a k z => by omega) hv1.2) (frj_mono (fun a k z => by omega) hv2.2))
      have w62 : t2.1 209 62 = hb := by rw [(hv2.2.1 209 62 (by omega)).1, g1 209 62 (by omega) (by omega)]; exact v62
      have er1 : r1 = legPv s.1 w p hb wk will (s.1 254 0) := by
        rw [hv1.1]
        unfold legPv fVal
        rw [eq7.2.2.2.2.1, eq7.2.2.2.2.2.1, eq7.2.2.2.2.2.2.1]
      have er2 : r2 = legSv s.1 w p hb wk will (s.1 254 0) := by
        have eq2 := eqL_trans eq7 eq1
        rw [hv2.1]
        unfold legSv fVal
        rw [eq2.2.2.2.2.1, eq2.2.2.2.2.2.1, eq2.2.2.2.2.2.2.1]
      rw [← er1, ← er2]
      refine k_v (k_i (fun c2 => ?_) (fun c2 => ?_))
      · rw [zcmp_gt] at c2
        unfold m198_153
        refine k_q (by decide) ?_
        refine k_m (p198_167 hh0 hh1 w62) (fun r t q _ => ?_)
        obtain ⟨z1, z2, z3⟩ := q
        unfold lgTo lgHb
        rw [if_neg c0, if_pos rfl] at z2
        rw [if_neg c0, if_neg c0, if_pos (Or.inr (Or.inr c2)), if_pos (Or.inr (Or.inr c2))]
        exact ⟨z1, z2, frj_trans f2 z3⟩
      · rw [zcmp_gt] at c2
        unfold m198_153
        refine k_p rfl ?_
        refine k_m (p198_167 hh0 hh1 w62) (fun r t q _ => ?_)
        obtain ⟨z1, z2, z3⟩ := q
        unfold lgTo lgHb
        rw [if_neg c0] at z2
        rw [if_neg c0, if_neg c0]
        by_cases c3 : wt = pt
        · rw [if_pos (Or.inr (Or.inl c3)), if_pos (Or.inr (Or.inl c3))]
          rw [if_pos c3] at z2
          exact ⟨z1.trans c3, z2, frj_trans f2 z3⟩
        · rw [if_neg (by omega), if_neg (by omega)]
          rw [if_neg c3] at z2
          exact ⟨z1, z2, frj_trans f2 z3⟩
    unfold m198_66
    refine k_v (k_i (fun c0 => k_i (fun c1 => ?_) (fun c1 => ?_)) (fun c0 => ?_))
    · unfold lgTo lgHb
      rw [if_pos c1, if_pos c1, if_pos c0]
      exact k_r ⟨rfl, sI_e, f62⟩
    · exact k_m e88 (fun r t q => q (fun z => absurd z c1))
    · exact k_m e88 (fun r t q => q (fun _ => c0))
  have t29 : Ok (m198_29 w p place hb wk will wt s) (fun r t => r = legTo s.1 w p place hb wk will (s.1 254 0) ∧ t.1 209 62 = legHb s.1 w p place hb wk will (s.1 254 0) ∧ FrJ gFr s t) := by
    unfold m198_29
    refine k_z (by omega) (by omega) (k_z (by omega) (by omega) (k_x (by omega) (by omega) (k_v ?_)))
    refine k_i (fun c0 => ?_) (fun c0 => ?_)
    · have : pt = -1 := n2.2.2 c0
      rw [this] at tail
      exact tail
    · refine k_z (by omega) (by omega) (k_z (by omega) (by omega) (k_x (by omega) (by omega) (k_v ?_)))
      rw [hpt]
      exact tail
  refine k_i (fun c0 => ?_) (fun c0 => ?_)
  · have : wt = -1 := n1.2.2 c0
    rw [this] at t29
    exact t29
  · refine k_z (by omega) (by omega) (k_z (by omega) (by omega) (k_x (by omega) (by omega) (k_v ?_)))
    rw [hwt]
    exact t29
