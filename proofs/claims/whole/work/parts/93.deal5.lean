/-! ===== deal: the reference's best, both together ===== -/
theorem dlS_0 {g : Int → Int} : ∀ n : Nat, (∀ w, 0 ≤ w → w < (n : Int) → g w = 0) → dlS g n = 0 := by
  intro n
  induction n with
  | zero => intro _; rfl
  | succ n ih =>
    intro h
    show dlS g n + g (n : Int) = 0
    rw [ih (fun w w0 w1 => h w w0 (by omega)), h (n : Int) (by omega) (by omega)]
    rfl
theorem rTri {c : Int} (c0 : 0 ≤ c) (r r' : Int → Int) : rAg c r r' ∨ rLt c r r' ∨ rLt c r' r := by
  have := rLt_tri (r := r) (r' := r') c.toNat
  rw [Int.toNat_of_nonneg c0] at this
  exact this
section
variable {s0 : zS} {c b : Int} {lg : Int → Int → Int}
theorem p227_96 {x1 : Int} (hc : s0.1 242 6 = c) (hb : s0.1 242 5 = b) (c0 : 0 ≤ c) (c6 : c ≤ 6) (b8 : b ≤ 8) (hN : ∀ w, 0 ≤ w → w < c → 0 ≤ s0.1 254 (11 + 3 * w) ∧ s0.1 254 (11 + 3 * w) ≤ 1000) (hl : ∀ w p, -1 ≤ lg w p ∧ lg w p ≤ 30) (hlg : ∀ w p, 0 ≤ w → w < c → 0 ≤ p → p < b → s0.1 259 (8 * w + p) = lg w p) (hx : x1 = -1 ∨ (0 ≤ x1 ∧ x1 < c)) :
    ∀ (n : Nat) (x2 x3 : Int) (s : zS), 531441 - dlE (s.1 257) c.toNat < (n : Int) → Fr (fun a _ => a = 257 ∨ a = 258) s0 s → dlR c b (s0.1 254) (s.1 257) → Best c (dlN c lg) (dlL c lg) (fun r => dlV c b (s0.1 254) r ∧ ¬ rLt c (s.1 257) r) (s.1 258) → x2 = dlN c lg (s.1 258) → x3 = dlL c lg (s.1 258) → Ok (m227_96 n x1 x2 x3 s) (fun r t => ∃ B, Best c (dlN c lg) (dlL c lg) (dlV c b (s0.1 254)) B ∧ r = (if x1 = -1 then dlN c lg B else B x1 - 1) ∧ Fr (fun a _ => a = 257 ∨ a = 258) s0 t) := by
  have dig : ∀ r, dlR c b (s0.1 254) r → ∀ w, 0 ≤ w → w < ((c.toNat : Nat) : Int) → 0 ≤ r w ∧ r w ≤ 8 := by
    intro r h w w0 w1
    have := h w w0 (by omega)
    omega
  have ec : ((c.toNat : Nat) : Int) = c := by omega
  have p96 := nin9_6 (n := c.toNat) (by omega)
  intro n
  induction n with
  | zero =>
    intro x2 x3 s h1 _ h3
    have := dlE_in c.toNat (dig _ h3)
    omega
  | succ n ih =>
    intro x2 x3 s hn hs hR hB e2 e3
    have e254 : s.1 254 = s0.1 254 := funext fun q => hs.1 254 q (by omega)
    rw [m227_96]
    refine k_c (p223 (s0 := s) (c := c) (b := b) (by rw [hs.1 242 6 (by omega)]; exact hc) (by rw [hs.1 242 5 (by omega)]; exact hb) c0 c6 b8 (by rw [e254]; exact hN) (by rw [e254]; exact hR)) ?_
    rw [e254]
    rintro r t ⟨ft, ⟨hr, none⟩ | ⟨hr, hR', lt, nb⟩⟩
    · have fs : Fr (fun a _ => a = 257 ∨ a = 258) s0 t := fr_trans hs (fr_mono (fun a q z => Or.inl z.1) ft)
      have e258 : t.1 258 = s.1 258 := funext fun q => ft.1 258 q (by omega)
      have hB' : Best c (dlN c lg) (dlL c lg) (dlV c b (s0.1 254)) (s.1 258) := by
        have : (fun r => dlV c b (s0.1 254) r ∧ ¬ rLt c (s.1 257) r) = dlV c b (s0.1 254) := funext fun r => propext ⟨fun z => z.1, fun z => ⟨z, none r z.1⟩⟩
        rw [this] at hB
        exact hB
      refine k_p hr (k_i (fun z => k_r ⟨_, hB', by rw [if_pos z]; exact e2, fs⟩) (fun z => ?_))
      have hx' : 0 ≤ x1 ∧ x1 < c := hx.resolve_left z
      have := hB'.1.1 x1 hx'.1 hx'.2
      refine k_x hx'.1 (by omega) (k_v ?_)
      rw [e258]
      exact k_z (by omega) (by omega) (k_r ⟨_, hB', by rw [if_neg z], fs⟩)
    · have fs : Fr (fun a _ => a = 257 ∨ a = 258) s0 t := fr_trans hs (fr_mono (fun a q z => Or.inl z.1) ft)
      have e258 : t.1 258 = s.1 258 := funext fun q => ft.1 258 q (by omega)
      have t254 : t.1 254 = s0.1 254 := funext fun q => fs.1 254 q (by omega)
      have tc : t.1 242 6 = c := by rw [fs.1 242 6 (by omega)]; exact hc
      have trow : ∀ w, 0 ≤ w → w < c → 0 ≤ t.1 257 w ∧ t.1 257 w ≤ b := fun w w0 w1 => ⟨(hR' w w0 w1).1, (hR' w w0 w1).2.1⟩
      have tlg : ∀ w p, 0 ≤ w → w < c → 0 ≤ p → p < b → t.1 259 (8 * w + p) = lg w p := fun w p w0 w1 p0 p1 => by rw [fs.1 259 _ (by omega)]; exact hlg w p w0 w1 p0 p1
      have fuel : 531441 - dlE (t.1 257) c.toNat < (n : Int) := by
        have := dlE_lt c.toNat (dig _ hR) (dig _ hR') (by rw [ec]; exact lt)
        omega
      have hlt : ∀ r, (dlV c b (s0.1 254) r ∧ ¬ rLt c (s.1 257) r) → rLt c r (t.1 257) := by
        intro r z
        rcases rTri c0 r (s.1 257) with y | y | y
        · exact rLt_ag y lt
        · exact rLt_trans y lt
        · exact absurd y z.2
      have h4 : ∀ r, (dlV c b (s0.1 254) r ∧ ¬ rLt c (s.1 257) r) → (dlV c b (s0.1 254) r ∧ ¬ rLt c (t.1 257) r) := fun r z => ⟨z.1, fun y => rLt_as y (hlt r z)⟩
      have h3 : ∀ r, (dlV c b (s0.1 254) r ∧ ¬ rLt c (t.1 257) r) → (dlV c b (s0.1 254) r ∧ ¬ rLt c (s.1 257) r) ∨ rAg c r (t.1 257) := by
        intro r z
        by_cases y : rLt c (s.1 257) r
        · rcases rTri c0 r (t.1 257) with x | x | x
          · exact Or.inr x
          · exact absurd x (nb r z.1.1 y)
          · exact absurd x z.2
        · exact Or.inl ⟨z.1, y⟩
      have hg : ∀ r r', rAg c r r' → dlN c lg r = dlN c lg r' ∧ dlL c lg r = dlL c lg r' := fun r r' h => dl_ag h
      have go : Best c (dlN c lg) (dlL c lg) (fun r => dlV c b (s0.1 254) r ∧ ¬ rLt c (t.1 257) r) (s.1 258) → Ok (m227_96 n x1 x2 x3 t) (fun r t => ∃ B, Best c (dlN c lg) (dlL c lg) (dlV c b (s0.1 254)) B ∧ r = (if x1 = -1 then dlN c lg B else B x1 - 1) ∧ Fr (fun a _ => a = 257 ∨ a = 258) s0 t) := by
        intro z
        exact ih x2 x3 t fuel fs hR' (by rw [e258]; exact z) (by rw [e258]; exact e2) (by rw [e258]; exact e3)
      have new : ∀ x4 x5, x4 = dlN c lg (t.1 257) → x5 = dlL c lg (t.1 257) → bet (dlN c lg) (dlL c lg) (t.1 257) (s.1 258) → Ok (m227_133 (m227_96 n) x1 x2 x3 x4 x5 t) (fun r t => ∃ B, Best c (dlN c lg) (dlL c lg) (dlV c b (s0.1 254)) B ∧ r = (if x1 = -1 then dlN c lg B else B x1 - 1) ∧ Fr (fun a _ => a = 257 ∨ a = 258) s0 t) := by
        intro x4 x5 e4 e5 hb'
        unfold m227_133
        refine k_c (p224 (c := c) tc c0 c6 (fun w w0 w1 => ⟨(trow w w0 w1).1, by have := (trow w w0 w1).2; omega⟩)) ?_
        rintro r u ⟨rfl, ⟨hr1, ok⟩ | ⟨hr1, no⟩⟩
        · rw [t254] at ok
          have hv : dlV c b (s0.1 254) (u.1 257) := ⟨hR', ok⟩
          refine k_q (by omega) (p227_152 (s0 := u) (fun v hv1 hv2 => ?_) zFu 0 u (by omega) (by unfold zFu; omega) (fun w w0 w1 => by omega) fr_refl)
          have v257 : v.1 257 = u.1 257 := funext fun q => hv2.1 257 q (by omega)
          have ag : rAg c (v.1 258) (u.1 257) := fun w w0 w1 => hv1 w w0 (by omega)
          have eg := hg _ _ ag
          refine ih x4 x5 v (by rw [v257]; exact fuel) (fr_trans fs (fr_mono (fun a q z => Or.inr z) hv2)) (by rw [v257]; exact hR') ?_ (by rw [e4, eg.1]) (by rw [e5, eg.2])
          rw [v257]
          refine bs_new hg hB (by unfold bet at hb' ⊢; rw [eg.1, eg.2]; exact hb') ⟨dlV_ag ag hv, fun z => rLt_ir (rLt_ag2 z ag)⟩ (fun r z => (h3 r z).elim Or.inl (fun y => Or.inr (rAg_t y (rAg_s ag))))
        · refine k_p hr1 (go ?_)
          have : (fun r => dlV c b (s0.1 254) r ∧ ¬ rLt c (u.1 257) r) = (fun r => dlV c b (s0.1 254) r ∧ ¬ rLt c (s.1 257) r) := funext fun r => propext ⟨fun z => (h3 r z).elim id (fun y => absurd (fun w w0 w1 => by rw [t254]; exact (dlV_ag (rAg_s y) z.1).2 w w0 w1) no), h4 r⟩
          rw [this]
          exact hB
      refine k_q (by omega) (k_c (p225_4 (b := b) tc c6 hl trow b8 tlg zFu c.toNat 0 (by omega) (by omega) (by unfold zFu; omega)) ?_)
      rintro z10 u ⟨ez, rfl⟩
      refine k_c (p226_4 (b := b) tc c6 hl trow b8 tlg zFu c.toNat 0 (by omega) (by omega) (by unfold zFu; omega)) ?_
      rintro z13 v ⟨ez', rfl⟩
      have keep : ¬ bet (dlN c lg) (dlL c lg) (v.1 257) (s.1 258) → Ok (m227_96 n x1 x2 x3 v) (fun r t => ∃ B, Best c (dlN c lg) (dlL c lg) (dlV c b (s0.1 254)) B ∧ r = (if x1 = -1 then dlN c lg B else B x1 - 1) ∧ Fr (fun a _ => a = 257 ∨ a = 258) s0 t) := fun z => go (bs_keep hg hB z hlt h3 h4)
      refine k_i (fun z => keep ?_) (fun z => k_i (fun y => k_i (fun x => new z10 z13 ez ez' ?_) (fun x => keep ?_)) (fun y => new z10 z13 ez ez' ?_))
      · unfold bet; omega
      · unfold bet; omega
      · unfold bet; omega
      · unfold bet; omega
theorem p227_66 {x1 : Int} {P : Int → zS → Prop} (hK : ∀ t, (∀ w, 0 ≤ w → w < 6 → t.1 257 w = 0 ∧ t.1 258 w = 0) → Fr (fun a _ => a = 257 ∨ a = 258) s0 t → Ok (m227_96 zFu x1 0 0 t) P) : ∀ (n j : Nat) (s : zS), j ≤ 6 → 6 - j < n → (∀ w, 0 ≤ w → w < (j : Int) → s.1 257 w = 0 ∧ s.1 258 w = 0) → Fr (fun a _ => a = 257 ∨ a = 258) s0 s → Ok (m227_66 n x1 (j : Int) s) P := by
  intro n
  induction n with
  | zero => intro j s h1 h2; omega
  | succ n ih =>
    intro j s h1 h2 hh hs
    rw [m227_66]
    by_cases e : j = 6
    · subst e
      exact k_q (by omega) (hK s hh hs)
    · refine k_p (by omega) (k_x (by omega) (by omega) (k_v (k_x (by omega) (by omega) (k_v (k_z (by omega) (by omega) ?_)))))
      refine ih (j + 1) _ (by omega) (by omega) (fun w w0 w1 => ?_) (fr_trans hs (fr_trans (fr_I (Or.inl rfl)) (fr_I (Or.inr rfl))))
      by_cases d : w = (j : Int)
      · rw [d, sI_a (by omega), sI_e, sI_e]; exact ⟨rfl, rfl⟩
      · rw [sI_a (by omega), sI_k d, sI_k d, sI_a (by omega)]; exact hh w w0 (by omega)
end
abbrev dmF (a : Nat) (q : Int) : Prop := uFr a q ∨ a = 259
theorem p227_27 {n0 : Nat} {s0 : zS} {x1 w : Int} {K : Int → Int → zS → Option (Int × zS)} {P : Int → zS → Prop} (hR : R n0 s0) (w0 : 0 ≤ w) (w1 : w < s0.1 242 6) : ∀ (n j : Nat) (k : Int) (s : zS), k = s0.1 242 5 - (j : Int) → 0 ≤ k → j < n → (∀ v p, 0 ≤ v → v ≤ w → 0 ≤ p → p < s0.1 242 5 → (v < w ∨ p < k) → s.1 259 (8 * v + p) = dT s0.1 v p) → FrJ dmF s0 s → (∀ t, (∀ v p, 0 ≤ v → v < w + 1 → 0 ≤ p → p < s0.1 242 5 → t.1 259 (8 * v + p) = dT s0.1 v p) → FrJ dmF s0 t → Ok (K x1 (w + 1) t) P) → Ok (m227_27 K n x1 w k s) P := by
  obtain ⟨b1, b2, b3, b4, b5, b6, b7, b8, b9, b10⟩ := R_cnt hR
  intro n
  induction n with
  | zero => intro j k s _ _ h; omega
  | succ n ih =>
    intro j k s hk k0 hj hT hs hK
    have eqs : eqL s0.1 s.1 := eqL_frj hs (fun a k q => by omega)
    have e254 : s.1 254 = s0.1 254 := funext fun q => (hs.1 254 q (by omega)).1
    rw [m227_27]
    refine k_e e182 ?_
    rw [eqs.1]
    cases j with
    | zero => exact k_q (by omega) (k_z (by omega) (by omega) (hK s (fun v p v0 v1 p0 p1 => hT v p v0 (by omega) p0 p1 (Or.inr (by omega))) hs))
    | succ j =>
      have k1 : k < s0.1 242 5 := by omega
      refine k_p k1 (k_z (by omega) (by omega) (k_z (by omega) (by omega) (k_c (p218 (mLand_eq eqs (R_ml hR)) (by rw [eqs.1, e254]; exact R_hh hR) (by rw [e254]; exact R_dd hR) w0 (by rw [eqs.1]; exact w1) k0 (by rw [eqs.1]; exact k1)) ?_)))
      intro r u hu
      obtain ⟨u1, u2, u3⟩ := hu
      have er : r = dT s0.1 w k := by rw [u1, (trT_eq eqs 31).2, eqs.2.2.1, e254]; rfl
      refine k_x (by omega) (by omega) (k_v (k_z (by omega) (by omega) ?_))
      refine ih j (k + 1) _ (by omega) (by omega) (by omega) (fun v p v0 v1 p0 p1 z => ?_) (frj_trans hs (frj_trans (frj_mono (fun a q z => Or.inl z) u3) (frj_I (Or.inr rfl)))) hK
      by_cases c : 8 * v + p = 8 * w + k
      · have ev : v = w := by omega
        have ep : p = k := by omega
        rw [c, sI_e, er, ev, ep]
      · rw [sI_k c, (u3.1 259 _ (by omega)).1]
        exact hT v p v0 v1 p0 p1 (by omega)
theorem p227_17 {n0 : Nat} {s0 : zS} {x1 : Int} {P : Int → zS → Prop} (hR : R n0 s0) (hK : ∀ t, (∀ v p, 0 ≤ v → v < s0.1 242 6 → 0 ≤ p → p < s0.1 242 5 → t.1 259 (8 * v + p) = dT s0.1 v p) → FrJ dmF s0 t → Ok (m227_66 zFu x1 0 t) P) : ∀ (n j : Nat) (w : Int) (s : zS), w = s0.1 242 6 - (j : Int) → 0 ≤ w → j < n → (∀ v p, 0 ≤ v → v < w → 0 ≤ p → p < s0.1 242 5 → s.1 259 (8 * v + p) = dT s0.1 v p) → FrJ dmF s0 s → Ok (m227_17 n x1 w s) P := by
  obtain ⟨b1, b2, b3, b4, b5, b6, b7, b8, b9, b10⟩ := R_cnt hR
  intro n
  induction n with
  | zero => intro j w s _ _ h; omega
  | succ n ih =>
    intro j w s hw w0 hj hT hs
    rw [m227_17]
    refine k_e e183 ?_
    rw [(hs.1 242 6 (by omega)).1]
    cases j with
    | zero => exact k_q (by omega) (hK s (fun v p v0 v1 p0 p1 => hT v p v0 (by omega) p0 p1) hs)
    | succ j =>
      refine k_p (by omega) (p227_27 hR w0 (by omega) zFu (s0.1 242 5).toNat 0 s (by omega) (by omega) (by unfold zFu; omega) (fun v p v0 v1 p0 p1 z => hT v p v0 (by omega) p0 p1) hs (fun t t1 t2 => ?_))
      exact ih j (w + 1) t (by omega) (by omega) (by omega) t1 t2
abbrev dqF (a : Nat) (q : Int) : Prop := uFr a q ∨ (257 ≤ a ∧ a ≤ 259)
theorem scr_dq {L a : Nat} {k : Int} (h : dqF a k) : Scr L a k := by
  rcases h with h | h
  · exact scr_h (Or.inl h)
  · exact Or.inr (Or.inr (Or.inr (Or.inr (Or.inr (Or.inr (Or.inr (Or.inr (Or.inr (Or.inl (by omega))))))))))
/-- the reference's best of all -/
theorem p227 {n0 : Nat} {s : zS} {x1 : Int} (hR : R n0 s) (hx : x1 = -1 ∨ (0 ≤ x1 ∧ x1 < s.1 242 6)) : Ok (m227_17 zFu x1 0 s) (fun r t => ∃ B, Best (s.1 242 6) (dlN (s.1 242 6) (dT s.1)) (dlL (s.1 242 6) (dT s.1)) (dlV (s.1 242 6) (s.1 242 5) (s.1 254)) B ∧ r = (if x1 = -1 then dlN (s.1 242 6) (dT s.1) B else B x1 - 1) ∧ FrJ dqF s t) := by
  obtain ⟨b1, b2, b3, b4, b5, b6, b7, b8, b9, b10⟩ := R_cnt hR
  refine p227_17 hR (fun t t1 t2 => ?_) zFu (s.1 242 6).toNat 0 s (by omega) (by omega) (by unfold zFu; omega) (fun v p v0 v1 => by omega) frj_refl
  have e254 : t.1 254 = s.1 254 := funext fun q => (t2.1 254 q (by omega)).1
  refine p227_66 (s0 := t) (fun u u1 u2 => ?_) zFu 0 t (by omega) (by unfold zFu; omega) (fun w w0 w1 => by omega) fr_refl
  have hz : ∀ w, 0 ≤ w → w < s.1 242 6 → u.1 258 w = 0 := fun w w0 w1 => (u1 w w0 (by omega)).2
  have zR0 : dlR (s.1 242 6) (s.1 242 5) (t.1 254) (u.1 257) := fun w w0 w1 => by
    rw [(u1 w w0 (by omega)).1]
    exact ⟨by omega, by omega, fun _ => rfl⟩
  have ag : rAg (s.1 242 6) (u.1 258) (u.1 257) := fun w w0 w1 => by rw [hz w w0 w1, (u1 w w0 (by omega)).1]
  refine k_m (p227_96 (s0 := t) (c := s.1 242 6) (b := s.1 242 5) (lg := dT s.1) (x1 := x1) (t2.1 242 6 (by omega)).1 (t2.1 242 5 (by omega)).1 b7 b8 b5 (fun w w0 w1 => ?_) (fun _ _ => dT_in) t1 hx zFu 0 0 u ?_ u2 zR0 ?_ ?_ ?_) ?_
  · have := R_w hR w0 w1
    rw [e254]
    omega
  · have := dlE_in (r := u.1 257) (s.1 242 6).toNat (fun w w0 w1 => by rw [(u1 w w0 (by omega)).1]; omega)
    unfold zFu
    omega
  · refine bs_first (fun r r' h => dl_ag h) ⟨⟨dlR_ag ag zR0, fun w w0 w1 z => absurd (hz w w0 w1) z⟩, fun z => rLt_ir (rLt_ag2 z ag)⟩ (fun r z => ?_)
    rcases rTri b7 r (u.1 257) with y | y | y
    · exact rAg_t y (rAg_s ag)
    · obtain ⟨w, w0, w1, w2, w3⟩ := y
      have := z.1.1 w w0 w1
      rw [(u1 w w0 (by omega)).1] at w3
      omega
    · exact absurd y z.2
  · exact (dlS_0 _ (fun w w0 w1 => if_neg (fun z => by rw [hz w w0 (by omega)] at z; omega))).symm
  · exact (dlS_0 _ (fun w w0 w1 => if_neg (fun z => by rw [hz w w0 (by omega)] at z; omega))).symm
  · rintro r v ⟨B, v1, v2, v3⟩
    rw [e254] at v1
    exact ⟨B, v1, v2, frj_trans (frj_mono (fun a q z => by omega) t2) (frj_of (fr_mono (fun a q z => Or.inr (by omega)) v3))⟩
/-! ===== rows of the class's, rows of the reference's ===== -/
theorem best_cg {c : Int} {cn hr cn' hr' : (Int → Int) → Int} {Q : (Int → Int) → Prop} {r : Int → Int} (h : ∀ r, Q r → cn r = cn' r ∧ hr r = hr' r) (hB : Best c cn hr Q r) : Best c cn' hr' Q r := by
  refine ⟨hB.1, fun q hq => ?_⟩
  have := hB.2 q hq
  have e1 := h r hB.1
  have e2 := h q hq
  unfold bet at this ⊢
  rw [← e1.1, ← e1.2, ← e2.1, ← e2.2]
  exact this
section
variable {f : Nat → Int → Int} {w p : Int}
theorem dlG_is (h : dlG f w p ≠ -1) : f 254 (11 + 3 * w) = 0 ∧ dlG f w p = dT f w p ∧ ∃ i : Nat, i < (f 254 28).toNat ∧ f 254 (29 + (i : Int)) = p := by
  by_cases c : f 254 (11 + 3 * w) = 0
  · unfold dlG dlK at h ⊢
    rw [if_pos c] at h ⊢
    rcases shL_or (f := f) (w := w) (p := p) (f 254 28).toNat with q | q
    · exact absurd q.1 h
    · exact ⟨c, q.1, q.2⟩
  · unfold dlG dlK at h
    rw [if_neg c] at h
    exact absurd rfl h
theorem dlG_of (c : f 254 (11 + 3 * w) = 0) (h : ∃ i : Nat, i < (f 254 28).toNat ∧ f 254 (29 + (i : Int)) = p) : dlG f w p = dT f w p := by
  unfold dlG dlK
  rw [if_pos c]
  rcases shL_or (f := f) (w := w) (p := p) (f 254 28).toNat with q | q
  · obtain ⟨i, h1, h2⟩ := h
    exact absurd h2 (q.2 i h1)
  · exact q.1
end
/-- whom none wears is on the shelf -/
theorem on_sh {a b c : Int} {N : Int → Int} {p : Int} (c0 : 0 ≤ c) (cb : c ≤ b) (hI : nInv a b c N) (p0 : 0 ≤ p) (p1 : p < b) (h : ∀ v, 0 ≤ v → v < c → N (10 + 3 * v) ≠ p) : ∃ i : Nat, i < (b - c).toNat ∧ N (29 + (i : Int)) = p := by
  obtain ⟨_, _, _, i1, _, i2, i3, i4, i5⟩ := hI
  have ph := ph_inj b.toNat (fun k => if (k : Int) < c then N (10 + 3 * (k : Int)) else N (29 + ((k : Int) - c))) (fun k hk => ?_) (fun i j hij hj => ?_) p p0 (by omega)
  · obtain ⟨k, k1, k2⟩ := ph
    by_cases e : (k : Int) < c
    · have k2 : (if (k : Int) < c then N (10 + 3 * (k : Int)) else N (29 + ((k : Int) - c))) = p := k2
      rw [if_pos e] at k2
      exact absurd k2 (h (k : Int) (by omega) e)
    · have k2 : (if (k : Int) < c then N (10 + 3 * (k : Int)) else N (29 + ((k : Int) - c))) = p := k2
      rw [if_neg e] at k2
      refine ⟨((k : Int) - c).toNat, by omega, ?_⟩
      rw [show ((((k : Int) - c).toNat : Nat) : Int) = (k : Int) - c by omega]
      exact k2
  · show 0 ≤ (if (k : Int) < c then _ else _) ∧ (if (k : Int) < c then _ else _) < ((b.toNat : Nat) : Int)
    split
    · rename_i e
      have := i1 (k : Int) (by omega) e
      omega
    · have := i2 ((k : Int) - c) (by omega) (by omega)
      omega
  · show (if (i : Int) < c then _ else _) ≠ (if (j : Int) < c then _ else _)
    split
    · rename_i e
      split
      · rename_i e'
        exact i3 (i : Int) (j : Int) (by omega) (by omega) e'
      · exact i5 (i : Int) ((j : Int) - c) (by omega) e (by omega) (by omega)
    · rename_i e
      rw [if_neg (by omega)]
      exact i4 ((i : Int) - c) ((j : Int) - c) (by omega) (by omega) (by omega)
theorem deal_up {n0 : Nat} {s : zS} {r : Int → Int} (hR : R n0 s) (hB : Best (s.1 242 6) (dlN (s.1 242 6) (dlG s.1)) (dlL (s.1 242 6) (dlG s.1)) (dlQ (s.1 242 6) (dlG s.1)) r) : Best (s.1 242 6) (dlN (s.1 242 6) (dT s.1)) (dlL (s.1 242 6) (dT s.1)) (dlV (s.1 242 6) (s.1 242 5) (s.1 254)) r ∧ dlN (s.1 242 6) (dlG s.1) r = dlN (s.1 242 6) (dT s.1) r := by
  obtain ⟨b1, b2, b3, b4, b5, b6, b7, b8, b9, b10⟩ := R_cnt hR
  have hI := (R_now hR).2
  have h28 := R_28 hR
  have val : ∀ q, dlQ (s.1 242 6) (dlG s.1) q → dlN (s.1 242 6) (dlG s.1) q = dlN (s.1 242 6) (dT s.1) q ∧ dlL (s.1 242 6) (dlG s.1) q = dlL (s.1 242 6) (dT s.1) q := by
    intro q hq
    have one : ∀ w, 0 ≤ w → w < s.1 242 6 → dlC (dlG s.1) q w = dlC (dT s.1) q w ∧ dlH (dlG s.1) q w = dlH (dT s.1) q w := by
      intro w w0 w1
      unfold dlC dlH
      by_cases z : 0 < q w
      · have := dlG_is ((hq w w0 w1).2.2.1 (by omega))
        rw [this.2.1]
        exact ⟨rfl, rfl⟩
      · rw [if_neg (fun y => z y.1), if_neg (fun y => z y.1), if_neg (fun y => z y.1), if_neg (fun y => z y.1)]
        exact ⟨rfl, rfl⟩
    exact ⟨dlS_congr _ (fun w w0 w1 => (one w w0 (by omega)).1), dlS_congr _ (fun w w0 w1 => (one w w0 (by omega)).2)⟩
  refine ⟨best_up (best_cg val hB) ⟨fun w w0 w1 => ?_, fun w w0 w1 ne => ?_⟩ (fun p hp => ?_), (val r hB.1).1⟩
  · have q := hB.1 w w0 w1
    by_cases z : r w = 0
    · rw [z]; exact ⟨by omega, by omega, fun _ => rfl⟩
    · obtain ⟨g1, g2, i, g3, g4⟩ := dlG_is (q.2.2.1 z)
      have := R_sh hR (i : Int) (by omega) (by omega)
      exact ⟨q.1, by omega, fun y => absurd g1 y⟩
  · have q := hB.1 w w0 w1
    obtain ⟨g1, g2, i, g3, g4⟩ := dlG_is (q.2.2.1 ne)
    refine ⟨fun v v0 v1 => ?_, fun v v0 v1 => q.2.2.2 v v0 v1 ne⟩
    rw [← g4]
    exact hI.2.2.2.2.2.2.2.2 v (i : Int) v0 v1 (by omega) (by omega)
  · refine ⟨fun w => if 0 < p w ∧ dT s.1 w (p w - 1) ≠ -1 then p w else 0, fun w w0 w1 => ?_, ?_, ?_, ?_⟩
    · by_cases z : 0 < p w ∧ dT s.1 w (p w - 1) ≠ -1
      · simp only [if_pos z]
        have hw := hp.1 w w0 w1
        have ho := hp.2 w w0 w1 (by omega)
        refine ⟨by omega, by omega, fun _ => ?_, fun v v0 v1 _ => ?_⟩
        · rw [dlG_of (Classical.byContradiction fun y => by have := hw.2.2 y; omega) (by rw [h28]; exact on_sh b7 b9 hI (by omega) (by omega) ho.1)]
          exact z.2
        · have := ho.2 v v0 v1
          split
          · exact this
          · omega
      · simp only [if_neg z]
        exact ⟨by omega, by omega, fun y => absurd rfl y, fun _ _ _ y => absurd rfl y⟩
    · refine dlS_congr _ (fun w w0 w1 => ?_)
      unfold dlC
      by_cases z : 0 < p w ∧ dT s.1 w (p w - 1) ≠ -1
      · simp only [if_pos z]
      · simp only [if_neg z]
        rw [if_neg (fun y => by omega)]
    · refine dlS_congr _ (fun w w0 w1 => ?_)
      unfold dlH
      by_cases z : 0 < p w ∧ dT s.1 w (p w - 1) ≠ -1
      · simp only [if_pos z]
      · simp only [if_neg z]
        rw [if_neg (fun y => by omega)]
    · rcases rTri b7 (fun w => if 0 < p w ∧ dT s.1 w (p w - 1) ≠ -1 then p w else 0) p with y | y | y
      · exact Or.inl y
      · exact Or.inr y
      · obtain ⟨w, w0, w1, w2, w3⟩ := y
        have := hp.1 w w0 w1
        have w3 : p w < (if 0 < p w ∧ dT s.1 w (p w - 1) ≠ -1 then p w else 0) := w3
        split at w3 <;> omega
theorem dT_eq {f g : Nat → Int → Int} (e : eqL f g) (e254 : g 254 = f 254) : dT g = dT f := by
  funext w p
  unfold dT
  rw [(trT_eq e 31).2, e.2.2.1, e254]
theorem t117 : T117 := by
  intro n s x hx hR hn
  obtain ⟨b1, b2, b3, b4, b5, b6, b7, b8, b9, b10⟩ := R_cnt hR
  have hLL := R_LL hR
  have main : (x = -1 ∨ (0 ≤ x ∧ x < s.1 242 6)) → Ok (m117_15 x s) (fun r s1 => Ok (m227 x s1) (fun r' s2 => r = r' ∧ R (n + 1) s2)) := by
    intro hxx
    unfold m117_15
    refine k_v (k_c (p1 hR) ?_)
    rintro _ t ⟨⟨t1, t2⟩, t3⟩
    have hRt : R n t := R_fr hR (frj_of (fr_mono (fun a k z => scr_dg z) t3))
    have eqs : eqL s.1 t.1 := eqL_fr t3 (fun a k q => by omega)
    have e254 : t.1 254 = s.1 254 := funext fun q => t3.1 254 q (by omega)
    have up := deal_up hR t1
    have ref : Ok (m227 x t) (fun r' s2 => (if x = -1 then t.1 20 1 else t.1 21 x) = r' ∧ R (n + 1) s2) := by
      have core : Ok (m227_17 zFu x 0 t) (fun r' s2 => (if x = -1 then t.1 20 1 else t.1 21 x) = r' ∧ R (n + 1) s2) := by
        refine k_m (p227 hRt (by rw [eqs.1]; exact hxx)) ?_
        rintro r' u ⟨B, u1, u2, u3⟩
        rw [eqs.1, e254, dT_eq eqs e254] at u1
        rw [eqs.1, dT_eq eqs e254] at u2
        have ag := best_one b7 up.1 u1
        refine ⟨?_, R_up (R_fr hRt (frj_mono (fun a k z => scr_dq z) u3))⟩
        rw [u2]
        by_cases z : x = -1
        · rw [if_pos z, if_pos z, t2, up.2, (dl_ag ag).1]
        · rw [if_neg z, if_neg z]
          have hx' := hxx.resolve_left z
          have a := ag x hx'.1 hx'.2
          have a : t.1 21 x + 1 = B x := a
          omega
      unfold m227
      refine k_i (fun z => core) (fun z => k_e (e186 (by rw [eqs.1]; omega) (by rw [eqs.1]; omega)) ?_)
      rw [eqs.1, if_pos (hxx.resolve_left z)]
      exact k_q (by decide) core
    refine k_i (fun z => k_v (k_r ?_)) (fun z => ?_)
    · rw [if_pos z] at ref
      exact ref
    · have hx' := hxx.resolve_left z
      refine k_x hx'.1 (by omega) (k_v (k_r ?_))
      rw [if_neg z] at ref
      exact ref
  unfold Two m117
  refine k_i (fun z => main (Or.inl z)) (fun z => k_e (e137 hR) ?_)
  by_cases c : (0 ≤ x ∧ x < s.1 242 6) ∧ s.1 254 (11 + 3 * x) = 0
  · rw [if_pos c]
    exact k_q (by decide) (main (Or.inr c.1))
  · rw [if_neg c]
    refine k_p rfl (k_r ?_)
    unfold m227
    refine k_q z (k_e (e186 b7 b8) ?_)
    by_cases d : 0 ≤ x ∧ x < s.1 242 6
    · rw [if_pos d]
      refine k_q (by decide) (k_m (p227 hR (Or.inr d)) ?_)
      rintro r' u ⟨B, u1, u2, u3⟩
      have := (u1.1.1 x d.1 d.2).2.2 (fun y => c ⟨d, y⟩)
      refine ⟨?_, R_up (R_fr hR (frj_mono (fun a k z => scr_dq z) u3))⟩
      rw [u2, if_neg z, this]
      rfl
    · rw [if_neg d]
      exact k_p rfl (k_r ⟨rfl, R_up hR⟩)
