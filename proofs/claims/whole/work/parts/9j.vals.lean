/-! ===== a question's values ===== -/
/-- what stands of a land and of those in it -/
def RL (s : zS) : Prop := rRefs s.2.2 ∧ rLand s.1 s.2.1 (s.2.2 1) ∧ rNow s.1
section
variable {n : Nat} {s t : zS}
theorem RL_of (h : R n s) : RL s := ⟨R_refs h, R_land h, R_now h⟩
theorem RL_LL (h : RL s) : s.2.2 1 = 43 ∨ s.2.2 1 = 66 := by rcases h.1.1 with q | q <;> omega
theorem RL_M3 (h : RL s) : s.2.2 3 = s.2.2 1 := h.1.2
theorem RL_land (h : RL s) : rLand s.1 s.2.1 (s.2.2 1) := h.2.1
theorem RL_now (h : RL s) : rNow s.1 := h.2.2
theorem RL_cnt (h : RL s) : rCount s.1 (s.2.2 1) := h.2.1.1
theorem RL_ml (h : RL s) : mLand s.1 := mLand_of h.2.1
theorem RL_hh (h : RL s) : ∀ q, 0 ≤ q → q < s.1 242 5 → 0 ≤ s.1 254 (2 + q) ∧ s.1 254 (2 + q) ≤ 9 := h.2.2.2.2.2.1
theorem RL_dd (h : RL s) : inM (s.1 254 0) := by have : 0 ≤ s.1 254 0 ∧ s.1 254 0 ≤ 999 := h.2.2.2.1; omega
theorem RL_w (h : RL s) {w : Int} (w0 : 0 ≤ w) (w1 : w < s.1 242 6) : s.1 30 w = s.1 254 (10 + 3 * w) ∧ s.1 31 w = s.1 254 (11 + 3 * w) - 1 ∧ s.1 32 w = s.1 254 (12 + 3 * w) ∧ 0 ≤ s.1 254 (10 + 3 * w) ∧ s.1 254 (10 + 3 * w) < s.1 242 5 ∧ 0 ≤ s.1 254 (11 + 3 * w) ∧ s.1 254 (11 + 3 * w) ≤ s.1 242 4 ∧ 0 ≤ s.1 254 (12 + 3 * w) ∧ s.1 254 (12 + 3 * w) ≤ 999 := by
  obtain ⟨hN, hI⟩ := h.2.2
  have h1 := hN.2.2.2.1 w w0 w1
  have h2 := hI.2.2.2.1 w w0 w1
  exact ⟨h1.1, h1.2.1, h1.2.2, h2⟩
theorem RL_fr (h : RL s) (hf : ∀ a k, (28 ≤ a ∧ a ≤ 33) ∨ (43 ≤ a ∧ a ≤ 88 ∧ a ≠ s.2.2 1 + 19 ∧ a ≠ s.2.2 1 + 22) ∨ (242 ≤ a ∧ a ≤ 254) → t.1 a k = s.1 a k) (hj : ∀ k, t.2.1 243 k = s.2.1 243 k) (h2 : ∀ q, q = 1 ∨ q = 2 ∨ q = 3 → t.2.2 q = s.2.2 q) : RL t := by
  have hLL := RL_LL h
  refine ⟨?_, ?_, ?_⟩
  · obtain ⟨a, b⟩ := h.1
    unfold rRefs
    rw [h2 1 (by omega), h2 2 (by omega), h2 3 (by omega)]
    exact ⟨a, b⟩
  · rw [h2 1 (by omega)]
    exact rLand_eq (fun a k z => hf a k (by omega)) hj h.2.1
  · exact rNow_eq h.2.1.1 (fun k => hf 242 k (by omega)) (fun a k a0 a1 => hf a k (by omega)) (fun k => hf 254 k (by omega)) h.2.2
end
def ptW (f : Nat → Int → Int) (w q : Int) : Int := if q = 0 then f 254 (2 + f 254 (10 + 3 * w)) else if q = 1 then tgt f w (f 254 (10 + 3 * w)) else if q = 2 then f 254 (12 + 3 * w) else if q = 3 then f 246 (19 + 3 * w) else if q = 4 then f 254 0 else if q = 5 then w else if q = 6 then f 246 (18 + 3 * w) else if q = 7 then (if f 254 (11 + 3 * w) = 0 then 0 else 1) else (if f 254 (11 + 3 * w) - 1 = f 246 (20 + 3 * w) then 1 else 0)
def atW (f : Nat → Int → Int) (w : Int) : Int := if f 254 (11 + 3 * w) = 0 then 0 else f 254 (11 + 3 * w) - 1
def frW (f : Nat → Int → Int) (w x : Int) : Int := if 0 ≤ x ∧ x < f 242 4 then f 252 (7 * atW f w + x) else -1
def vlW (f : Nat → Int → Int) (l : List Int) (w : Int) : Int := (cRun (ptW f w) (frW f w) l []).headD 0
/-- the class's row of facts -/
def fcW (f : Nat → Int → Int) (w i : Int) : Int := if i = 0 then w else if i = 1 then f 246 (18 + 3 * w) else if i = 2 then f 246 (19 + 3 * w) else if i = 3 then f 254 (2 + f 254 (10 + 3 * w)) else if i = 4 then tgt f w (f 254 (10 + 3 * w)) else if i = 5 then f 254 (12 + 3 * w) else if i = 6 then f 254 0 else if i = 7 then (if f 254 (11 + 3 * w) = 0 then 0 else 1) else if i = 8 then (if f 254 (11 + 3 * w) - 1 = f 246 (20 + 3 * w) then 1 else 0) else atW f w
theorem fcW_7 {f : Nat → Int → Int} {w : Int} : fcW f w 7 = (if f 254 (11 + 3 * w) = 0 then 0 else 1) := rfl
theorem fcW_8 {f : Nat → Int → Int} {w : Int} : fcW f w 8 = (if f 254 (11 + 3 * w) - 1 = f 246 (20 + 3 * w) then 1 else 0) := rfl
theorem fcW_fIx {f : Nat → Int → Int} {w q : Int} (h0 : 0 ≤ q) (h8 : q ≤ 8) : fcW f w (fIx q) = ptW f w q := by
  have : q = 0 ∨ q = 1 ∨ q = 2 ∨ q = 3 ∨ q = 4 ∨ q = 5 ∨ q = 6 ∨ q = 7 ∨ q = 8 := by omega
  rcases this with rfl | rfl | rfl | rfl | rfl | rfl | rfl | rfl | rfl <;> rfl
section
variable {s t : zS} {w : Int} {l : List Int}
theorem atW_in (hR : RL s) (w0 : 0 ≤ w) (w1 : w < s.1 242 6) : 0 ≤ atW s.1 w ∧ atW s.1 w < s.1 242 4 := by
  have h1 := RL_w hR w0 w1
  have h2 := (RL_ml hR).2.2.1 w w0 w1
  unfold atW
  split <;> omega
theorem ptW_in (hR : RL s) (w0 : 0 ≤ w) (w1 : w < s.1 242 6) : ∀ q, 0 ≤ q → q ≤ 8 → inM (ptW s.1 w q) := by
  have h1 := RL_w hR w0 w1
  have h2 := (RL_ml hR).2.2.1 w w0 w1
  have h3 := RL_hh hR (s.1 254 (10 + 3 * w)) (by omega) (by omega)
  have h4 := tgt_in (RL_ml hR) w0 w1 (p := s.1 254 (10 + 3 * w)) (by omega) (by omega)
  have h5 := RL_dd hR
  have h6 := RL_cnt hR
  have c6 := h6.2.2.2.2.2.2.2.1
  intro q q0 q8
  unfold ptW
  repeat' split
  all_goals omega
theorem frW_in (hR : RL s) (w0 : 0 ≤ w) (w1 : w < s.1 242 6) : ∀ x, inM (frW s.1 w x) := by
  intro x
  have ha := atW_in hR w0 w1
  unfold frW
  split
  · rename_i h
    have := (RL_land hR).2.2.2.2.1 (atW s.1 w) x ha.1 ha.2 h.1 h.2
    rw [this.1]
    split <;> omega
  · omega
/-- the class looks at one -/
theorem p10w (hR : RL s) (w0 : 0 ≤ w) (w1 : w < s.1 242 6) : Ok (m10 28 w s) (fun _ t => (∀ i, 0 ≤ i → i ≤ 9 → t.1 11 i = fcW s.1 w i) ∧ Fr (fun a _ => a = 11) s t) := by
  have hLL := RL_LL hR
  have hM := RL_M3 hR
  obtain ⟨b1, b2, b3, b4, b5, b6, b7, b8, b9, b10⟩ := RL_cnt hR
  have hw := RL_w hR w0 w1
  have hl := (RL_land hR).2.2.2.1 w w0 w1
  have hp0 : 0 ≤ s.1 254 (10 + 3 * w) := by omega
  have hp1 : s.1 254 (10 + 3 * w) < s.1 242 5 := by omega
  have hhb := (RL_now hR).1.2.2.1 (s.1 254 (10 + 3 * w)) hp0 hp1
  have hday := (RL_now hR).1.1
  have stp : ∀ (j x : Int) (u : zS), 0 ≤ j → (∀ i, 0 ≤ i → i < j → u.1 11 i = fcW s.1 w i) → Fr (fun a _ => a = 11) s u → x = fcW s.1 w j → (∀ i, 0 ≤ i → i < j + 1 → (sI u 11 j x).1 11 i = fcW s.1 w i) ∧ Fr (fun a _ => a = 11) s (sI u 11 j x) := by
    intro j x u j0 hu fu hx
    refine ⟨fun i i0 i1 => ?_, fr_trans fu (fr_I rfl)⟩
    by_cases d : i = j
    · rw [d, sI_e, hx]
    · rw [sI_k d]; exact hu i i0 (by omega)
  unfold m10
  refine k_v (k_x w0 (by omega) (k_v ?_))
  rw [show s.1 (28 + 2) w = s.1 254 (10 + 3 * w) from hw.1]
  refine k_x (by decide) (by decide) (k_v ?_)
  obtain ⟨a0, f0⟩ := stp 0 w s (by omega) (fun i i0 i1 => by omega) fr_refl rfl
  generalize sI s 11 0 w = u0 at *
  refine k_v ?_
  rw [show u0.2.2 3 = s.2.2 1 by rw [f0.2.2]; exact hM]
  refine k_x w0 (by omega) (k_v ?_)
  rw [f0.1 (s.2.2 1 + 13) w (by omega), hl.1]
  refine k_x (by decide) (by decide) (k_v ?_)
  obtain ⟨a1, f1⟩ := stp 1 (s.1 246 (18 + 3 * w)) u0 (by omega) a0 f0 rfl
  generalize sI u0 11 1 (s.1 246 (18 + 3 * w)) = u1 at *
  refine k_v ?_
  rw [show u1.2.2 3 = s.2.2 1 by rw [f1.2.2]; exact hM]
  refine k_x w0 (by omega) (k_v ?_)
  rw [f1.1 (s.2.2 1 + 14) w (by omega), hl.2.1]
  refine k_x (by decide) (by decide) (k_v ?_)
  obtain ⟨a2, f2⟩ := stp 2 (s.1 246 (19 + 3 * w)) u1 (by omega) a1 f1 rfl
  generalize sI u1 11 2 (s.1 246 (19 + 3 * w)) = u2 at *
  refine k_x (by omega) (by omega) (k_v ?_)
  rw [f2.1 (28 + 1) _ (by omega), show s.1 (28 + 1) (s.1 254 (10 + 3 * w)) = s.1 254 (2 + s.1 254 (10 + 3 * w)) from hhb]
  refine k_x (by decide) (by decide) (k_v ?_)
  obtain ⟨a3, f3⟩ := stp 3 (s.1 254 (2 + s.1 254 (10 + 3 * w))) u2 (by omega) a2 f2 rfl
  generalize sI u2 11 3 (s.1 254 (2 + s.1 254 (10 + 3 * w))) = u3 at *
  refine k_v ?_
  rw [show u3.2.2 3 = s.2.2 1 by rw [f3.2.2]; exact hM]
  have eq3 : eqL s.1 u3.1 := eqL_fr f3 (fun a k q => by omega)
  have e42' : m42 (s.2.2 1) w (s.1 254 (10 + 3 * w)) u3 = some (tgt s.1 w (s.1 254 (10 + 3 * w)), u3) := by
    have := e42 (L := s.2.2 1) (s := u3) (w := w) (p := s.1 254 (10 + 3 * w)) (rLand_sfr hLL (fun a k q => by omega) f3 (RL_land hR)) w0 (by rw [eq3.1]; exact w1) hp0 (by rw [eq3.1]; exact hp1)
    rw [this]
    unfold tgt
    rw [eq3.2.1, eq3.2.2.1]
  refine k_e e42' (k_x (by decide) (by decide) (k_v ?_))
  obtain ⟨a4, f4⟩ := stp 4 (tgt s.1 w (s.1 254 (10 + 3 * w))) u3 (by omega) a3 f3 rfl
  generalize sI u3 11 4 (tgt s.1 w (s.1 254 (10 + 3 * w))) = u4 at *
  refine k_x w0 (by omega) (k_v ?_)
  rw [f4.1 (28 + 4) w (by omega), show s.1 (28 + 4) w = s.1 254 (12 + 3 * w) from hw.2.2.1]
  refine k_x (by decide) (by decide) (k_v ?_)
  obtain ⟨a5, f5⟩ := stp 5 (s.1 254 (12 + 3 * w)) u4 (by omega) a4 f4 rfl
  generalize sI u4 11 5 (s.1 254 (12 + 3 * w)) = u5 at *
  refine k_v ?_
  rw [f5.1 28 6 (by omega), hday]
  refine k_x (by decide) (by decide) (k_v ?_)
  obtain ⟨a6, f6⟩ := stp 6 (s.1 254 0) u5 (by omega) a5 f5 rfl
  generalize hu6 : sI u5 11 6 ((fun i => s.1 254 i) 0) = u6 at *
  refine k_x w0 (by omega) (k_v ?_)
  rw [f6.1 (28 + 3) w (by omega), show s.1 (28 + 3) w = s.1 254 (11 + 3 * w) - 1 from hw.2.1]
  have tail : ∀ y, y = fcW s.1 w 7 → Ok (m10_123 28 w 7 y u6) (fun _ t => (∀ i, 0 ≤ i → i ≤ 9 → t.1 11 i = fcW s.1 w i) ∧ Fr (fun a _ => a = 11) s t) := by
    intro y hy
    unfold m10_123
    refine k_x (by decide) (by decide) (k_v ?_)
    obtain ⟨a7, f7⟩ := stp 7 y u6 (by omega) a6 f6 hy
    generalize sI u6 11 7 y = u7 at *
    have e5' : m5 28 w u7 = some (if s.1 254 (11 + 3 * w) - 1 = s.1 246 (20 + 3 * w) then 1 else 0, u7) := by
      rw [e5 (L := s.2.2 1) w0 (by omega) (by rw [f7.2.2]; exact hM), f7.1 (28 + 3) w (by omega), show s.1 (28 + 3) w = s.1 254 (11 + 3 * w) - 1 from hw.2.1, f7.1 (s.2.2 1 + 15) w (by omega), hl.2.2.1]
    refine k_e e5' ?_
    have last : ∀ y, y = fcW s.1 w 8 → Ok (m10_144 28 w 8 y u7) (fun _ t => (∀ i, 0 ≤ i → i ≤ 9 → t.1 11 i = fcW s.1 w i) ∧ Fr (fun a _ => a = 11) s t) := by
      intro y hy
      unfold m10_144
      refine k_x (by decide) (by decide) (k_v ?_)
      obtain ⟨a8, f8⟩ := stp 8 y u7 (by omega) a7 f7 hy
      generalize sI u7 11 8 y = u8 at *
      refine k_x w0 (by omega) (k_v ?_)
      rw [f8.1 (28 + 3) w (by omega), show s.1 (28 + 3) w = s.1 254 (11 + 3 * w) - 1 from hw.2.1]
      refine k_i (fun z => k_x (by decide) (by decide) (k_v (k_r ?_))) (fun z => k_x w0 (by omega) (k_v (k_x (by decide) (by decide) (k_v (k_r ?_)))))
      · obtain ⟨a9, f9⟩ := stp 9 0 u8 (by omega) a8 f8 (by show (0 : Int) = atW s.1 w; unfold atW; rw [if_pos (by omega)])
        exact ⟨fun i i0 i1 => a9 i i0 (by omega), f9⟩
      · obtain ⟨a9, f9⟩ := stp 9 (s.1 254 (11 + 3 * w) - 1) u8 (by omega) a8 f8 (by show _ = atW s.1 w; unfold atW; rw [if_neg (by omega)])
        exact ⟨fun i i0 i1 => a9 i i0 (by omega), f9⟩
    by_cases c : s.1 254 (11 + 3 * w) - 1 = s.1 246 (20 + 3 * w)
    · rw [if_pos c]
      exact k_q (by decide) (last 1 (by rw [fcW_8, if_pos c]))
    · rw [if_neg c]
      exact k_p rfl (last 0 (by rw [fcW_8, if_neg c]))
  refine k_i (fun z => tail 0 ?_) (fun z => tail 1 ?_)
  · rw [fcW_7, if_pos (by omega)]
  · rw [fcW_7, if_neg (by omega)]
/-- a formula of the class's -/
def cFm (b : Nat) (l : List Int) (s : zS) : Prop := s.1 b 2 = (l.length : Int) ∧ ∀ i : Nat, i < l.length → s.1 (b + 1) (i : Int) = cDec (l.getD i 0)
/-- the class's value for one -/
theorem p146 {b : Prop} (hR : RL s) (w0 : 0 ≤ w) (w1 : w < s.1 242 6) (hc : cFm 5 l s) (hl : l.length ≤ 1600) (hs : cSm (ptW s.1 w) (frW s.1 w) b l []) : Ok (m146 w s) (fun r t => r = vlW s.1 l w ∧ Fr (fun a _ => a = 11 ∨ a = 7) s t) := by
  have hLL := RL_LL hR
  obtain ⟨b1, b2, b3, b4, b5, b6, b7, b8, b9, b10⟩ := RL_cnt hR
  have ha := atW_in hR w0 w1
  unfold m146
  refine k_c (p10w hR w0 w1) ?_
  rintro _ t ⟨t1, t2⟩
  refine k_v ?_
  rw [show t.2.2 1 = s.2.2 1 by rw [t2.2.2]]
  have e1 : t.1 (s.2.2 1 + 1) 0 = s.1 242 4 := by rw [t2.1 _ _ (by omega)]; exact b1
  have e9 : t.1 11 9 = atW s.1 w := t1 9 (by decide) (by decide)
  obtain ⟨k1, v, k2, k3, k4⟩ := hs
  have tk : l.take l.length = l := List.take_length
  have := c20_all (b := 5) (L := s.2.2 1) (N := l.length) (s0 := t) (pt := ptW s.1 w) (fr := frW s.1 w) (c := fun k => l.getD k.toNat 0)
    (by rw [t2.1 5 2 (by omega)]; exact hc.1) hl (by omega) (by omega) (by omega) (by decide)
    (fun i hi => by
      show t.1 6 (i : Int) = cDec (l.getD ((i : Int)).toNat 0)
      rw [t2.1 6 _ (by omega), show ((i : Int)).toNat = i by omega]
      exact hc.2 i hi)
    (fun q q0 q8 => by rw [t1 (fIx q) (fIx_in q0 q8).1 (by have := (fIx_in q0 q8).2; omega), fcW_fIx q0 q8])
    (fun x => by
      rw [e1, e9]
      unfold frW
      by_cases z : 0 ≤ x ∧ x < s.1 242 4
      · rw [if_pos z, if_pos ⟨ha.1, ha.2, z.1, z.2⟩, t2.1 (s.2.2 1 + 8) _ (by omega)]
        exact ((RL_land hR).2.2.2.2.1 (atW s.1 w) x ha.1 ha.2 z.1 z.2).1
      · rw [if_neg z, if_neg (fun y => z ⟨y.2.2.1, y.2.2.2⟩)])
    (fun i hi => by
      rw [cRl_take i (by omega)]
      show gd (l.getD ((i : Int)).toNat 0) _
      rw [show ((i : Int)).toNat = i by omega]
      exact cOk_at k1 hi)
    (by rw [cRl_take l.length (by omega), tk, k2]; rfl)
    zFu 0 t (by omega) (by unfold zFu; omega) fr_refl trivial
  unfold m20
  refine k_c this ?_
  rintro r u ⟨u1, u2⟩
  refine k_r ⟨?_, fr_trans (fr_mono (fun a k z => Or.inl z) t2) (fr_mono (fun a k z => Or.inr z) u2)⟩
  rw [u1, cRl_take l.length (by omega), tk]
  rfl
theorem clip_id {v : Int} (h : inM v) : clip v = v := by
  unfold clip
  rw [if_neg (by omega), if_neg (by omega)]
/-- the reference's part of one -/
theorem e271 (hR : RL s) (h53 : s.1 209 53 = 0) (w0 : 0 ≤ w) (w1 : w < s.1 242 6) {q : Int} (q0 : 0 ≤ q) (q8 : q ≤ 8) : m271 q w s = some (ptW s.1 w q, s) := by
  obtain ⟨b1, b2, b3, b4, b5, b6, b7, b8, b9, b10⟩ := RL_cnt hR
  have hw := RL_w hR w0 w1
  have hq : q = 0 ∨ q = 1 ∨ q = 2 ∨ q = 3 ∨ q = 4 ∨ q = 5 ∨ q = 6 ∨ q = 7 ∨ q = 8 := by omega
  rcases hq with rfl | rfl | rfl | rfl | rfl | rfl | rfl | rfl | rfl <;> unfold m271 ptW <;> simp only [Int.reduceEq, ↓reduceIte, oV_eq, h53]
  · rw [e188 w0 (by omega), oC_some, e187 (by omega) (by omega), oC_some]
  · rw [e188 w0 (by omega), oC_some, e194 (RL_ml hR) w0 w1 (by omega) (by omega), oC_some]
  · rw [e190 w0 (by omega), oC_some]
  · rw [oZ_pos (by omega) (by omega), oZ_pos (by omega) (by omega), oX_pos (by omega) (by omega)]
  · rw [oX_pos (by omega) (by omega)]
  · rw [oZ_pos (by omega) (by omega), oZ_pos (by omega) (by omega), oX_pos (by omega) (by omega)]
  · rw [e189 w0 (by omega) (by omega) (by omega), oC_some]
    by_cases c : s.1 254 (11 + 3 * w) = 0
    · rw [if_pos (by omega), if_pos c]
    · rw [if_neg (by omega), if_neg c]
  · rw [e193 w0 (by omega) (by omega) (by omega), oC_some]
    by_cases c : s.1 254 (11 + 3 * w) - 1 = s.1 246 (20 + 3 * w)
    · rw [if_pos c, if_neg (by decide)]
    · rw [if_neg c, if_pos rfl]
theorem e184' (h1 : 0 ≤ s.1 242 4) (h2 : s.1 242 4 ≤ 7) {x : Int} : m184 x s = some (if 0 ≤ x ∧ x < s.1 242 4 then 1 else 0, s) := e184 h1 h2
theorem e272 (hR : RL s) (w0 : 0 ≤ w) (w1 : w < s.1 242 6) {q x : Int} (hx : inM x) : m272 q x w s = some (frW s.1 w x, s) := by
  obtain ⟨b1, b2, b3, b4, b5, b6, b7, b8, b9, b10⟩ := RL_cnt hR
  have hw := RL_w hR w0 w1
  have ha := atW_in hR w0 w1
  unfold m272 frW
  rw [e184 (by omega) (by omega), oC_some]
  by_cases c : 0 ≤ x ∧ x < s.1 242 4
  · rw [if_pos c, if_neg (by decide), e189 w0 (by omega) (by omega) (by omega), oC_some, if_pos c]
    unfold atW at ha ⊢
    by_cases d : s.1 254 (11 + 3 * w) = 0
    · rw [if_pos (by omega), if_pos d]
      unfold m272_46
      rw [oZ_pos (by omega) (by omega), oZ_pos (by omega) (by omega), oZ_pos (by omega) (by omega), oX_pos (by omega) (by omega)]
      rfl
    · rw [if_neg d] at ha
      rw [if_neg (by omega), e189 w0 (by omega) (by omega) (by omega), oC_some, if_neg d]
      unfold m272_46
      rw [oZ_pos (by omega) (by omega), oZ_pos (by omega) (by omega), oZ_pos (by omega) (by omega), oX_pos (by omega) (by omega)]
      rfl
  · rw [if_neg c, if_pos rfl, if_neg c]
/-- the reference's codes of a question -/
def mFm (l : List Int) (s : zS) : Prop := s.1 209 100 = (l.length : Int) ∧ ∀ i : Nat, i < l.length → s.1 285 (i : Int) = l.getD i 0
theorem pile_set {s0 : zS} {st : List Int} {v : Int} (h : pile s0 s st) (hn : 1 ≤ st.length) : pile s0 (sJ s 287 ((st.length : Int) - 1) v) (v :: st.tail) := by
  obtain ⟨h1, h2, h3⟩ := h
  refine ⟨frj_trans h1 (frj_J (Or.inr rfl)), ?_, ?_, ?_⟩
  · rw [sJ_1, h2]; simp only [List.length_cons, List.length_tail]; omega
  · show (sJ s 287 ((st.length : Int) - 1) v).2.1 287 (st.tail.length : Int) = v
    rw [show (st.tail.length : Int) = (st.length : Int) - 1 by simp only [List.length_tail]; omega, sJ_e]
  · refine stk_ext (stk_tail h3) (fun j j0 j1 => ?_)
    simp only [List.length_tail] at j1
    rw [sJ_k (by omega)]
theorem p273_7 {s0 : zS} {b : Prop} (hR : RL s0) (h53 : s0.1 209 53 = 0) (w0 : 0 ≤ w) (w1 : w < s0.1 242 6) (hc : mFm l s0) (hl : l.length ≤ 1600) (hs : cSm (ptW s0.1 w) (frW s0.1 w) b l []) : ∀ (m i : Nat) (s : zS), i ≤ l.length → l.length - i < m → pile s0 s (cRun (ptW s0.1 w) (frW s0.1 w) (l.take i) []) → Ok (m273_7 m w (i : Int) s) (fun r t => r = vlW s0.1 l w ∧ FrJ pFr s0 t) := by
  obtain ⟨k1, v, k2, k3, k4⟩ := hs
  intro m
  induction m with
  | zero => intro i s h1 h2; omega
  | succ m ih =>
    intro i s h1 h2 hp
    have g : ∀ (a : Nat) (k : Int), a ≠ 287 → ¬ (a = 209 ∧ k = 106) → s.1 a k = s0.1 a k := fun a k n1 n2 => (hp.1.1 a k (by omega)).1
    have hRs : RL s := RL_fr hR (fun a k z => (hp.1.1 a k (fun y => by omega)).1) (fun k => (hp.1.1 243 k (by omega)).2) (fun q _ => by rw [hp.1.2])
    have eqs : eqL s0.1 s.1 := eqL_frj hp.1 (fun a k q => by omega)
    have e254 : s.1 254 = s0.1 254 := funext fun k => g 254 k (by omega) (by omega)
    have e252 : s.1 252 = s0.1 252 := funext fun k => g 252 k (by omega) (by omega)
    have ept : ∀ q, ptW s.1 w q = ptW s0.1 w q := fun q => by unfold ptW tgt; rw [e254, eqs.2.1, eqs.2.2.1]
    have efr : ∀ x, frW s.1 w x = frW s0.1 w x := fun x => by unfold frW atW; rw [e254, e252, eqs.1]
    rw [m273_7]
    refine k_v ?_
    rw [g 209 100 (by omega) (by omega), hc.1]
    by_cases hi : i < l.length
    · have hg := cOk_at k1 hi
      have hst := hp.2.1
      have hlen := hg.2.1
      have nx : ∀ t, pile s0 t (cStep (ptW s0.1 w) (frW s0.1 w) (l.getD i 0) (cRun (ptW s0.1 w) (frW s0.1 w) (l.take i) [])) → Ok (m273_7 m w ((i : Int) + 1) t) (fun r t => r = vlW s0.1 l w ∧ FrJ pFr s0 t) := by
        intro t ht
        have := ih (i + 1) t (by omega) (by omega) (by
          rw [List.take_succ_eq_append_getElem hi, cRun_app, cRun_one]
          have e0 : l.getD i 0 = l[i] := by rw [List.getD_eq_getElem?_getD, List.getElem?_eq_getElem hi]; rfl
          rw [e0] at ht
          exact ht)
        rw [show ((i + 1 : Nat) : Int) = (i : Int) + 1 by omega] at this
        exact this
      refine k_p (by omega) (k_x (by omega) (by omega) (k_v ?_))
      rw [g 285 _ (by omega) (by omega), hc.2 i hi]
      generalize l.getD i 0 = c at *
      generalize cRun (ptW s0.1 w) (frW s0.1 w) (l.take i) [] = st at *
      rcases hg.2.2 with h | h | h | h | h | h
      · refine k_q (by omega) (k_z (by omega) (by omega) (k_e (e269 (by omega) (by omega)) (k_z (by omega) (by omega) (nx _ ?_))))
        rw [cs_num h.1]
        exact pile_push hp
      · refine k_p (by omega) (k_p (by omega) (k_q (by omega) (k_z (by omega) (by omega) (k_e (e271 hRs (by rw [g 209 53 (by omega) (by omega)]; exact h53) w0 (by rw [eqs.1]; exact w1) (by omega) (by omega)) (k_e e267 ?_)))))
        rw [ept, clip_id (ptW_in hR w0 w1 _ (by omega) (by omega))]
        refine k_e (e269 (by omega) (by omega)) (k_z (by omega) (by omega) (nx _ ?_))
        rw [cs_part h.1 h.2]
        exact pile_push hp
      · refine k_p (by omega) (k_p (by omega) (k_p (by omega) (k_p h (k_e (e269 (by omega) (by omega)) (k_z (by omega) (by omega) (nx _ ?_))))))
        rw [cs_all h]
        exact pile_push hp
      · have htop := stk_top hp.2.2 h.2
        refine k_p (by omega) (k_q (by omega) (k_v ?_))
        rw [hst]
        refine k_z (by omega) (by omega) (k_z (by omega) (by omega) (k_v (k_z (by omega) (by omega) (k_x (by omega) (by omega) (k_v ?_)))))
        rw [show s.2.1 287 ((st.length : Int) - 1) = st.headD 0 from htop]
        refine k_e (e272 hRs w0 (by rw [eqs.1]; exact w1) (gd_top hg h.2)) (k_e e267 ?_)
        rw [efr, clip_id (frW_in hR w0 w1 _)]
        refine k_x (by omega) (by omega) (k_v (k_z (by omega) (by omega) (nx _ ?_)))
        rw [cs_far h.1]
        exact pile_set hp h.2
      · have htop := stk_top hp.2.2 h.2.1
        have hb := h.2.2
        refine k_p (by omega) (k_p (by omega) (k_p (by omega) (k_q (by omega) (k_p h.1 (k_v ?_)))))
        rw [hst]
        refine k_z (by omega) (by omega) (k_v (k_z (by omega) (by omega) (k_x (by omega) (by omega) (k_v ?_))))
        rw [show s.2.1 287 ((st.length : Int) - 1) = st.headD 0 from htop]
        refine k_j (by omega) (by omega) (k_x (by omega) (by omega) (k_v (k_z (by omega) (by omega) (nx _ ?_))))
        rw [cs_not h.1]
        exact pile_set hp h.2.1
      · have hn := h.2.2.1
        refine k_p (by omega) (k_p (by omega) (k_p (by omega) (k_q (by omega) (k_q (by omega) ?_))))
        refine k_e (e270 hst (by omega) (by omega) (stk_snd hp.2.2 hn) (stk_top hp.2.2 (by omega)) (gd_snd hg hn) (gd_top hg (by omega)) h.1 h.2.1) (k_z (by omega) (by omega) (nx _ ?_))
        rw [cs_op h.1 h.2.1]
        exact pile_op hp hn
    · have ei : i = l.length := by omega
      subst ei
      rw [List.take_length] at hp
      refine k_q (by omega) (k_x (by omega) (by omega) (k_v (k_r ⟨?_, hp.1⟩)))
      unfold vlW
      rw [k2] at hp ⊢
      exact hp.2.2.1
/-- the reference's value for one -/
theorem p273 {s0 : zS} {b : Prop} (hR : RL s0) (h53 : s0.1 209 53 = 0) (w0 : 0 ≤ w) (w1 : w < s0.1 242 6) (hc : mFm l s0) (hl : l.length ≤ 1600) (hs : cSm (ptW s0.1 w) (frW s0.1 w) b l []) : Ok (m273 w s0) (fun r t => r = vlW s0.1 l w ∧ FrJ pFr s0 t) := by
  unfold m273
  refine k_v ?_
  have f0 : FrJ pFr s0 (sI s0 209 106 0) := frj_I (Or.inl ⟨rfl, rfl⟩)
  have hR' : RL (sI s0 209 106 0) := RL_fr hR (fun a k z => (f0.1 a k (fun y => by omega)).1) (fun k => (f0.1 243 k (by omega)).2) (fun q _ => by rw [f0.2])
  have ept : ∀ q, ptW (sI s0 209 106 0).1 w q = ptW s0.1 w q := fun q => by
    unfold ptW tgt
    simp only [sI_a (s := s0) (a := 209) (a' := 254) (by decide), sI_a (s := s0) (a := 209) (a' := 245) (by decide), sI_a (s := s0) (a := 209) (a' := 246) (by decide)]
  have efr : ∀ x, frW (sI s0 209 106 0).1 w x = frW s0.1 w x := fun x => by
    unfold frW atW
    simp only [sI_a (s := s0) (a := 209) (a' := 254) (by decide), sI_a (s := s0) (a := 209) (a' := 252) (by decide), sI_a (s := s0) (a := 209) (a' := 242) (by decide)]
  have ep' : ptW (sI s0 209 106 0).1 w = ptW s0.1 w := funext ept
  have ef' : frW (sI s0 209 106 0).1 w = frW s0.1 w := funext efr
  have := p273_7 (w := w) (l := l) (b := b) hR' (by rw [sI_k (by omega)]; exact h53) w0 (by rw [sI_a (by omega)]; exact w1) ⟨by rw [sI_k (by omega)]; exact hc.1, fun i hi => by rw [sI_a (by omega)]; exact hc.2 i hi⟩ hl (by rw [ep', ef']; exact hs) zFu 0 (sI s0 209 106 0) (by omega) (by unfold zFu; omega) ⟨frj_refl, sI_e, trivial⟩
  refine k_m this (fun r t q => ⟨?_, frj_trans f0 q.2⟩)
  rw [q.1]
  unfold vlW
  rw [ep', ef']
end
