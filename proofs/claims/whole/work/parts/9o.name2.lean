/-! ===== names: the reference's ===== -/
/-- the reference between two words -/
def nN (g : Int → Int) (e F E : Int) (s : zS) : Prop := lxW g e F E ∧ rLx g e F E s ∧ (∀ q, q ∈ wTab → rWd s q.1 q.2) ∧ s.1 209 6 = -1
section
variable {g : Int → Int} {e F E : Int} {s t : zS} {Q : Int → zS → Prop}
theorem nN_fr {F' E' : Int} {A : Nat → Int → Prop} (hA : ∀ a k, A a k → ¬ (a = 209 ∧ k = 6) ∧ (a < 212 ∨ (242 ≤ a ∧ a < 263) ∨ 284 < a)) (h : nN g e F E s) (hl : rLx g e F' E' t) (hW : lxW g e F' E') (hf : FrJ A s t) : nN g e F' E' t := by
  refine ⟨hW, hl, fun q hq i hi => ?_, ?_⟩
  · have := wTab_at q hq
    rw [(hf.1 q.1 _ (fun z => by have := (hA _ _ z).2; omega)).1]
    exact h.2.2.1 q hq i hi
  · rw [(hf.1 209 6 (fun z => (hA _ _ z).1 ⟨rfl, rfl⟩)).1]
    exact h.2.2.2
theorem nN_here {m a : Nat} {l : List Int} (ht : tOk g e) (h : nN g e F E s) (hk : (a, l) ∈ wTab) (hm : m = l.length) (hl : m ≤ 10) : Ok (m157 m a s) (fun r t => r = (if isW g e F E l = true then 1 else 0) ∧ t.1 209 2 = F ∧ nN g e F E t ∧ Fr yF s t) := by
  refine k_m (p157 ht h.1 h.2.1 hm (by omega) (h.2.2.1 _ hk) (by have := wTab_at _ hk; omega)) ?_
  rintro r t ⟨t1, t2, t3, t4⟩
  exact ⟨t1, t2, nN_fr (A := yF) (fun a k z => by omega) h t3 h.1 (frj_of t4), t4⟩
theorem nN_look (ht : tOk g e) (h : nN g e F E s) : Ok (m156 s) (fun r t => r = lkV g e F ∧ t.1 209 2 = F ∧ nN g e F E t ∧ Fr yF s t) := by
  refine k_m (p156 ht h.2.1) ?_
  rintro r t ⟨t1, t2, t3, t4⟩
  exact ⟨t1, t2, nN_fr (A := yF) (fun a k z => by omega) h t3 h.1 (frj_of t4), t4⟩
theorem nN_take {m a : Nat} {l : List Int} (ht : tOk g e) (h : nN g e F E s) (hk : (a, l) ∈ wTab) (hm : m = l.length) (hl : m ≤ 10) (hi : isW g e F E l = true) : Ok (m158 m a s) (fun r t => r = 1 ∧ nN g e (nxF g e F) (nxE g e F E) t ∧ Fr yF s t) := by
  refine k_m (p158t ht h.1 h.2.1 hm (by omega) (h.2.2.1 _ hk) (by have := wTab_at _ hk; omega) hi) ?_
  rintro r t ⟨t1, t2, t3⟩
  exact ⟨t1, nN_fr (A := yF) (fun a k z => by omega) h t2 (nx_any h.1 (isW_F hi)).1 (frj_of t3), t3⟩
theorem nN_notake {m a : Nat} {l : List Int} (ht : tOk g e) (h : nN g e F E s) (hk : (a, l) ∈ wTab) (hm : m = l.length) (hl : m ≤ 10) (hi : isW g e F E l = false) : Ok (m158 m a s) (fun r t => r = 0 ∧ t.1 209 2 = F ∧ nN g e F E t ∧ Fr yF s t) := by
  refine k_m (p158f ht h.1 h.2.1 hm (by omega) (h.2.2.1 _ hk) (by have := wTab_at _ hk; omega) hi) ?_
  rintro r t ⟨t1, t2, t3, t4⟩
  exact ⟨t1, t2, nN_fr (A := yF) (fun a k z => by omega) h t3 h.1 (frj_of t4), t4⟩
theorem nN_asks {m a : Nat} {l : List Int} (ht : tOk g e) (h : nN g e F E s) (hk : (a, l) ∈ wTab) (hm : m = l.length) (hl : m ≤ 10) (hi : isW g e F E l = true) : Ok (m159 m a s) (fun _ t => nN g e (nxF g e F) (nxE g e F E) t ∧ Fr yF s t) := by
  refine k_m (p159t ht h.1 h.2.1 hm (by omega) (h.2.2.1 _ hk) (by have := wTab_at _ hk; omega) hi) ?_
  rintro r t ⟨t2, t3⟩
  exact ⟨nN_fr (A := yF) (fun a k z => by omega) h t2 (nx_any h.1 (isW_F hi)).1 (frj_of t3), t3⟩
theorem w_st2 {x : Option (Int × zS)} {k k1 : zS → Option (Int × zS)} {b : Bool} {A : zS → Prop} (hx : Ok x (fun r t => r = (if b = true then 1 else 0) ∧ A t)) (h1 : b = true → ∀ t, A t → Ok (k1 t) Q) (h0 : b = false → ∀ t, A t → Ok (k t) Q) : Ok (oC x fun z t => if z = (0 : Int) then k t else k1 t) Q := by
  refine k_c hx ?_
  rintro r t ⟨rfl, h⟩
  cases b with
  | true => exact k_q (by decide) (h1 rfl t h)
  | false => exact k_p rfl (h0 rfl t h)
theorem isOwn_t {a : Nat} {l : List Int} (hm : (a, l) ∈ ownT) (h : isW g e F E l = true) : isOwn g e F E = true := by
  unfold isOwn
  exact List.any_eq_true.mpr ⟨(a, l), hm, h⟩
set_option maxRecDepth 4000 in
/-- whether one of the own words is here -/
theorem p163 (ht : tOk g e) (h : nN g e F E s) : Ok (m163 s) (fun r t => r = (if isOwn g e F E = true then 1 else 0) ∧ t.1 209 2 = F ∧ nN g e F E t ∧ Fr yF s t) := by
  have hr := fun (m a : Nat) (l : List Int) (t : zS) (ht' : nN g e F E t) hk hm hl => nN_here (m := m) (a := a) (l := l) ht ht' hk hm hl
  have y1 : ∀ t, isOwn g e F E = true → t.1 209 2 = F → nN g e F E t → Fr yF s t → Ok (some ((1 : Int), t)) (fun r t => r = (if isOwn g e F E = true then 1 else 0) ∧ t.1 209 2 = F ∧ nN g e F E t ∧ Fr yF s t) := fun t z a b c => k_r ⟨by rw [if_pos z], a, b, c⟩
  have y299 : ∀ t, isOwn g e F E = true → t.1 209 2 = F → nN g e F E t → Fr yF s t → Ok (m163_299 1 t) (fun r t => r = (if isOwn g e F E = true then 1 else 0) ∧ t.1 209 2 = F ∧ nN g e F E t ∧ Fr yF s t) := fun t z a b c => by unfold m163_299; exact k_q (by decide) (y1 t z a b c)
  have y223 : ∀ t, isOwn g e F E = true → t.1 209 2 = F → nN g e F E t → Fr yF s t → Ok (m163_223 1 t) (fun r t => r = (if isOwn g e F E = true then 1 else 0) ∧ t.1 209 2 = F ∧ nN g e F E t ∧ Fr yF s t) := fun t z a b c => by unfold m163_223; exact k_q (by decide) (y299 t z a b c)
  have y147 : ∀ t, isOwn g e F E = true → t.1 209 2 = F → nN g e F E t → Fr yF s t → Ok (m163_147 1 t) (fun r t => r = (if isOwn g e F E = true then 1 else 0) ∧ t.1 209 2 = F ∧ nN g e F E t ∧ Fr yF s t) := fun t z a b c => by unfold m163_147; exact k_q (by decide) (y223 t z a b c)
  have y71 : ∀ t, isOwn g e F E = true → t.1 209 2 = F → nN g e F E t → Fr yF s t → Ok (m163_71 1 t) (fun r t => r = (if isOwn g e F E = true then 1 else 0) ∧ t.1 209 2 = F ∧ nN g e F E t ∧ Fr yF s t) := fun t z a b c => by unfold m163_71; exact k_q (by decide) (y147 t z a b c)
  unfold m163
  refine w_st2 (hr 5 212 [112, 108, 97, 99, 101] s h (by decide) (by decide) (by decide)) (fun c t0 p0 => y71 t0 (isOwn_t (a := 212) (by decide) c) p0.1 p0.2.1 p0.2.2) (fun c0 t0 p0 => ?_)
  have f0 := p0.2.2
  refine w_st2 (hr 4 213 [114, 111, 97, 100] t0 p0.2.1 (by decide) (by decide) (by decide)) (fun c t1 p1 => y71 t1 (isOwn_t (a := 213) (by decide) c) p1.1 p1.2.1 (fr_trans f0 p1.2.2)) (fun c1 t1 p1 => ?_)
  have f1 := fr_trans f0 p1.2.2
  refine w_st2 (hr 5 214 [109, 105, 108, 101, 115] t1 p1.2.1 (by decide) (by decide) (by decide)) (fun c t2 p2 => y71 t2 (isOwn_t (a := 214) (by decide) c) p2.1 p2.2.1 (fr_trans f1 p2.2.2)) (fun c2 t2 p2 => ?_)
  have f2 := fr_trans f1 p2.2.2
  refine w_st2 (hr 4 215 [112, 97, 105, 114] t2 p2.2.1 (by decide) (by decide) (by decide)) (fun c t3 p3 => y71 t3 (isOwn_t (a := 215) (by decide) c) p3.1 p3.2.1 (fr_trans f2 p3.2.2)) (fun c3 t3 p3 => ?_)
  have f3 := fr_trans f2 p3.2.2
  refine w_st2 (hr 4 216 [115, 105, 122, 101] t3 p3.2.1 (by decide) (by decide) (by decide)) (fun c t4 p4 => y71 t4 (isOwn_t (a := 216) (by decide) c) p4.1 p4.2.1 (fr_trans f3 p4.2.2)) (fun c4 t4 p4 => ?_)
  have f4 := fr_trans f3 p4.2.2
  refine w_st2 (hr 5 217 [112, 117, 108, 108, 115] t4 p4.2.1 (by decide) (by decide) (by decide)) (fun c t5 p5 => y71 t5 (isOwn_t (a := 217) (by decide) c) p5.1 p5.2.1 (fr_trans f4 p5.2.2)) (fun c5 t5 p5 => ?_)
  have f5 := fr_trans f4 p5.2.2
  unfold m163_71
  refine k_p rfl ?_
  refine w_st2 (hr 2 218 [98, 121] t5 p5.2.1 (by decide) (by decide) (by decide)) (fun c t6 p6 => y147 t6 (isOwn_t (a := 218) (by decide) c) p6.1 p6.2.1 (fr_trans f5 p6.2.2)) (fun c6 t6 p6 => ?_)
  have f6 := fr_trans f5 p6.2.2
  refine w_st2 (hr 6 219 [119, 97, 108, 107, 101, 114] t6 p6.2.1 (by decide) (by decide) (by decide)) (fun c t7 p7 => y147 t7 (isOwn_t (a := 219) (by decide) c) p7.1 p7.2.1 (fr_trans f6 p7.2.2)) (fun c7 t7 p7 => ?_)
  have f7 := fr_trans f6 p7.2.2
  refine w_st2 (hr 4 220 [119, 105, 108, 108] t7 p7.2.1 (by decide) (by decide) (by decide)) (fun c t8 p8 => y147 t8 (isOwn_t (a := 220) (by decide) c) p8.1 p8.2.1 (fr_trans f7 p8.2.2)) (fun c8 t8 p8 => ?_)
  have f8 := fr_trans f7 p8.2.2
  refine w_st2 (hr 2 221 [116, 111] t8 p8.2.1 (by decide) (by decide) (by decide)) (fun c t9 p9 => y147 t9 (isOwn_t (a := 221) (by decide) c) p9.1 p9.2.1 (fr_trans f8 p9.2.2)) (fun c9 t9 p9 => ?_)
  have f9 := fr_trans f8 p9.2.2
  refine w_st2 (hr 2 222 [105, 110] t9 p9.2.1 (by decide) (by decide) (by decide)) (fun c t10 p10 => y147 t10 (isOwn_t (a := 222) (by decide) c) p10.1 p10.2.1 (fr_trans f9 p10.2.2)) (fun c10 t10 p10 => ?_)
  have f10 := fr_trans f9 p10.2.2
  refine w_st2 (hr 4 223 [112, 117, 108, 108] t10 p10.2.1 (by decide) (by decide) (by decide)) (fun c t11 p11 => y147 t11 (isOwn_t (a := 223) (by decide) c) p11.1 p11.2.1 (fr_trans f10 p11.2.2)) (fun c11 t11 p11 => ?_)
  have f11 := fr_trans f10 p11.2.2
  unfold m163_147
  refine k_p rfl ?_
  refine w_st2 (hr 6 224 [115, 116, 114, 105, 118, 101] t11 p11.2.1 (by decide) (by decide) (by decide)) (fun c t12 p12 => y223 t12 (isOwn_t (a := 224) (by decide) c) p12.1 p12.2.1 (fr_trans f11 p12.2.2)) (fun c12 t12 p12 => ?_)
  have f12 := fr_trans f11 p12.2.2
  refine w_st2 (hr 3 225 [108, 97, 119] t12 p12.2.1 (by decide) (by decide) (by decide)) (fun c t13 p13 => y223 t13 (isOwn_t (a := 225) (by decide) c) p13.1 p13.2.1 (fr_trans f12 p13.2.2)) (fun c13 t13 p13 => ?_)
  have f13 := fr_trans f12 p13.2.2
  refine w_st2 (hr 4 226 [108, 101, 103, 115] t13 p13.2.1 (by decide) (by decide) (by decide)) (fun c t14 p14 => y223 t14 (isOwn_t (a := 226) (by decide) c) p14.1 p14.2.1 (fr_trans f13 p14.2.2)) (fun c14 t14 p14 => ?_)
  have f14 := fr_trans f13 p14.2.2
  refine w_st2 (hr 4 227 [114, 97, 105, 110] t14 p14.2.1 (by decide) (by decide) (by decide)) (fun c t15 p15 => y223 t15 (isOwn_t (a := 227) (by decide) c) p15.1 p15.2.1 (fr_trans f14 p15.2.2)) (fun c15 t15 p15 => ?_)
  have f15 := fr_trans f14 p15.2.2
  refine w_st2 (hr 5 228 [104, 97, 98, 105, 116] t15 p15.2.1 (by decide) (by decide) (by decide)) (fun c t16 p16 => y223 t16 (isOwn_t (a := 228) (by decide) c) p16.1 p16.2.1 (fr_trans f15 p16.2.2)) (fun c16 t16 p16 => ?_)
  have f16 := fr_trans f15 p16.2.2
  refine w_st2 (hr 5 229 [116, 105, 103, 104, 116] t16 p16.2.1 (by decide) (by decide) (by decide)) (fun c t17 p17 => y223 t17 (isOwn_t (a := 229) (by decide) c) p17.1 p17.2.1 (fr_trans f16 p17.2.2)) (fun c17 t17 p17 => ?_)
  have f17 := fr_trans f16 p17.2.2
  unfold m163_223
  refine k_p rfl ?_
  refine w_st2 (hr 6 230 [119, 97, 108, 107, 101, 100] t17 p17.2.1 (by decide) (by decide) (by decide)) (fun c t18 p18 => y299 t18 (isOwn_t (a := 230) (by decide) c) p18.1 p18.2.1 (fr_trans f17 p18.2.2)) (fun c18 t18 p18 => ?_)
  have f18 := fr_trans f17 p18.2.2
  refine w_st2 (hr 3 231 [100, 97, 121] t18 p18.2.1 (by decide) (by decide) (by decide)) (fun c t19 p19 => y299 t19 (isOwn_t (a := 231) (by decide) c) p19.1 p19.2.1 (fr_trans f18 p19.2.2)) (fun c19 t19 p19 => ?_)
  have f19 := fr_trans f18 p19.2.2
  refine w_st2 (hr 6 232 [110, 117, 109, 98, 101, 114] t19 p19.2.1 (by decide) (by decide) (by decide)) (fun c t20 p20 => y299 t20 (isOwn_t (a := 232) (by decide) c) p20.1 p20.2.1 (fr_trans f19 p20.2.2)) (fun c20 t20 p20 => ?_)
  have f20 := fr_trans f19 p20.2.2
  refine w_st2 (hr 5 233 [116, 104, 101, 114, 101] t20 p20.2.1 (by decide) (by decide) (by decide)) (fun c t21 p21 => y299 t21 (isOwn_t (a := 233) (by decide) c) p21.1 p21.2.1 (fr_trans f20 p21.2.2)) (fun c21 t21 p21 => ?_)
  have f21 := fr_trans f20 p21.2.2
  refine w_st2 (hr 4 234 [119, 101, 110, 116] t21 p21.2.1 (by decide) (by decide) (by decide)) (fun c t22 p22 => y299 t22 (isOwn_t (a := 234) (by decide) c) p22.1 p22.2.1 (fr_trans f21 p22.2.2)) (fun c22 t22 p22 => ?_)
  have f22 := fr_trans f21 p22.2.2
  refine w_st2 (hr 3 235 [102, 97, 114] t22 p22.2.1 (by decide) (by decide) (by decide)) (fun c t23 p23 => y299 t23 (isOwn_t (a := 235) (by decide) c) p23.1 p23.2.1 (fr_trans f22 p23.2.2)) (fun c23 t23 p23 => ?_)
  have f23 := fr_trans f22 p23.2.2
  unfold m163_299
  refine k_p rfl ?_
  refine w_st2 (hr 2 236 [111, 114] t23 p23.2.1 (by decide) (by decide) (by decide)) (fun c t24 p24 => y1 t24 (isOwn_t (a := 236) (by decide) c) p24.1 p24.2.1 (fr_trans f23 p24.2.2)) (fun c24 t24 p24 => ?_)
  have f24 := fr_trans f23 p24.2.2
  refine w_st2 (hr 3 237 [97, 110, 100] t24 p24.2.1 (by decide) (by decide) (by decide)) (fun c t25 p25 => y1 t25 (isOwn_t (a := 237) (by decide) c) p25.1 p25.2.1 (fr_trans f24 p25.2.2)) (fun c25 t25 p25 => ?_)
  have f25 := fr_trans f24 p25.2.2
  refine w_st2 (hr 3 238 [110, 111, 116] t25 p25.2.1 (by decide) (by decide) (by decide)) (fun c t26 p26 => y1 t26 (isOwn_t (a := 238) (by decide) c) p26.1 p26.2.1 (fr_trans f25 p26.2.2)) (fun c26 t26 p26 => ?_)
  have f26 := fr_trans f25 p26.2.2
  refine w_st2 (hr 3 239 [97, 108, 108] t26 p26.2.1 (by decide) (by decide) (by decide)) (fun c t27 p27 => y1 t27 (isOwn_t (a := 239) (by decide) c) p27.1 p27.2.1 (fr_trans f26 p27.2.2)) (fun c27 t27 p27 => ?_)
  have f27 := fr_trans f26 p27.2.2
  refine w_st2 (hr 3 240 [109, 105, 110] t27 p27.2.1 (by decide) (by decide) (by decide)) (fun c t28 p28 => y1 t28 (isOwn_t (a := 240) (by decide) c) p28.1 p28.2.1 (fr_trans f27 p28.2.2)) (fun c28 t28 p28 => ?_)
  have f28 := fr_trans f27 p28.2.2
  refine w_st2 (hr 3 241 [109, 97, 120] t28 p28.2.1 (by decide) (by decide) (by decide)) (fun c t29 p29 => y1 t29 (isOwn_t (a := 241) (by decide) c) p29.1 p29.2.1 (fr_trans f28 p29.2.2)) (fun c29 t29 p29 => ?_)
  have f29 := fr_trans f28 p29.2.2
  have no : isOwn g e F E = false := by
    unfold isOwn ownT wTab
    simp only [List.take_succ_cons, List.take_zero, List.any_cons, List.any_nil, c0, c1, c2, c3, c4, c5, c6, c7, c8, c9, c10, c11, c12, c13, c14, c15, c16, c17, c18, c19, c20, c21, c22, c23, c24, c25, c26, c27, c28, c29, Bool.false_or]
  exact k_r ⟨by rw [no]; rfl, p29.1, p29.2.1, f29⟩
abbrev ynF (a : Nat) (k : Int) : Prop := a = 209 ∧ (k = 2 ∨ k = 4 ∨ k = 40)
abbrev yeF (a : Nat) (k : Int) : Prop := a = 209 ∧ (k = 2 ∨ k = 4 ∨ k = 5 ∨ k = 6 ∨ k = 40)
def rNam (g : Int → Int) (e F : Int) (s : zS) (x : (Int × Int) ⊕ (Int × Int × Int)) (r : Int) (t : zS) : Prop := match x with
  | .inl q => r = 0 ∧ t.1 209 5 = q.1 ∧ t.1 209 6 = q.2 ∧ Fr yeF s t
  | .inr q => r = q.1 ∧ nN g e q.2.1 q.2.2 t ∧ t.1 209 40 = F ∧ Fr ynF s t
theorem nmV_up {l : Int → Int} : ∀ n : Nat, (∀ k : Int, 0 ≤ k → k < (n : Int) → 1 ≤ l k ∧ l k ≤ 26) → n ≤ 6 → 0 ≤ nmV l n ∧ nmV l n ≤ 387420488 := by
  intro n h hn
  have p27 : ∀ j : Nat, j ≤ n → 0 ≤ nmV l j ∧ nmV l j < (27 : Int) ^ j := by
    intro j
    induction j with
    | zero => intro _; exact ⟨by show (0 : Int) ≤ 0; omega, by show (0 : Int) < 1; omega⟩
    | succ j ih =>
      intro hj
      have h1 := ih (by omega)
      have h2 := h (j : Int) (by omega) (by omega)
      show 0 ≤ 27 * nmV l j + l (j : Int) ∧ 27 * nmV l j + l (j : Int) < (27 : Int) ^ (j + 1)
      rw [Int.pow_succ]
      omega
  have := p27 n (by omega)
  have h6 : (27 : Int) ^ n ≤ 387420489 := by
    have : n = 0 ∨ n = 1 ∨ n = 2 ∨ n = 3 ∨ n = 4 ∨ n = 5 ∨ n = 6 := by omega
    rcases this with rfl | rfl | rfl | rfl | rfl | rfl | rfl <;> decide
  omega
theorem p164_58 (ht : tOk g e) (hW : lxW g e F E) (hk : tkK g e F E = 1 ∧ ¬ isOwn g e F E = true) {s0 : zS} (h0 : nN g e F E s0) (h40 : s0.1 209 40 = F) : ∀ (n i : Nat) (s : zS), F + (i : Int) ≤ tkB g e F → i ≤ 6 → 7 - i < n → s.1 209 2 = F + (i : Int) → Fr yF s0 s → Ok (m164_58 n (nmV (fun k => g (F + k) - 96) i) s) (rNam g e F s0 (lxNm g e F E)) := by
  have hle := ht.2.1
  have hF0 := hW.1
  have hB := tkB_in hW
  intro n
  induction n with
  | zero => intro i s _ _ h; omega
  | succ n ih =>
    intro i s h1 h2 h3 ha hs
    have hT : rTp g e s := rTp_fr (A := yF) (fun a k z => by omega) (frj_of hs) h0.2.1.1
    have h5 : s.1 209 5 = 0 := by rw [hs.1 209 5 (by omega)]; exact h0.2.1.2.1
    have hv := nmV_up (l := fun k => g (F + k) - 96) i (fun k k0 kx => by
      have := word_let hW hk.1 (i := F + k) (by omega) (by omega)
      show 1 ≤ g (F + k) - 96 ∧ g (F + k) - 96 ≤ 26
      omega) h2
    rw [m164_58]
    refine k_v (k_v ?_)
    rw [ha, hT.1]
    -- the name has ended
    have fin : F + (i : Int) = tkB g e F → Ok (oV (sI s 209 4 (F + (i : Int))) fun s12 => some (nmV (fun k => g (F + k) - 96) i, s12)) (rNam g e F s0 (lxNm g e F E)) := by
      intro z
      have ei : (tkB g e F - F).toNat = i := by omega
      have hx := nx_w hW (Or.inl hk.1)
      rw [lxNm_n hk (by omega), ei]
      refine k_v (k_r ⟨rfl, ?_, ?_, fr_trans (fr_mono (fun a k z => by omega) hs) (fr_I (by omega))⟩)
      · refine nN_fr (A := yF) (fun a k z => by omega) h0 ⟨rTp_fr (A := yF) (s := s) (fun a k z => by omega) (frj_of (fr_I (by omega))) hT, ?_, ?_, ?_, ?_⟩ hx.2.1 (frj_of (fr_trans hs (fr_I (by omega))))
        · rw [sI_k (by omega)]; exact h5
        · rw [sI_k (by omega), ha]; omega
        · rw [sI_k (by omega), ha, z]; exact hx.2.2
        · show (sI s 209 4 (F + (i : Int))).1 209 4 = nxE g e F E
          rw [sI_e, hx.1, z]
      · rw [sI_k (by omega), hs.1 209 40 (by omega)]; exact h40
    by_cases c : F + (i : Int) < tkB g e F
    · have hd := word_let hW hk.1 (i := F + (i : Int)) (by omega) (by omega)
      refine k_p (by omega) (k_v (k_x (by omega) (by omega) (k_v ?_)))
      rw [hT.2 _ (by omega) (by omega)]
      refine k_e e154 ?_
      rw [if_pos hd]
      refine k_q (by decide) (k_v (k_v ?_))
      rw [ha, hs.1 209 40 (by omega), h40]
      refine k_z (by omega) (by omega) (k_i (fun z => k_v ?_) (fun z => k_j (by omega) (by omega) (k_v (k_x (by omega) (by omega) (k_v ?_)))))
      · refine k_c (p153 h5) ?_
        rintro _ t ⟨t1, t2, t3⟩
        rw [lxNm_6 hk (by omega)]
        exact k_r ⟨rfl, t1, by rw [t2]; show F + (i : Int) = F + 6; omega, fr_trans (fr_mono (fun a k z => by omega) hs) (fr_mono (fun a k z => by omega) t3)⟩
      · rw [hT.2 _ (by omega) (by omega)]
        refine k_j (by omega) (by omega) (k_j (by omega) (by omega) (k_j (by omega) (by omega) (k_v (k_z (by omega) (by omega) (k_v ?_)))))
        have := ih (i + 1) (sI s 209 2 (F + (i : Int) + 1)) (by omega) (by omega) (by omega) (by rw [sI_e]; omega) (fr_trans hs (fr_I (by omega)))
        have e1 : nmV (fun k => g (F + k) - 96) (i + 1) = 27 * nmV (fun k => g (F + k) - 96) i + g (F + (i : Int)) - 97 + 1 := by
          show 27 * nmV (fun k => g (F + k) - 96) i + (g (F + (i : Int)) - 96) = _
          omega
        rw [e1] at this
        exact this
    · have ez : F + (i : Int) = tkB g e F := by omega
      refine k_i (fun z => k_v (k_x (by omega) (by omega) (k_v ?_))) (fun z => k_v (fin ez))
      rw [hT.2 _ (by omega) (by omega)]
      refine k_e e154 ?_
      have := word_end hW hk.1 (by omega)
      rw [← ez] at this
      rw [if_neg this]
      refine k_p rfl (k_v ?_)
      rw [ha]
      exact fin ez
/-- the reference's name -/
theorem p164 (ht : tOk g e) (h : nN g e F E s) : Ok (m164 s) (rNam g e F s (lxNm g e F E)) := by
  have hW := h.1
  have hle := ht.2.1
  have hF0 := hW.1
  have hB := tkB_in hW
  unfold m164
  refine k_v ?_
  rw [h.2.1.2.1]
  refine k_p rfl (k_c (nN_look ht h) ?_)
  rintro r t ⟨e1, e2, e3, e4⟩
  have no : ∀ u, u.1 209 2 = F → u.1 209 5 = 0 → Fr yF s u → ¬ (tkK g e F E = 1 ∧ ¬ isOwn g e F E = true) → Ok (oV (u.1 209 2) fun z10 => oC (m153 1 z10 u) fun _ s12 => some ((0 : Int), s12)) (rNam g e F s (lxNm g e F E)) := by
    intro u u2 u5 fu z
    refine k_v (k_c (p153 u5) ?_)
    rintro _ v ⟨v1, v2, v3⟩
    rw [lxNm_1 z]
    exact k_r ⟨rfl, v1, by rw [v2, u2], fr_trans (fr_mono (fun a k z => by omega) fu) (fr_mono (fun a k z => by omega) v3)⟩
  refine k_e e154 ?_
  rw [e1]
  by_cases c : 97 ≤ lkV g e F ∧ lkV g e F ≤ 122
  · rw [if_pos c]
    have fe : F < e := by
      apply Classical.byContradiction
      intro z
      unfold lkV at c
      rw [if_neg z] at c
      omega
    have kf : kindB (g F) = 1 := by
      unfold lkV at c
      rw [if_pos fe] at c
      exact kB_1.mpr c
    refine k_q (by decide) (k_v (k_v ?_))
    by_cases z : F = E
    · refine k_p (by rw [e2, e3.2.1.2.2.2.2]; exact z) (no t e2 e3.2.1.2.1 e4 (fun y => (tkK_1 y.1).2.2 z))
    · refine k_q (by rw [e2, e3.2.1.2.2.2.2]; exact z) (k_c (p163 ht e3) ?_)
      have k1 : tkK g e F E = 1 := by rw [tkK_k fe z]; exact kf
      rintro r u ⟨rfl, u2, u3, u4⟩
      by_cases o : isOwn g e F E = true
      · rw [if_pos o]
        exact k_q (by decide) (no u u2 u3.2.1.2.1 (fr_trans e4 u4) (fun y => y.2 o))
      · rw [if_neg o]
        refine k_p rfl (k_v (k_v ?_))
        rw [u2]
        have fv : Fr ynF s (sI u 209 40 F) := fr_trans (fr_mono (fun a k z => by omega) e4) (fr_trans (fr_mono (fun a k z => by omega) u4) (fr_I (by omega)))
        have nv : nN g e F E (sI u 209 40 F) := nN_fr (A := fun a k => a = 209 ∧ k = 40) (fun a k z => by omega) u3 (rLx_fr (A := fun a k => a = 209 ∧ k = 40) (fun a k z => by omega) (frj_of (fr_I ⟨rfl, rfl⟩)) u3.2.1) hW (frj_of (fr_I ⟨rfl, rfl⟩))
        have := p164_58 ht hW ⟨k1, o⟩ nv sI_e zFu 0 (sI u 209 40 F) (by have := hB.1; omega) (by omega) (by unfold zFu; omega) (by rw [sI_k (by omega), u2]; omega) fr_refl
        refine k_m this (fun r w hw => ?_)
        generalize lxNm g e F E = x at hw
        rcases x with q | q
        · exact ⟨hw.1, hw.2.1, hw.2.2.1, fr_trans (fr_mono (fun a k z => by omega) fv) hw.2.2.2⟩
        · exact ⟨hw.1, hw.2.1, hw.2.2.1, fr_trans fv hw.2.2.2⟩
  · rw [if_neg c]
    refine k_p rfl (no t e2 e3.2.1.2.1 e4 (fun y => c ?_))
    obtain ⟨y1, y2, _⟩ := tkK_1 y.1
    unfold lkV
    rw [if_pos y1]
    exact kB_1.mp y2
end
