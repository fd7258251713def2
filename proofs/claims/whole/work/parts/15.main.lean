/-! ===== calls, and the whole run ===== -/
section AMain
variable {SC : State → Prop} {ad : Nat → Nat} {base b : Nat} {sa : Nat → Nat} {ids : aIds} {D : va_G} {X : Nat × (Nat → Int32)}
theorem aGoodWs {mi : Nat} {mq : aMd} (hmq : aMs mi = some mq) (hne : mi ≠ 295) : GoodIn aTs (Cond.code mq.2.1 mq.2.2.1 mq.2.2.2.1 (aRt mq.2.2.2.2.1) :: aTs) := by
  intro w hw
  rcases List.mem_cons.mp hw with rfl | hw
  · have h := aCode_ok hmq hne
    exact ⟨h, good_of_word (List.mem_filter.mp h).2⟩
  · exact aTs_good w hw
theorem aPre_ok (hSC : aStay SC base) {s : State} {H : Heap} {locs : List Loc} {as : List Value} {h : aHp} (hCx : aCx SC base b ids D X s) (hrel : aRel ad base ids D h H) (hS : va_S (fun q => base ≤ q) s.heap H locs) : ∀ U : State, U.heap = H → s.WarmedH U.vm → aPc SC ad base b ids D X as h (as.map (aCv ad)).toArray U := by
  intro U hU hW
  refine ⟨rfl, aCx_moved hSC hCx (by rw [hU]; exact Nat.le_trans hCx.1 hS.1) (fun q hq => ?_) hW, by rw [hU]; exact hrel⟩
  rw [hU]
  exact hS.2.1 q (Nat.lt_of_lt_of_le hq hCx.1) (by show ¬ base ≤ q; omega)
set_option maxHeartbeats 4000000 in
theorem aCall_ok {n d' pc len : Nat} {l : List (Option Value)} {st as rr : List Value} {h h1 : aHp} {v1 : Option Value} {md mq : aMd} {ins : Instr} {lk : aLk} (ih : aSnd SC ad base b ids D X n) (hSC : aStay SC base) (hA : aAdOk ad base b sa)
    {p : Program} {la : Launch} {e : Env} {R : Room} {s : State} {m : MethodId} {args : Array Value} {below : List Frame} {meth : Method} {c : Code} {Q : State → Prop} {n0 s0 : Nat} (C : aMc p s m meth c args md) (hCx : aCx SC base b ids D X s) (hXh : aXn h = X.1 ∧ aX h = X.2)
    (hd : decode md.2.2.1 pc = .ok (ins, len)) (hlen : aWant ins = 0 ∨ aWant ins = len) (hlk : aLnk md pc ins lk = true) (hnar : aNar md lk ins = true) (hpop : aPop lk.2.1 st [] = some (as, rr)) (hw8 : aW8 rr = true)
    (hins : (∃ ix, ins = .invokevirtual ix ∧ lk.2.2 ≠ 1 ∧ lk.2.2 ≠ 2) ∨ (∃ ix, ins = .invokespecial ix ∧ lk.2.2 ≠ 4) ∨ (∃ ix, ins = .invokestatic ix ∧ lk.2.2 ≠ 3)) (hmq : aMs lk.1 = some mq) (hlenA : (aLoc as).length ≤ mq.2.2.2.1) (hrcv : aRcv ins mq.1 h as = true)
    (hcall : aRun aMs aSS n d' lk.1 0 (aEnter mq.2.2.2.1 as) [] h = some (v1, h1)) (hRf : d' + 1 ≤ R.frames) (hRl : 64 * (d' + 1) ≤ R.locals) (hn0 : n0 ≤ aN h) (hs0 : s0 ≤ aSl h) (hRc : aN h1 ≤ R.cells + n0) (hRs : aSl h1 ≤ R.slots + s0)
    (K : aKt p la e R s m args below meth c Q ad base ids D md.2.2.2.1 n0 s0 (pc + 3, l, v1.toList ++ rr, h1)) : aKt p la e R s m args below meth c Q ad base ids D md.2.2.2.1 n0 s0 (pc, l, st, h) := by
  intro H locs ls hC
  obtain ⟨hx, hb, hml, hown, hts, -⟩ := id C
  obtain ⟨g1, g2, g3, g4, g5⟩ := aMeth_gen hmq
  obtain ⟨k1, k2, -, -⟩ := aRun_mono n hcall
  have hcf : aRel ad base ids D h H := hC.1
  have hlt := (aMs_mem hmq).2
  obtain ⟨hst, has⟩ := aPop_st (ad := ad) hpop
  have hls : ls.size = md.2.2.2.1 := by obtain ⟨-, lv, h2, -⟩ := hC.2.2; exact h2.1
  have hcat := aW8_map (ad := ad) rr hw8
  have hW8 : 2 * (F0 m pc ls (st.map (aCv ad))).monitorRoom + ((rr.map (aCv ad)).map fun v => v.category).sum ≤ 8 := lv_room hcat
  have hini : (Cond.initialized mq.2.1.cls).before args s = true := by rw [g1]; exact hts _ (aInit_ok g3)
  have hno := aCn_no mq.1 g3
  have hR : d' + 1 ≤ R.frames ∧ 8 + (mq.2.2.2.1 + 11) + 64 * d' ≤ R.locals := ⟨hRf, by omega⟩
  have hf : aN h - n0 + (aN h1 - aN h) ≤ R.cells ∧ aSl h - s0 + (aSl h1 - aSl h) ≤ R.slots := ⟨by omega, by omega⟩
  have hpre := aPre_ok (as := as) hSC hCx hcf hC.2.1
  have hfix : CallFix p m c md.2.2.1 md.2.2.2.1 s args aTs (aCn md.1) := ⟨hx, hb, hml, hown, hts⟩
  have e3 : len = 3 := by
    rcases hins with ⟨ix, rfl, -⟩ | ⟨ix, rfl, -⟩ | ⟨ix, rfl, -⟩ <;> rcases hlen with z | z <;> first | exact z.symm | (cases z; done)
  subst e3
  have link : ∀ {ix : Nat}, aHas4 aML md.1 ix lk.1 = true → (Cond.methodLink (aCn md.1) ix mq.2.1).before args s = true := by
    intro ix hl
    have := hts _ (aHasM_ok hl)
    rw [aSpec_lt hlt, g5] at this
    exact this
  show W p la e R s m args below meth c H locs (aN h - n0) (aSl h - s0) Q (F0 m pc ls (st.map (aCv ad)))
  rcases hins with ⟨ix, rfl, z1, z2⟩ | ⟨ix, rfl, z4⟩ | ⟨ix, rfl, z3⟩
  · have hlk : (match lk.2.2 with
      | 0 => aHas4 aML md.1 ix lk.1 && (Nat.beq (aMk lk.1) 0 && Nat.blt 0 lk.2.1)
      | 1 => aHas4 aML md.1 ix 1001
      | 2 => aHas4 aML md.1 ix 1002
      | _ => false) = true := hlk
    split at hlk
    · rename_i hz0
      simp only [Bool.and_eq_true] at hlk
      obtain ⟨hl, hk, hp0⟩ := hlk
      have hk : aMk lk.1 = 0 := Nat.eq_of_beq_eq_true hk
      have hne : lk.1 ≠ 295 := fun z => by rw [z, aMk_law] at hk; cases hk
      have hnar : (match lk.2.2 with
        | 0 => decide ((parseMethodDescriptor (aNm lk.1).desc).map (fun d => d.parameters.length + 1) = some lk.2.1)
        | _ => true) = true := hnar
      rw [hz0] at hnar
      have hnar : (parseMethodDescriptor (aNm lk.1).desc).map (fun d => d.parameters.length + 1) = some lk.2.1 := of_decide_eq_true hnar
      rw [g5] at hnar
      have hM := aMet_of la ih hmq hne hcall hlenA hXh
      obtain ⟨v1', v2'⟩ := aMeth_v hmq hk
      unfold aRcv at hrcv
      split at hrcv
      · rename_i a As hi
        simp only [Bool.and_eq_true] at hrcv
        have ha := aInT hrcv.1
        have hka : aK h a = mq.1 := Nat.eq_of_beq_eq_true hrcv.2
        have hc13 := aMk_own' hmq hk
        have hada := aAd_in hA hcf ha
        have hBn : (parseMethodDescriptor mq.2.1.desc).map (fun d => d.parameters.length) = some As.length := by
          cases hp : parseMethodDescriptor mq.2.1.desc with
          | none => rw [hp] at hnar; cases hnar
          | some d =>
            rw [hp] at hnar
            have h9 : d.parameters.length + 1 = lk.2.1 := Option.some.inj hnar
            have h8 : As.length + 1 = lk.2.1 := has
            show some d.parameters.length = _
            congr 1
            omega
        have cb := callB_of (R := R) (rm := { frames := d', cells := aN h1 - aN h, slots := aSl h1 - aSl h, locals := 64 * d' }) (mc := aN h1 - aN h) (ms := aSl h1 - aSl h) (own := aCn md.1) (index := ix) (y := mq.2.1) As.length hts (aGoodWs hmq hne) rfl rfl rfl hini (link hl) ⟨by rw [g1]; exact hno.1, by rw [g1]; exact hno.2, hBn⟩ hR
        have hrun := va_runV (l := la) (e := e) (below := below) (meth := meth) (locs := locs) (cells := aN h - n0) (slots := aSl h - s0) (As := As.map (aCv ad)) (rest := rr.map (aCv ad)) (b := ad a) (g := F0 m pc ls (st.map (aCv ad))) (C := mq.2.1.cls) (H := H) hfix hM ⟨cb, hts _ v1', hts _ v2'⟩ ⟨aPc_blind hSC, by
            have hr9 := va_recv (a := base + a) (q0 := a) (ci := mq.1) hCx.2.2.1 hcf.2 (aCls_at hc13) (by rw [aW_at ha, aEn_obj hka hc13])
            rw [hada, g1]
            exact hr9, hpre⟩ rfl (by simp) hls (by show st.map (aCv ad) = _; rw [hst, List.map_cons, List.reverse_cons, List.append_assoc]; rfl) hW8 hd hf
        exact aCallGo hrun hCx.1 hC hn0 hs0 k1 k2 K
      all_goals first | (rename_i hi; cases hi; done) | (cases hrcv; done)
    · rename_i hz; exact absurd hz z1
    · rename_i hz; exact absurd hz z2
    · cases hlk
  · have hlk : (match lk.2.2 with
      | 0 => aHas4 aML md.1 ix lk.1 && (Nat.beq (aMk lk.1) 2 && Nat.blt 0 lk.2.1)
      | 6 => aHas4 aMN md.1 ix lk.1 && (Nat.beq (aMk lk.1) 2 && Nat.blt 0 lk.2.1)
      | 4 => aHas4 aML md.1 ix 1004
      | _ => false) = true := hlk
    have hnar : (match lk.2.2 with
      | 4 => true
      | _ => decide ((parseMethodDescriptor (aNm lk.1).desc).map (fun d => d.parameters.length + 1) = some lk.2.1)) = true := hnar
    have hnar : (parseMethodDescriptor mq.2.1.desc).map (fun d => d.parameters.length + 1) = some lk.2.1 := by
      split at hnar
      · rename_i hz; exact absurd hz z4
      · rw [← g5]; exact of_decide_eq_true hnar
    have key : ∀ (hk : aMk lk.1 = 2), (∃ (As : List Value) (a : Nat), as = .ref a :: As ∧ (parseMethodDescriptor mq.2.1.desc).map (fun d => d.parameters.length) = some As.length) := by
      intro hk
      unfold aRcv at hrcv
      split at hrcv
      · rename_i hi; cases hi
      · rename_i ix2 a As hi
        refine ⟨As, a, rfl, ?_⟩
        cases hp : parseMethodDescriptor mq.2.1.desc with
        | none => rw [hp] at hnar; cases hnar
        | some d =>
          rw [hp] at hnar
          have h9 : d.parameters.length + 1 = lk.2.1 := Option.some.inj hnar
          have h8 : As.length + 1 = lk.2.1 := has
          show some d.parameters.length = _
          congr 1
          omega
      · rename_i hi; cases hi
      · cases hrcv
    split at hlk
    · rename_i hz0
      simp only [Bool.and_eq_true] at hlk
      obtain ⟨hl, hk, hp0⟩ := hlk
      have hk : aMk lk.1 = 2 := Nat.eq_of_beq_eq_true hk
      have hne : lk.1 ≠ 295 := fun z => by rw [z, aMk_law] at hk; cases hk
      obtain ⟨As, a, rfl, hBn⟩ := key hk
      obtain ⟨i1, i2, i3⟩ := aMeth_i hmq hk
      have hM := aMet_of la ih hmq hne hcall hlenA hXh
      have cb := callB_of (R := R) (rm := { frames := d', cells := aN h1 - aN h, slots := aSl h1 - aSl h, locals := 64 * d' }) (mc := aN h1 - aN h) (ms := aSl h1 - aSl h) (own := aCn md.1) (index := ix) (y := mq.2.1) As.length hts (aGoodWs hmq hne) rfl rfl rfl hini (link hl) ⟨by rw [g1]; exact hno.1, by rw [g1]; exact hno.2, hBn⟩ hR
      have er : aRt mq.2.2.2.2.1 = none := by rw [i3]; rfl
      rw [er] at cb hM
      have hrun := va_runI (l := la) (e := e) (below := below) (meth := meth) (locs := locs) (cells := aN h - n0) (slots := aSl h - s0) (As := As.map (aCv ad)) (rest := rr.map (aCv ad)) (b := ad a) (g := F0 m pc ls (st.map (aCv ad))) (H := H) hfix hM ⟨cb, i2, hts _ i1⟩ ⟨aPc_blind hSC, hpre⟩ rfl (by simp) hls (by show st.map (aCv ad) = _; rw [hst, List.map_cons, List.reverse_cons, List.append_assoc]; rfl) hW8 hd hf
      exact aCallGo hrun hCx.1 hC hn0 hs0 k1 k2 K
    · rename_i hz0
      simp only [Bool.and_eq_true] at hlk
      obtain ⟨hl, hk, hp0⟩ := hlk
      have hk : aMk lk.1 = 2 := Nat.eq_of_beq_eq_true hk
      have hne : lk.1 ≠ 295 := fun z => by rw [z, aMk_law] at hk; cases hk
      obtain ⟨As, a, rfl, hBn⟩ := key hk
      obtain ⟨i1, i2, i3⟩ := aMeth_i hmq hk
      have hM := aMet_of la ih hmq hne hcall hlenA hXh
      obtain ⟨qn, hqn, f1, f2, f3⟩ := aHas4_in hl
      have hnest := hCx.2.2.2.1 qn hqn
      rw [f1, f2, f3, g5] at hnest
      have cb := va_cnB (R := R) (rm := { frames := d', cells := aN h1 - aN h, slots := aSl h1 - aSl h, locals := 64 * d' }) (mc := aN h1 - aN h) (ms := aSl h1 - aSl h) (own := aCn md.1) (host := "OthersShoes") (index := ix) (y := mq.2.1) As.length hts (aGoodWs hmq hne) rfl rfl rfl hnest hini ⟨by rw [g1]; exact hno.1, by rw [g1]; exact hno.2, hBn⟩ hR
      have er : aRt mq.2.2.2.2.1 = none := by rw [i3]; rfl
      rw [er] at cb hM
      have hrun := va_runIN (l := la) (e := e) (below := below) (meth := meth) (locs := locs) (cells := aN h - n0) (slots := aSl h - s0) (As := As.map (aCv ad)) (rest := rr.map (aCv ad)) (b := ad a) (g := F0 m pc ls (st.map (aCv ad))) (H := H) hfix hM ⟨cb, i2, hts _ i1⟩ ⟨aPc_blind hSC, hpre⟩ rfl (by simp) hls (by show st.map (aCv ad) = _; rw [hst, List.map_cons, List.reverse_cons, List.append_assoc]; rfl) hW8 hd hf
      exact aCallGo hrun hCx.1 hC hn0 hs0 k1 k2 K
    · rename_i hz; exact absurd hz z4
    · cases hlk
  · have hlk : (match lk.2.2 with
      | 5 => aHas4 aML md.1 ix lk.1 && Nat.beq (aMk lk.1) 1
      | 3 => aHas4 aML md.1 ix 1003
      | _ => false) = true := hlk
    split at hlk
    · rename_i hz0
      simp only [Bool.and_eq_true] at hlk
      obtain ⟨hl, hk⟩ := hlk
      have hk : aMk lk.1 = 1 := Nat.eq_of_beq_eq_true hk
      have hne : lk.1 ≠ 295 := fun z => by rw [z, aMk_law] at hk; cases hk
      have hnar : (match lk.2.2 with
        | 5 => decide ((parseMethodDescriptor (aNm lk.1).desc).map (fun d => d.parameters.length) = some lk.2.1)
        | _ => true) = true := hnar
      rw [hz0] at hnar
      have hnar : (parseMethodDescriptor (aNm lk.1).desc).map (fun d => d.parameters.length) = some lk.2.1 := of_decide_eq_true hnar
      rw [g5, ← has] at hnar
      have hM := aMet_of la ih hmq hne hcall hlenA hXh
      have cb := callB_of (R := R) (rm := { frames := d', cells := aN h1 - aN h, slots := aSl h1 - aSl h, locals := 64 * d' }) (mc := aN h1 - aN h) (ms := aSl h1 - aSl h) (own := aCn md.1) (index := ix) (y := mq.2.1) as.length hts (aGoodWs hmq hne) rfl rfl rfl hini (link hl) ⟨by rw [g1]; exact hno.1, by rw [g1]; exact hno.2, hnar⟩ hR
      have hrun := va_runS (l := la) (e := e) (below := below) (meth := meth) (locs := locs) (cells := aN h - n0) (slots := aSl h - s0) (As := as.map (aCv ad)) (rest := rr.map (aCv ad)) (g := F0 m pc ls (st.map (aCv ad))) (H := H) hfix hM ⟨cb, hts _ (aMeth_s hmq hk)⟩ ⟨aPc_blind hSC, hpre⟩ rfl (by simp) hls (by show st.map (aCv ad) = _; rw [hst]) hW8 hd hf
      exact aCallGo hrun hCx.1 hC hn0 hs0 k1 k2 K
    · rename_i hz; exact absurd hz z3
    · cases hlk
set_option maxHeartbeats 4000000 in
theorem aSound (hSl : aRowLen SC base sa) (hSa : aRowAt SC base sa) (hSr : aRowRef SC sa) (hSC : aStay SC base) (hA : aAdOk ad base b sa) : ∀ n, aSnd SC ad base b ids D X n := by
  intro n
  induction n with
  | zero => intro d mi pc l st h v h' md hr; cases hr
  | succ n ih =>
    intro d mi pc l st h v h' md hr hmd hXh p la e R s m args below meth c Q n0 s0 C hCx hRf hRl hn0 hs0 hRc hRs hend
    unfold aRun at hr
    rw [hmd] at hr
    dsimp only at hr
    split at hr
    · cases hr
    rename_i en he
    have hchk := aOk_ins hmd (aFind_mem he)
    simp only [aChk, Bool.and_eq_true, decide_eq_true_eq, Bool.or_eq_true] at hchk
    obtain ⟨hd, hlen, hlk, hnar⟩ := hchk
    have hlen' : aWant en.1 = 0 ∨ aWant en.1 = en.2.1 := hlen.imp Nat.eq_of_beq_eq_true Nat.eq_of_beq_eq_true
    split at hr
    · cases hr
    · rename_i q hE
      obtain ⟨m1, m2, m3, m4⟩ : aN h ≤ aN q.2.2.2 ∧ aSl h ≤ aSl q.2.2.2 ∧ aXn q.2.2.2 = aXn h ∧ aX q.2.2.2 = aX h := by
        rcases aExec_kind hE with ⟨q', e1, h1, h2, h3, h4⟩ | ⟨v', e1, -⟩ | ⟨as, rr, -, -, e1, -⟩
        · cases e1; exact ⟨h1, h2, h3, h4⟩
        · cases e1
        · cases e1
      obtain ⟨r1, r2, -, -⟩ := aRun_mono n hr
      exact aStep_ok hSl hSa hSr C hCx hXh hA rfl hd hlen' hlk hRf hRl hn0 hs0 (by omega) (by omega) hE (ih hr hmd ⟨m3.trans hXh.1, m4.trans hXh.2⟩ C hCx hRf hRl (by omega) (by omega) hRc hRs hend)
    · rename_i v' hE
      cases hr
      rcases aExec_kind hE with ⟨q', e1, -⟩ | ⟨v2, e1, hst, hk⟩ | ⟨as, rr, -, -, e1, -⟩
      · cases e1
      · cases e1
        intro H locs ls hC
        have hro : aRetOk md.2.2.1 md.2.2.2.2.1 pc v := by
          have e1 : ∀ i, en.1 = i → aWant i = 1 → decode md.2.2.1 pc = .ok (i, 1) := by
            intro i hi hw
            subst hi
            rcases hlen' with z | z
            · rw [hw] at z; cases z
            · rw [hw] at z; rw [z]; exact hd
          rcases hk with ⟨hi, rfl, hrt⟩ | ⟨hi, x, rfl, hrt⟩ | ⟨hi, x, rfl, hrt⟩
          · exact Or.inl ⟨rfl, hrt, e1 _ hi rfl⟩
          · exact Or.inr (Or.inl ⟨x, rfl, hrt, e1 _ hi rfl⟩)
          · exact Or.inr (Or.inr ⟨x, rfl, hrt, e1 _ hi rfl⟩)
        have hW := hend pc ls H locs hC.1 hC.2.1 hro
        have e9 : (v.map (aCv ad)).toList = st.map (aCv ad) := by rw [hst]; cases v <;> rfl
        rw [e9] at hW
        exact hW
      · cases e1
    · rename_i q hE
      split at hr
      · cases hr
      rename_i d'
      split at hr
      · cases hr
      rename_i mq hmq
      obtain ⟨c1, c2, hr⟩ := aAnd hr.symm.symm
      rcases aExec_kind hE with ⟨q', e1, -⟩ | ⟨v2, e1, -⟩ | ⟨as, rr, hpop, hw8, e1, hins⟩
      · cases e1
      · cases e1
      · cases e1
        split at hr
        · cases hr
        rename_i v1 h1 hcall
        obtain ⟨k1, k2, k3, k4⟩ := aRun_mono n hcall
        obtain ⟨r1, r2, -, -⟩ := aRun_mono n hr
        exact aCall_ok ih hSC hA C hCx hXh hd hlen' hlk hnar hpop hw8 hins hmq (Nat.le_of_ble_eq_true c1) c2 hcall hRf hRl hn0 hs0 (by omega) (by omega) (ih hr hmd ⟨k3.trans hXh.1, k4.trans hXh.2⟩ C hCx hRf hRl (by omega) (by omega) hRc hRs hend)
end AMain
