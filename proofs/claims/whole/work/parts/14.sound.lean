/-! ===== the abstract run is the machine's ===== -/
theorem aMet_ofW {l : Launch} {y : MethodName} {ws ws' : List Cond} {rm : Room} {Pc : Array Value → State → Prop} {Qc : Array Value → State → Outcome → State → Prop} {mc ms : Nat} {free : Addr → Prop} {cc : ByteArray} {maxL : Nat} {ret : Option FieldType}
    (hy : plainFor y = true) (hw : ws = Cond.code y cc maxL ret :: ws')
    (body : ∀ p e s m args below meth c s₁, BodyLoose p l y (headSpec ws rm) cc maxL ret e s m args below meth c s₁ → c.maxLocals = maxL → Pc args s →
      W p l e (headSpec ws rm).room s m args below meth c s.heap [] 0 0 (MQ below Qc args s mc ms free) (entryFrame m args maxL)) : Met l y ws rm Pc Qc mc ms free := by
  refine MetFree.of_bodySF (code := cc) (maxLocals := maxL) (ret := ret) hy ?_ ?_
  · intro args s m h hn
    obtain ⟨meth, c, h1, h2, h3, h4, h5, h6, -, -⟩ := Cond.code_spec hn (atoms_spec (ws := ws) h _ (by rw [hw]; exact List.mem_cons_self))
    exact ⟨meth, c, h1, h2, h3, h4, h5, h6⟩
  · intro p e s m args below meth c s₁ B hml hP _
    have hh0 : s₁.heap = s.heap := by rw [B.state]; rfl
    obtain ⟨t, a1, o, b1, b2, b3⟩ := body p e s m args below meth c s₁ B hml hP s₁ hh0 (Stand.of_body B)
    exact ⟨t, o, a1, b1, b2, ⟨b3.1, b3.2⟩⟩
section AEnt
variable {ad : Nat → Nat}
theorem aLoc_cons (a : Value) (as : List Value) : aLoc (a :: as) = (if a.category = 2 then [some a, none] else [some a]) ++ aLoc as := by cases a <;> rfl
theorem aLoc_in : ∀ (as : List Value) (k i : Nat) (v : Value), (aLoc as)[i]? = some (some v) → (k + i, aCv ad v) ∈ lv_args k (as.map (aCv ad))
  | [], _, _, _, h => by simp [aLoc] at h
  | a :: as, k, i, v, h => by
    rw [aLoc_cons] at h
    rw [List.map_cons]
    unfold lv_args
    rw [aCv_cat]
    by_cases hc : a.category = 2
    · rw [if_pos hc] at h ⊢
      match i, h with
      | 0, h =>
        have e : a = v := by simpa using h
        subst e
        exact List.mem_cons_self
      | 1, h => simp at h
      | i + 2, h =>
        have h2 : (aLoc as)[i]? = some (some v) := by simpa using h
        have := aLoc_in as (k + 2) i v h2
        rw [show k + (i + 2) = k + 2 + i by omega]
        exact List.mem_cons_of_mem _ this
    · rw [if_neg hc] at h ⊢
      match i, h with
      | 0, h =>
        have e : a = v := by simpa using h
        subst e
        exact List.mem_cons_self
      | i + 1, h =>
        have h2 : (aLoc as)[i]? = some (some v) := by simpa using h
        have := aLoc_in as (k + 1) i v h2
        rw [show k + (i + 1) = k + 1 + i by omega]
        exact List.mem_cons_of_mem _ this
theorem aLoc_len : ∀ as : List Value, (lg_sl (as.map (aCv ad))).length = (aLoc as).length
  | [] => rfl
  | a :: as => by
    have ih := aLoc_len as
    rw [aLoc_cons]
    cases a <;> simp [lg_sl, aCv, Value.category] at ih ⊢ <;> omega
theorem aLR_entry (as : List Value) {n : Nat} (hl : (aLoc as).length ≤ n) : aLR ad (aEnter n as) ((lg_sl (as.map (aCv ad)) ++ List.replicate (n - (lg_sl (as.map (aCv ad))).length) Slot.unset).toArray) n := by
  refine ⟨by simp [aEnter]; omega, _, lv_entry (as.map (aCv ad)) (by rw [aLoc_len]; exact hl), fun i v h => ?_⟩
  unfold aEnter at h
  by_cases hi : i < (aLoc as).length
  · rw [List.getElem?_append_left hi] at h
    have := aLoc_in (ad := ad) as 0 i v h
    rwa [Nat.zero_add] at this
  · rw [List.getElem?_append_right (by omega)] at h
    have := List.eq_of_mem_replicate (List.mem_of_getElem? h)
    cases this
theorem aPop_ok : ∀ (n : Nat) (st acc as rr : List Value), aPop n st acc = some (as, rr) → ∃ xs, st = xs ++ rr ∧ as = xs.reverse ++ acc ∧ xs.length = n
  | 0, st, acc, as, rr, h => by
    unfold aPop at h
    cases h
    exact ⟨[], rfl, rfl, rfl⟩
  | n + 1, [], acc, as, rr, h => by
    unfold aPop at h
    cases h
  | n + 1, v :: st, acc, as, rr, h => by
    unfold aPop at h
    obtain ⟨xs, h1, h2, h3⟩ := aPop_ok n st (v :: acc) as rr h
    exact ⟨v :: xs, by rw [h1]; rfl, by rw [h2]; simp, by simp [h3]⟩
theorem aPop_st {n : Nat} {st as rr : List Value} (h : aPop n st [] = some (as, rr)) : st.map (aCv ad) = (as.map (aCv ad)).reverse ++ rr.map (aCv ad) ∧ as.length = n := by
  obtain ⟨xs, h1, h2, h3⟩ := aPop_ok n st [] as rr h
  subst h1
  rw [List.append_nil] at h2
  subst h2
  simp [h3]
end AEnt
theorem aSpec_lt {m : Nat} (h : m < 296) : aSpec m = aNm m := by
  unfold aSpec
  split <;> first | omega | rfl
theorem aCn_no : ∀ i, i < 16 → aCn i ≠ "java/lang/invoke/MethodHandle" ∧ aCn i ≠ "java/lang/invoke/VarHandle" := by decide +kernel
theorem aMk_own : (List.range 296).all (fun m => !Nat.beq (aMk m) 0 || Nat.blt ((aMl.getD m (0, ⟨"", "", ""⟩, ⟨#[]⟩, 0, 0, [])).1) 13) = true := by decide +kernel
theorem aMk_own' {m : Nat} {md : aMd} (h : aMs m = some md) (hk : aMk m = 0) : md.1 < 13 := by
  have h1 := List.all_eq_true.mp aMk_own m (List.mem_range.mpr (aMs_mem h).2)
  have h2 : aMl[m]? = some md := h
  rw [List.getD_eq_getElem?_getD, h2, hk] at h1
  have h3 : (!Nat.beq 0 0 || Nat.blt md.1 13) = true := h1
  have h4 : Nat.blt md.1 13 = true := h3
  exact Nat.le_of_ble_eq_true h4
section ASnd
variable {SC : State → Prop} {ad : Nat → Nat} {base b : Nat} {sa : Nat → Nat} {ids : aIds} {D : va_G} {X : Nat × (Nat → Int32)}
/-- the strings' facts stay -/
def aStay (SC : State → Prop) (base : Nat) : Prop := ∀ s U : State, SC s → base ≤ s.heap.size → base ≤ U.heap.size → (∀ q, q < base → U.heap[q]? = s.heap[q]?) → s.WarmedH U.vm → SC U
theorem aCx_moved {s U : State} (hSC : aStay SC base) (h : aCx SC base b ids D X s) (hs : base ≤ U.heap.size) (hq : ∀ q, q < base → U.heap[q]? = s.heap[q]?) (hW : s.WarmedH U.vm) : aCx SC base b ids D X U := by
  obtain ⟨h1, h2, h3, h4, h5, h6, h7⟩ := h
  exact ⟨hs, h2, va_K.moved hW.alike h3, fun q hq => va_Nw.warmM hW (h4 q hq), va_AO.moved hW.alike h5, (h6.moved hW.alike).kept (hq b h2), hSC s U h7 h1 hs hq hW⟩
def aPc (SC : State → Prop) (ad : Nat → Nat) (base b : Nat) (ids : aIds) (D : va_G) (X : Nat × (Nat → Int32)) (as : List Value) (h : aHp) : Array Value → State → Prop := fun a U => a = (as.map (aCv ad)).toArray ∧ aCx SC base b ids D X U ∧ aRel ad base ids D h U.heap
def aQc (ad : Nat → Nat) (base : Nat) (ids : aIds) (D : va_G) (v : Option Value) (h : aHp) : Array Value → State → Outcome → State → Prop := fun _ st oc t => oc = .returned (v.map (aCv ad)) ∧ aRel ad base ids D h t.heap ∧ st.heap.size ≤ t.heap.size ∧ ∀ q, q < base → t.heap[q]? = st.heap[q]?
theorem aPc_blind (hSC : aStay SC base) {as : List Value} {h : aHp} : FrameBlind (aPc SC ad base b ids D X as h) := fun a U g mk q => ⟨q.1, aCx_moved hSC q.2.1 q.2.1.1 (fun _ _ => rfl) (State.WarmedH.refl U), q.2.2⟩
/-- what is to be shown of runs with that much fuel -/
def aSnd (SC : State → Prop) (ad : Nat → Nat) (base b : Nat) (ids : aIds) (D : va_G) (X : Nat × (Nat → Int32)) (n : Nat) : Prop :=
  ∀ {d mi pc : Nat} {l : List (Option Value)} {st : List Value} {h : aHp} {v : Option Value} {h' : aHp} {md : aMd}, aRun aMs aSS n d mi pc l st h = some (v, h') → aMs mi = some md → (aXn h = X.1 ∧ aX h = X.2) →
  ∀ {p : Program} {la : Launch} {e : Env} {R : Room} {s : State} {m : MethodId} {args : Array Value} {below : List Frame} {meth : Method} {c : Code} {Q : State → Prop} {n0 s0 : Nat}, aMc p s m meth c args md → aCx SC base b ids D X s → d ≤ R.frames → 64 * d ≤ R.locals → n0 ≤ aN h → s0 ≤ aSl h → aN h' ≤ R.cells + n0 → aSl h' ≤ R.slots + s0 →
  (∀ (pc' : Nat) (ls' : Array Slot) (H' : Heap) (locs' : List Loc), aRel ad base ids D h' H' → va_S (fun q => base ≤ q) s.heap H' locs' → aRetOk md.2.2.1 md.2.2.2.2.1 pc' v → W p la e R s m args below meth c H' locs' (aN h' - n0) (aSl h' - s0) Q (F0 m pc' ls' ((v.map (aCv ad)).toList))) →
  aKt p la e R s m args below meth c Q ad base ids D md.2.2.2.1 n0 s0 (pc, l, st, h)
theorem aMet_of {n d mi : Nat} {md : aMd} {as : List Value} {h h' : aHp} {v : Option Value} (la : Launch) (ih : aSnd SC ad base b ids D X n) (hmd : aMs mi = some md) (hne : mi ≠ 295) (hrun : aRun aMs aSS n d mi 0 (aEnter md.2.2.2.1 as) [] h = some (v, h')) (hlen : (aLoc as).length ≤ md.2.2.2.1) (hXh : aXn h = X.1 ∧ aX h = X.2) :
    Met la md.2.1 (Cond.code md.2.1 md.2.2.1 md.2.2.2.1 (aRt md.2.2.2.2.1) :: aTs) { frames := d, cells := aN h' - aN h, slots := aSl h' - aSl h, locals := 64 * d } (aPc SC ad base b ids D X as h) (aQc ad base ids D v h') (aN h' - aN h) (aSl h' - aSl h) (fun q => base ≤ q) := by
  obtain ⟨g1, g2, g3, g4, g5⟩ := aMeth_gen hmd
  obtain ⟨k1, k2, -, -⟩ := aRun_mono n hrun
  refine aMet_ofW (cc := md.2.2.1) (maxL := md.2.2.2.1) (ret := aRt md.2.2.2.2.1) g2 rfl ?_
  intro p e s m args below meth c s₁ B hml hv
  obtain ⟨rfl, hCx, hrel⟩ := hv
  have hts0 := atoms_spec (ws := Cond.code md.2.1 md.2.2.1 md.2.2.2.1 (aRt md.2.2.2.2.1) :: aTs) B.pre
  have hown : s.vm.findClass md.2.1.cls = some m.cls := findClass_of_methodNamed B.named
  have hC : aMc p s m meth c (as.map (aCv ad)).toArray md := ⟨B.exec, B.bytes, hml, by rw [← g1]; exact hown, fun w hw => hts0 w (List.mem_cons_of_mem _ hw), B.returns, B.notSynchronized, fun hi => (name_of_methodNamed B.named B.method).1.trans hi⟩
  have hlocks := B.notSynchronized
  rw [lg_entry_eq]
  have key := ih hrun hmd hXh (la := la) (R := { frames := d, cells := aN h' - aN h, slots := aSl h' - aSl h, locals := 64 * d }) (e := e) (below := below) (Q := MQ below (aQc ad base ids D v h') (as.map (aCv ad)).toArray s (aN h' - aN h) (aSl h' - aSl h) (fun q => base ≤ q)) (n0 := aN h) (s0 := aSl h) hC hCx (Nat.le_refl _) (Nat.le_refl _) (Nat.le_refl _) (Nat.le_refl _) (by show aN h' ≤ aN h' - aN h + aN h; omega) (by show aSl h' ≤ aSl h' - aSl h + aSl h; omega) ?_
  · have hW := key s.heap [] _ ⟨hrel, va_S.rf, aLR_entry as hlen⟩
    have hW : W p la e { frames := d, cells := aN h' - aN h, slots := aSl h' - aSl h, locals := 64 * d } s m (as.map (aCv ad)).toArray below meth c s.heap [] (aN h - aN h) (aSl h - aSl h) (MQ below (aQc ad base ids D v h') (as.map (aCv ad)).toArray s (aN h' - aN h) (aSl h' - aSl h) (fun q => base ≤ q)) (F0 m 0 _ []) := hW
    rw [Nat.sub_self, Nat.sub_self] at hW
    exact hW
  · intro pc' ls' H' locs' hrel' hS' hro
    have hq : ∀ t : State, t.heap = H' → s.WarmedH t.vm → aQc ad base ids D v h' (as.map (aCv ad)).toArray s (.returned (v.map (aCv ad))) t := by
      intro t ht _
      refine ⟨rfl, by rw [ht]; exact hrel', by rw [ht]; exact hS'.1, fun q hq => ?_⟩
      rw [ht]
      exact hS'.2.1 q (Nat.lt_of_lt_of_le hq hCx.1) (by show ¬ base ≤ q; omega)
    rcases hro with ⟨rfl, hrt, hd⟩ | ⟨x, rfl, hrt, hd⟩ | ⟨x, rfl, hrt, hd⟩
    · exact W.vret B.exec B.bytes (by rw [B.returns, hrt]; rfl) hq hS'.2.2 hd
    · rcases hrt with hrt | ⟨hrt, hx01⟩
      · exact W.iret B.exec B.bytes (by rw [B.returns, hrt]; rfl) hq hS'.2.2 hd
      · refine W.zret (ty := .boolean) B.exec B.bytes (by rw [B.returns, hrt]; rfl) ?_ hq hS'.2.2 hd
        rcases hx01 with rfl | rfl <;> rfl
    · exact W.lret B.exec B.bytes (by rw [B.returns, hrt]; rfl) hq hS'.2.2 hd
theorem aCallGo {p : Program} {la : Launch} {e : Env} {R : Room} {s : State} {m : MethodId} {args : Array Value} {below : List Frame} {meth : Method} {c : Code} {Q : State → Prop} {n0 s0 pc nL : Nat} {l : List (Option Value)} {h h1 : aHp} {v1 : Option Value} {H : Heap} {locs : List Loc} {ls : Array Slot} {st0 : List Value} {rr : List Value} {a : Array Value}
    (hr : va_Run p la e R s m args below meth c H locs (aN h - n0) (aSl h - s0) (aN h1 - aN h) (aSl h1 - aSl h) (F0 m pc ls st0) (rr.map (aCv ad)) (aQc ad base ids D v1 h1 a) (fun q => base ≤ q)) (hbs : base ≤ s.heap.size) (hC : aCfg ad base ids D s nL l h H locs ls) (hn0 : n0 ≤ aN h) (hs0 : s0 ≤ aSl h) (hm1 : aN h ≤ aN h1) (hm2 : aSl h ≤ aSl h1)
    (K : aKt p la e R s m args below meth c Q ad base ids D nL n0 s0 (pc + 3, l, v1.toList ++ rr, h1)) : W p la e R s m args below meth c H locs (aN h - n0) (aSl h - s0) Q (F0 m pc ls st0) := by
  intro T hT X
  obtain ⟨v, st₀, t, T', L, h0, X', hL, e1, e2, ⟨q1, q2, q3, q4⟩, st⟩ := hr T hT X
  have hv : v = v1.map (aCv ad) := Outcome.returned.inj q1
  subst hv
  rw [h0] at q3 q4
  rw [← e1] at q2 q3 q4
  have hS : va_S (fun q => base ≤ q) s.heap T'.heap (locs ++ L) := by
    refine ⟨Nat.le_trans hC.2.1.1 q3, fun q g1 g2 => ?_, fun q hq => ?_⟩
    · rw [q4 q (by have : ¬ base ≤ q := g2; omega)]
      exact hC.2.1.2.1 q g1 g2
    · rcases List.mem_append.mp hq with h9 | h9
      · exact hC.2.1.2.2 q h9
      · exact hL q h9
  have hW := K T'.heap (locs ++ L) ls ⟨q2, hS, hC.2.2⟩
  have hW : W p la e R s m args below meth c T'.heap (locs ++ L) (aN h1 - n0) (aSl h1 - s0) Q (F0 m (pc + 3) ls ((v1.toList ++ rr).map (aCv ad))) := hW
  rw [show aN h - n0 + (aN h1 - aN h) = aN h1 - n0 by omega, show aSl h - s0 + (aSl h1 - aSl h) = aSl h1 - s0 by omega] at X'
  obtain ⟨t2, a1, b1⟩ := hW T' rfl X'
  have ev : (v1.toList ++ rr).map (aCv ad) = (v1.map (aCv ad)).toList ++ rr.map (aCv ad) := by cases v1 <;> simp
  rw [ev] at a1
  exact ⟨t2, st t2 a1, b1⟩
end ASnd
