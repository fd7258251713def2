/-! ===== locals ===== -/
theorem aBltT {i n : Nat} (h : i < n) : Nat.blt i n = true := Nat.ble_eq_true_of_le h
theorem aBltF {i n : Nat} (h : ¬ i < n) : Nat.blt i n = false := by
  cases e : Nat.blt i n
  · rfl
  · exact absurd (Nat.le_of_ble_eq_true e) h
def aLR (ad : Nat → Nat) (l : List (Option Value)) (ls : Array Slot) (nL : Nat) : Prop := l.length = nL ∧ ∃ lv, lv_has ls nL lv ∧ ∀ i v, l[i]? = some (some v) → (i, aCv ad v) ∈ lv
section ALoc
variable {ad : Nat → Nat} {l : List (Option Value)} {ls : Array Slot} {nL i : Nat} {v : Value}
theorem aLd_at (h : aLd l i = some v) : l[i]? = some (some v) := by
  unfold aLd at h
  split at h
  · rename_i w hw
    rw [hw, h]
  · cases h
theorem aLR_ld (h : aLR ad l ls nL) (hl : aLd l i = some v) : ls[i]? = some (.val (aCv ad v)) := by
  obtain ⟨-, lv, h1, h2⟩ := h
  exact h1.2.2 (i, aCv ad v) (h2 i v (aLd_at hl))
theorem aKill_len : (aKill l i).length = l.length := by
  unfold aKill
  split
  · rfl
  · split <;> simp
theorem aKill_in {j : Nat} {w : Value} (h : (aKill l i)[j]? = some (some w)) : l[j]? = some (some w) ∧ ¬ (j + 1 = i ∧ w.category = 2) := by
  unfold aKill at h
  split at h
  · exact ⟨h, fun q => by omega⟩
  · rename_i k
    have key : ∀ (l' : List (Option Value)), l' = l.set k none → l'[j]? = some (some w) → l[j]? = some (some w) ∧ ¬ (j + 1 = k + 1 ∧ w.category = 2) := by
      intro l' e q
      subst e
      by_cases hj : k = j
      · subst hj
        rw [List.getElem?_set] at q
        simp only [if_true] at q
        split at q
        · cases q
        · cases q
      · rw [List.getElem?_set_ne hj] at q
        exact ⟨q, fun z => hj (by omega)⟩
    split at h
    · exact key _ rfl h
    · exact key _ rfl h
    · rename_i h1 h2
      refine ⟨h, fun q => ?_⟩
      have e : j = k := by omega
      subst e
      cases w with
      | long x => exact h1 x h
      | double x => exact h2 x h
      | _ => simp [Value.category] at q
theorem aLR_1 (h : aLR ad l ls nL) (hi : i < nL) {lv : List (Nat × Value)} (hall : ∀ i v, l[i]? = some (some v) → (i, aCv ad v) ∈ lv) (hv : ∀ x, v ≠ .long x) : ∀ j w, (aSt l i v)[j]? = some (some w) → (j, aCv ad w) ∈ (i, aCv ad v) :: lv.filter (fun q => !(q.1 == i) && !(q.1 + 1 == i && q.2.category == 2)) := by
  intro j w hj
  have e : aSt l i v = (aKill l i).set i (some v) := by
    cases v with
    | long x => exact absurd rfl (hv x)
    | _ => rfl
  rw [e] at hj
  by_cases hji : i = j
  · subst hji
    rw [List.getElem?_set_self (by rw [aKill_len, h.1]; exact hi)] at hj
    cases hj
    exact List.mem_cons_self
  · rw [List.getElem?_set_ne hji] at hj
    obtain ⟨h1, h2⟩ := aKill_in hj
    refine List.mem_cons_of_mem _ (List.mem_filter.mpr ⟨hall j w h1, ?_⟩)
    have hne : ¬ j = i := fun q => hji q.symm
    simp only [aCv_cat]
    by_cases h3 : j + 1 = i
    · have h4 : ¬ w.category = 2 := fun q => h2 ⟨h3, q⟩
      simp [hne, h4]
    · simp [hne, h3]
theorem aLR_2 (h : aLR ad l ls nL) (hi : i + 1 < nL) {x : Int64} {lv : List (Nat × Value)} (hall : ∀ i v, l[i]? = some (some v) → (i, aCv ad v) ∈ lv) : ∀ j w, (aSt l i (.long x))[j]? = some (some w) → (j, aCv ad w) ∈ (i, Value.long x) :: lv.filter (fun q => !(q.1 == i) && (!(q.1 == i + 1) && !(q.1 + 1 == i && q.2.category == 2))) := by
  intro j w hj
  have e : aSt l i (.long x) = ((aKill l i).set i (some (.long x))).set (i + 1) none := rfl
  rw [e] at hj
  by_cases hj1 : i + 1 = j
  · subst hj1
    rw [List.getElem?_set_self (by rw [List.length_set, aKill_len, h.1]; exact hi)] at hj
    cases hj
  rw [List.getElem?_set_ne hj1] at hj
  by_cases hji : i = j
  · subst hji
    rw [List.getElem?_set_self (by rw [aKill_len, h.1]; omega)] at hj
    cases hj
    exact List.mem_cons_self
  · rw [List.getElem?_set_ne hji] at hj
    obtain ⟨h1, h2⟩ := aKill_in hj
    refine List.mem_cons_of_mem _ (List.mem_filter.mpr ⟨hall j w h1, ?_⟩)
    have hne : ¬ j = i := fun q => hji q.symm
    have hne1 : ¬ j = i + 1 := fun q => hj1 q.symm
    simp only [aCv_cat]
    by_cases h3 : j + 1 = i
    · have h4 : ¬ w.category = 2 := fun q => h2 ⟨h3, q⟩
      simp [hne, h4, hne1]
    · simp [hne, h3, hne1]
theorem aSt_len : (aSt l i v).length = l.length := by
  cases v <;> simp [aSt, aKill_len]
end ALoc
/-! ===== one instruction ===== -/
/-- the method that runs -/
def aMc (p : Program) (s : State) (m : MethodId) (meth : Method) (c : Code) (args : Array Value) (md : aMd) : Prop :=
  p.tables.exec = Jvm.exec ∧ c.code = md.2.2.1 ∧ c.maxLocals = md.2.2.2.1 ∧ s.vm.findClass (aCn md.1) = some m.cls ∧ (∀ w ∈ aTs, w.before args s = true) ∧ meth.sig.returnType = aRt md.2.2.2.2.1 ∧ meth.locks = false ∧ (md.2.1.name = "<init>" → meth.name = "<init>")
def aTys (ids : aIds) : List (ClassId × FieldType) := [(ids.1, .int), (ids.2.1, .char), (ids.2.2.1, .long), (ids.2.2.2, .object "OthersShoes$State")]
def aCfg (ad : Nat → Nat) (base : Nat) (ids : aIds) (D : va_G) (s : State) (nL : Nat) (l : List (Option Value)) (h : aHp) (H : Heap) (locs : List Loc) (ls : Array Slot) : Prop :=
  aRel ad base ids D h H ∧ va_S (fun q => base ≤ q) s.heap H locs ∧ aLR ad l ls nL
/-- from every machine that this configuration pictures, the end comes -/
def aKt (p : Program) (la : Launch) (e : Env) (R : Room) (s : State) (m : MethodId) (args : Array Value) (below : List Frame) (meth : Method) (c : Code) (Q : State → Prop) (ad : Nat → Nat) (base : Nat) (ids : aIds) (D : va_G) (nL n0 s0 : Nat) (q : Nat × List (Option Value) × List Value × aHp) : Prop :=
  ∀ (H : Heap) (locs : List Loc) (ls : Array Slot), aCfg ad base ids D s nL q.2.1 q.2.2.2 H locs ls → W p la e R s m args below meth c H locs (aN q.2.2.2 - n0) (aSl q.2.2.2 - s0) Q (F0 m q.1 ls (q.2.2.1.map (aCv ad)))
section AStep
variable {p : Program} {la : Launch} {e : Env} {R : Room} {s : State} {m : MethodId} {args : Array Value} {below : List Frame} {meth : Method} {c : Code} {Q : State → Prop} {ad : Nat → Nat} {base : Nat} {ids : aIds} {D : va_G} {nL n0 s0 : Nat} {md : aMd}
variable {q : Nat × List (Option Value) × List Value × aHp} {pc : Nat} {l : List (Option Value)} {st : List Value} {h : aHp}
theorem aGo_eq {l' : List (Option Value)} {st' : List Value} {h' : aHp} {pc' : Nat} (hE : aGo pc' l' st' h' = some (.inl q)) : q = (pc', l', st', h') := by
  unfold aGo at hE
  injection hE with hE
  injection hE with hE
  exact hE.symm
theorem s_loadI (C : aMc p s m meth c args md) {i n : Nat} {ins : Instr} (hE : aLoadI (pc + n) i l st h = some (.inl q)) (hrow : ∀ {H : Heap} {locs : List Loc} {ls : Array Slot} {x : Int32}, ls[i]? = some (.val (.int x)) → W p la e R s m args below meth c H locs (aN h - n0) (aSl h - s0) Q (F0 m (pc + n) ls (.int x :: st.map (aCv ad))) → W p la e R s m args below meth c H locs (aN h - n0) (aSl h - s0) Q (F0 m pc ls (st.map (aCv ad)))) (K : aKt p la e R s m args below meth c Q ad base ids D nL n0 s0 q) : aKt p la e R s m args below meth c Q ad base ids D nL n0 s0 (pc, l, st, h) := by
  intro H locs ls hC
  unfold aLoadI at hE
  split at hE
  · rename_i x hx
    have hq := aGo_eq hE
    subst hq
    exact hrow (aLR_ld hC.2.2 hx) (K H locs ls hC)
  · cases hE
theorem s_loadJ (C : aMc p s m meth c args md) {i n : Nat} (hE : aLoadJ (pc + n) i l st h = some (.inl q)) (hrow : ∀ {H : Heap} {locs : List Loc} {ls : Array Slot} {x : Int64}, ls[i]? = some (.val (.long x)) → W p la e R s m args below meth c H locs (aN h - n0) (aSl h - s0) Q (F0 m (pc + n) ls (.long x :: st.map (aCv ad))) → W p la e R s m args below meth c H locs (aN h - n0) (aSl h - s0) Q (F0 m pc ls (st.map (aCv ad)))) (K : aKt p la e R s m args below meth c Q ad base ids D nL n0 s0 q) : aKt p la e R s m args below meth c Q ad base ids D nL n0 s0 (pc, l, st, h) := by
  intro H locs ls hC
  unfold aLoadJ at hE
  split at hE
  · rename_i x hx
    have hq := aGo_eq hE
    subst hq
    exact hrow (aLR_ld hC.2.2 hx) (K H locs ls hC)
  · cases hE
theorem s_loadA (C : aMc p s m meth c args md) {k : Fin 4} (hd : decode md.2.2.1 pc = .ok (.aload_n k, 1)) (hE : aLoadA (pc + 1) k l st h = some (.inl q)) (K : aKt p la e R s m args below meth c Q ad base ids D nL n0 s0 q) : aKt p la e R s m args below meth c Q ad base ids D nL n0 s0 (pc, l, st, h) := by
  intro H locs ls hC
  unfold aLoadA at hE
  split at hE
  · rename_i x hx
    have hq := aGo_eq hE
    subst hq
    exact lv_aload_n C.1 C.2.1 hd rfl (aLR_ld hC.2.2 hx) (K H locs ls hC)
  · rename_i hx
    have hq := aGo_eq hE
    subst hq
    exact lv_aload_nN C.1 C.2.1 hd rfl (aLR_ld hC.2.2 hx) (K H locs ls hC)
  · cases hE
theorem s_storeI (C : aMc p s m meth c args md) (hnL : md.2.2.2.1 = nL) {i n : Nat} (hE : aStoreI (pc + n) i l st h = some (.inl q))
    (hrow : ∀ {H : Heap} {locs : List Loc} {ls : Array Slot} {x : Int32} {lv : List (Nat × Value)} {rest : List Value}, lv_has ls nL lv → i < nL → (∀ ls' : Array Slot, lv_has ls' nL ((i, Value.int x) :: lv.filter (fun q => !(q.1 == i) && !(q.1 + 1 == i && q.2.category == 2))) → W p la e R s m args below meth c H locs (aN h - n0) (aSl h - s0) Q (F0 m (pc + n) ls' rest)) → W p la e R s m args below meth c H locs (aN h - n0) (aSl h - s0) Q (F0 m pc ls (.int x :: rest)))
    (K : aKt p la e R s m args below meth c Q ad base ids D nL n0 s0 q) : aKt p la e R s m args below meth c Q ad base ids D nL n0 s0 (pc, l, st, h) := by
  intro H locs ls hC
  unfold aStoreI at hE
  split at hE
  · rename_i x r
    by_cases hi : i < l.length
    · have hb : Nat.blt i l.length = true := aBltT hi
      rw [hb, cond_true] at hE
      have hq := aGo_eq hE
      subst hq
      obtain ⟨hl1, lv, hl2, hl3⟩ := id hC.2.2
      have hl1 : l.length = nL := hl1
      refine hrow (x := x) (rest := r.map (aCv ad)) hl2 (by omega) (fun ls' hl' => K H locs ls' ⟨hC.1, hC.2.1, by show (aSt l i (.int x)).length = nL; rw [aSt_len]; exact hl1, _, hl', aLR_1 (v := .int x) hC.2.2 (by omega) hl3 (fun _ z => by cases z)⟩)
    · have hb : Nat.blt i l.length = false := aBltF hi
      rw [hb, cond_false] at hE
      cases hE
  · cases hE
theorem s_storeA (C : aMc p s m meth c args md) {k : Fin 4} (hd : decode md.2.2.1 pc = .ok (.astore_n k, 1)) (hE : aStoreA (pc + 1) k l st h = some (.inl q)) (K : aKt p la e R s m args below meth c Q ad base ids D nL n0 s0 q) : aKt p la e R s m args below meth c Q ad base ids D nL n0 s0 (pc, l, st, h) := by
  intro H locs ls hC
  obtain ⟨hl1, lv, hl2, hl3⟩ := id hC.2.2
  have hl1 : l.length = nL := hl1
  unfold aStoreA at hE
  split at hE
  · rename_i x r
    by_cases hi : (k : Nat) < l.length
    · have hb : Nat.blt k l.length = true := aBltT hi
      rw [hb, cond_true] at hE
      have hq := aGo_eq hE
      subst hq
      refine lv_astore_n C.1 C.2.1 hd rfl hl2 (by omega) rfl (fun ls' hl' => K H locs ls' ⟨hC.1, hC.2.1, by show (aSt l k (.ref x)).length = nL; rw [aSt_len]; exact hl1, _, hl', aLR_1 (v := .ref x) hC.2.2 (by omega) hl3 (fun _ z => by cases z)⟩)
    · have hb : Nat.blt k l.length = false := aBltF hi
      rw [hb, cond_false] at hE
      cases hE
  · rename_i r
    by_cases hi : (k : Nat) < l.length
    · have hb : Nat.blt k l.length = true := aBltT hi
      rw [hb, cond_true] at hE
      have hq := aGo_eq hE
      subst hq
      refine lv_astore_nN C.1 C.2.1 hd rfl hl2 (by omega) rfl (fun ls' hl' => K H locs ls' ⟨hC.1, hC.2.1, by show (aSt l k .null).length = nL; rw [aSt_len]; exact hl1, _, hl', aLR_1 (v := .null) hC.2.2 (by omega) hl3 (fun _ z => by cases z)⟩)
    · have hb : Nat.blt k l.length = false := aBltF hi
      rw [hb, cond_false] at hE
      cases hE
  · cases hE
theorem s_storeJ (C : aMc p s m meth c args md) {i n : Nat} (hE : aStoreJ (pc + n) i l st h = some (.inl q))
    (hrow : ∀ {H : Heap} {locs : List Loc} {ls : Array Slot} {x : Int64} {lv : List (Nat × Value)} {rest : List Value}, lv_has ls nL lv → i + 1 < nL → (∀ ls' : Array Slot, lv_has ls' nL ((i, Value.long x) :: lv.filter (fun q => !(q.1 == i) && (!(q.1 == i + 1) && !(q.1 + 1 == i && q.2.category == 2)))) → W p la e R s m args below meth c H locs (aN h - n0) (aSl h - s0) Q (F0 m (pc + n) ls' rest)) → W p la e R s m args below meth c H locs (aN h - n0) (aSl h - s0) Q (F0 m pc ls (.long x :: rest)))
    (K : aKt p la e R s m args below meth c Q ad base ids D nL n0 s0 q) : aKt p la e R s m args below meth c Q ad base ids D nL n0 s0 (pc, l, st, h) := by
  intro H locs ls hC
  unfold aStoreJ at hE
  split at hE
  · rename_i x r
    by_cases hi : i + 1 < l.length
    · have hb : Nat.blt (i + 1) l.length = true := aBltT hi
      rw [hb, cond_true] at hE
      have hq := aGo_eq hE
      subst hq
      obtain ⟨hl1, lv, hl2, hl3⟩ := id hC.2.2
      have hl1 : l.length = nL := hl1
      refine hrow (x := x) (rest := r.map (aCv ad)) hl2 (by omega) (fun ls' hl' => K H locs ls' ⟨hC.1, hC.2.1, by show (aSt l i (.long x)).length = nL; rw [aSt_len]; exact hl1, _, hl', aLR_2 hC.2.2 (by omega) hl3⟩)
    · have hb : Nat.blt (i + 1) l.length = false := aBltF hi
      rw [hb, cond_false] at hE
      cases hE
  · cases hE
theorem s_inc (C : aMc p s m meth c args md) {i : Nat} {n : Int} (hd : decode md.2.2.1 pc = .ok (.iinc i n, 3)) (hE : aInc pc i n l st h = some (.inl q)) (K : aKt p la e R s m args below meth c Q ad base ids D nL n0 s0 q) : aKt p la e R s m args below meth c Q ad base ids D nL n0 s0 (pc, l, st, h) := by
  intro H locs ls hC
  unfold aInc at hE
  split at hE
  · rename_i x hx
    by_cases hi : i < l.length
    · have hb : Nat.blt i l.length = true := aBltT hi
      rw [hb, cond_true] at hE
      have hq := aGo_eq hE
      subst hq
      obtain ⟨hl1, lv, hl2, hl3⟩ := id hC.2.2
      have hl1 : l.length = nL := hl1
      obtain ⟨k, hk⟩ := List.getElem?_of_mem (hl3 i (.int x) (aLd_at hx))
      refine lv_iinc (x := x) C.1 C.2.1 hd hl2 hk rfl (by omega) rfl (fun ls' hl' => K H locs ls' ⟨hC.1, hC.2.1, by show (aSt l i (.int (x + Int32.ofInt n))).length = nL; rw [aSt_len]; exact hl1, _, hl', aLR_1 (v := .int (x + Int32.ofInt n)) hC.2.2 (by omega) hl3 (fun _ z => by cases z)⟩)
    · have hb : Nat.blt i l.length = false := aBltF hi
      rw [hb, cond_false] at hE
      cases hE
  · cases hE
/-- two ints to one -/
theorem s_op2I {f : Int32 → Int32 → Int32} (hE : aOp2I f pc l st h = some (.inl q)) (hrow : ∀ {H : Heap} {locs : List Loc} {ls : Array Slot} {x y : Int32} {rest : List Value}, W p la e R s m args below meth c H locs (aN h - n0) (aSl h - s0) Q (F0 m (pc + 1) ls (.int (f x y) :: rest)) → W p la e R s m args below meth c H locs (aN h - n0) (aSl h - s0) Q (F0 m pc ls (.int y :: .int x :: rest)))
    (K : aKt p la e R s m args below meth c Q ad base ids D nL n0 s0 q) : aKt p la e R s m args below meth c Q ad base ids D nL n0 s0 (pc, l, st, h) := by
  intro H locs ls hC
  unfold aOp2I at hE
  split at hE
  · have hq := aGo_eq hE
    subst hq
    exact hrow (K H locs ls hC)
  · cases hE
theorem s_op2J {f : Int64 → Int64 → Int64} (hE : aOp2J f pc l st h = some (.inl q)) (hrow : ∀ {H : Heap} {locs : List Loc} {ls : Array Slot} {x y : Int64} {rest : List Value}, W p la e R s m args below meth c H locs (aN h - n0) (aSl h - s0) Q (F0 m (pc + 1) ls (.long (f x y) :: rest)) → W p la e R s m args below meth c H locs (aN h - n0) (aSl h - s0) Q (F0 m pc ls (.long y :: .long x :: rest)))
    (K : aKt p la e R s m args below meth c Q ad base ids D nL n0 s0 q) : aKt p la e R s m args below meth c Q ad base ids D nL n0 s0 (pc, l, st, h) := by
  intro H locs ls hC
  unfold aOp2J at hE
  split at hE
  · have hq := aGo_eq hE
    subst hq
    exact hrow (K H locs ls hC)
  · cases hE
theorem s_divI {f : Int32 → Int32 → Int32} (hE : aDivI f pc l st h = some (.inl q)) (hrow : ∀ {H : Heap} {locs : List Loc} {ls : Array Slot} {x y : Int32} {rest : List Value}, ¬ y = 0 → W p la e R s m args below meth c H locs (aN h - n0) (aSl h - s0) Q (F0 m (pc + 1) ls (.int (f x y) :: rest)) → W p la e R s m args below meth c H locs (aN h - n0) (aSl h - s0) Q (F0 m pc ls (.int y :: .int x :: rest)))
    (K : aKt p la e R s m args below meth c Q ad base ids D nL n0 s0 q) : aKt p la e R s m args below meth c Q ad base ids D nL n0 s0 (pc, l, st, h) := by
  intro H locs ls hC
  unfold aDivI at hE
  split at hE
  · split at hE
    · cases hE
    · rename_i hy
      have hq := aGo_eq hE
      subst hq
      exact hrow hy (K H locs ls hC)
  · cases hE
theorem s_divJ {f : Int64 → Int64 → Int64} (hE : aDivJ f pc l st h = some (.inl q)) (hrow : ∀ {H : Heap} {locs : List Loc} {ls : Array Slot} {x y : Int64} {rest : List Value}, ¬ y = 0 → W p la e R s m args below meth c H locs (aN h - n0) (aSl h - s0) Q (F0 m (pc + 1) ls (.long (f x y) :: rest)) → W p la e R s m args below meth c H locs (aN h - n0) (aSl h - s0) Q (F0 m pc ls (.long y :: .long x :: rest)))
    (K : aKt p la e R s m args below meth c Q ad base ids D nL n0 s0 q) : aKt p la e R s m args below meth c Q ad base ids D nL n0 s0 (pc, l, st, h) := by
  intro H locs ls hC
  unfold aDivJ at hE
  split at hE
  · split at hE
    · cases hE
    · rename_i hy
      have hq := aGo_eq hE
      subst hq
      exact hrow hy (K H locs ls hC)
  · cases hE
theorem s_if1 {cnd : Int32 → Prop} [DecidablePred cnd] {t : Nat} (hE : aIf1 cnd pc t l st h = some (.inl q)) (hrow : ∀ {H : Heap} {locs : List Loc} {ls : Array Slot} {x : Int32} {rest : List Value}, (cnd x → W p la e R s m args below meth c H locs (aN h - n0) (aSl h - s0) Q (F0 m t ls rest)) → (¬ cnd x → W p la e R s m args below meth c H locs (aN h - n0) (aSl h - s0) Q (F0 m (pc + 3) ls rest)) → W p la e R s m args below meth c H locs (aN h - n0) (aSl h - s0) Q (F0 m pc ls (.int x :: rest)))
    (K : aKt p la e R s m args below meth c Q ad base ids D nL n0 s0 q) : aKt p la e R s m args below meth c Q ad base ids D nL n0 s0 (pc, l, st, h) := by
  intro H locs ls hC
  unfold aIf1 at hE
  split at hE
  · split at hE
    · rename_i hy
      have hq := aGo_eq hE
      subst hq
      exact hrow (fun _ => K H locs ls hC) (fun z => absurd hy z)
    · rename_i hy
      have hq := aGo_eq hE
      subst hq
      exact hrow (fun z => absurd z hy) (fun _ => K H locs ls hC)
  · cases hE
theorem s_if2 {cnd : Int32 → Int32 → Prop} [∀ x y, Decidable (cnd x y)] {t : Nat} (hE : aIf2 cnd pc t l st h = some (.inl q)) (hrow : ∀ {H : Heap} {locs : List Loc} {ls : Array Slot} {x y : Int32} {rest : List Value}, (cnd x y → W p la e R s m args below meth c H locs (aN h - n0) (aSl h - s0) Q (F0 m t ls rest)) → (¬ cnd x y → W p la e R s m args below meth c H locs (aN h - n0) (aSl h - s0) Q (F0 m (pc + 3) ls rest)) → W p la e R s m args below meth c H locs (aN h - n0) (aSl h - s0) Q (F0 m pc ls (.int y :: .int x :: rest)))
    (K : aKt p la e R s m args below meth c Q ad base ids D nL n0 s0 q) : aKt p la e R s m args below meth c Q ad base ids D nL n0 s0 (pc, l, st, h) := by
  intro H locs ls hC
  unfold aIf2 at hE
  split at hE
  · split at hE
    · rename_i hy
      have hq := aGo_eq hE
      subst hq
      exact hrow (fun _ => K H locs ls hC) (fun z => absurd hy z)
    · rename_i hy
      have hq := aGo_eq hE
      subst hq
      exact hrow (fun z => absurd z hy) (fun _ => K H locs ls hC)
  · cases hE
end AStep
