/-! ===== the claim out of the abstract run of the law ===== -/
/-- where the Statement speaks of each string constant; where the tables do -/
def aSP : List Nat := [9, 18, 88, 174, 182, 191, 199, 207, 216, 222, 232, 240, 246, 252, 260, 267, 274, 281, 288, 295, 304, 313, 323, 332, 339, 349, 358, 366, 375, 381, 388, 398, 405, 413, 421, 430, 438, 447, 456, 464]
def aSQ : List Nat := [654, 732, 737, 755, 768, 786, 791, 792, 793, 794, 799, 800, 801, 806, 824, 848, 859, 864, 865, 870, 871, 872, 873, 874, 879, 880, 881, 882, 887, 888, 889, 894, 895, 896, 1245, 1246, 1247, 1248, 1249, 1250]
def aNa (i : Nat) (w : Cond) : Bool := decide ((flatC (Jvm.Cond.and given_1 narrow_1))[i]? = some w)
theorem aNa_ok {i : Nat} {w : Cond} {args : Array Value} {s : State} (hgv : (Jvm.Cond.and given_1 narrow_1).before args s = true) (h : aNa i w = true) : w.before args s = true := flat_of_before _ hgv _ (List.mem_of_getElem? (of_decide_eq_true h))
abbrev aStm (q : String × Nat × String) : Term := .string q.1 q.2.1
def aStOk (k : Nat) : Bool := match aStr[k]?, aSS[k]? with
  | some q, some t => aNa (aSP.getD k 0) (.exactly (aStm q) "java/lang/String") && (aNa (aSP.getD k 0 + 1) (.eq (.field (aStm q) "java/lang/String" "coder" "B") (.int 0)) && (aNa (aSP.getD k 0 + 2) (.arrayOf (.field (aStm q) "java/lang/String" "value" "[B") .byte) && (aNa (aSP.getD k 0 + 3) (.eq (.length (.field (aStm q) "java/lang/String" "value" "[B")) (.int (Int32.ofNat t.length))) && ((List.range t.length).all (fun j => aNa (aSP.getD k 0 + 4 + j) (.eq (.elem (.field (aStm q) "java/lang/String" "value" "[B") (.int (Int32.ofNat j))) (.int (t.getD j 0)))) && decide (lw_tbl[aSQ.getD k 0]? = some (.stringRef q.1 q.2.1 q.2.2))))))
  | _, _ => false
theorem aStOk_0 : (List.range 10).all aStOk = true := by decide +kernel
theorem aStOk_1 : (List.range 10).all (fun k => aStOk (10 + k)) = true := by decide +kernel
theorem aStOk_2 : (List.range 10).all (fun k => aStOk (20 + k)) = true := by decide +kernel
theorem aStOk_3 : (List.range 10).all (fun k => aStOk (30 + k)) = true := by decide +kernel
theorem aStOk_all {k : Nat} (h : k < 40) : aStOk k = true := by
  by_cases h1 : k < 10
  · exact List.all_eq_true.mp aStOk_0 k (List.mem_range.mpr h1)
  · by_cases h2 : k < 20
    · have := List.all_eq_true.mp aStOk_1 (k - 10) (List.mem_range.mpr (by omega))
      rwa [show 10 + (k - 10) = k by omega] at this
    · by_cases h3 : k < 30
      · have := List.all_eq_true.mp aStOk_2 (k - 20) (List.mem_range.mpr (by omega))
        rwa [show 20 + (k - 20) = k by omega] at this
      · have := List.all_eq_true.mp aStOk_3 (k - 30) (List.mem_range.mpr (by omega))
        rwa [show 30 + (k - 30) = k by omega] at this
theorem aNa_cs : aNa 4 (.eq (.static "java/lang/String" "COMPACT_STRINGS" "Z") (.int 1)) = true := by decide +kernel
theorem aNa_fm : aNa 5 (.isRef (.static "jdk/internal/util/Preconditions" "SIOOBE_FORMATTER" "Ljava/util/function/BiFunction;")) = true := by decide +kernel
theorem aMNok : aMN.all (fun q => decide (lw_tbl[q.2.2.2 + 141]? = some (.methodLinkNest (aCn q.1) q.2.1 (aNm q.2.2.1) "OthersShoes"))) = true := by decide +kernel
theorem aAOok : lw_tbl[415]? = some (.arrayOver (.object "OthersShoes$State")) := by decide +kernel
theorem aLSok : lw_tbl[668]? = some (.laysStatic "java/lang/String" "COMPACT_STRINGS" "Z") ∧ lw_tbl[684]? = some (.laysStatic "jdk/internal/util/Preconditions" "SIOOBE_FORMATTER" "Ljava/util/function/BiFunction;") := by decide +kernel
theorem aSC_start {args : Array Value} {s : State} (hts : ∀ w ∈ lw_tbl, w.before args s = true) (hgv : (Jvm.Cond.and given_1 narrow_1).before args s = true) : ∃ sa av : Nat → Nat, aSC sa av s.heap.size s := by
  have hA : ∀ a : Nat, a < s.heap.size → ¬ (fun q => s.heap.size ≤ q) a := fun a h => Nat.not_le.mpr h
  have htsA := aTs_of hts
  have h0 : ∀ k : Nat, ∃ q : Nat × Nat, k < 40 → ∀ r t, aStr[k]? = some r → aSS[k]? = some t → vk_R r.1 r.2.1 r.2.2 q.1 s ∧ va_O "java/lang/String" q.1 (fun q => s.heap.size ≤ q) s s.heap ∧ va_OF "java/lang/String" "coder" "B" (.int 0) q.1 (fun q => s.heap.size ≤ q) s s.heap ∧ va_OF "java/lang/String" "value" "[B" (.ref q.2) q.1 (fun q => s.heap.size ≤ q) s s.heap ∧ va_T .byte q.2 t.length (fun j => .int (t.getD j 0)) (fun q => s.heap.size ≤ q) s s.heap := by
    intro k
    by_cases hk : k < 40
    · have h1 := aStOk_all hk
      unfold aStOk at h1
      split at h1
      · rename_i r t hr ht
        simp only [Bool.and_eq_true, decide_eq_true_eq] at h1
        obtain ⟨a1, a2, a3, a4, a5, a6⟩ := h1
        have b1 := aNa_ok hgv a1
        have b2 := aNa_ok hgv a2
        have b3 := aNa_ok hgv a3
        have b4 := aNa_ok hgv a4
        have b5 : ∀ j : Nat, j < t.length → (Cond.eq (.elem (.field (aStm r) "java/lang/String" "value" "[B") (.int (Int32.ofNat j))) (.int (t.getD j 0))).before args s = true := fun j hj => aNa_ok hgv (List.all_eq_true.mp a5 j (List.mem_range.mpr hj))
        obtain ⟨a, c, cA, kA, q1, q2, q3, q4, q5, q6, -⟩ := Cond.exactly_spec (args := args) (first := s) (o := none) (s := s) (idx := []) (t := aStm r) (cls := "java/lang/String") b1
        obtain ⟨tt, htt, hT⟩ := va_Tof (f := fun j => .int (t.getD j 0)) (A := fun q => s.heap.size ≤ q) (by have := (aSS_b ht).1; omega) b3 (va_eqt b4) (fun j hj => va_eqt (b5 j hj)) hA
        refine ⟨(a, tt), fun _ r' t' hr' ht' => ?_⟩
        rw [hr] at hr'
        rw [ht] at ht'
        cases hr'
        cases ht'
        exact ⟨vk_R.of (hts _ (List.mem_of_getElem? a6)) q1, ⟨cA, q3, q5, by rw [q6]; exact q2, hA a (Array.getElem?_eq_some_iff.mp q3).1⟩, vk_OFof q1 (va_eqt b2) hA, vk_OFof q1 htt hA, hT⟩
      · cases h1
    · exact ⟨(0, 0), fun h => absurd h hk⟩
  obtain ⟨f, hf⟩ := Classical.axiomOfChoice h0
  have hboth : ∀ k r, aStr[k]? = some r → k < 40 ∧ ∃ t, aSS[k]? = some t := by
    intro k r h
    have hl : k < 40 := by rw [← aStr_len]; exact (List.getElem?_eq_some_iff.mp h).1
    exact ⟨hl, _, List.getElem?_eq_getElem (by rw [aSS_len]; exact hl)⟩
  have hboth2 : ∀ k t, aSS[k]? = some t → k < 40 ∧ ∃ r, aStr[k]? = some r := by
    intro k t h
    have hl : k < 40 := by rw [← aSS_len]; exact (List.getElem?_eq_some_iff.mp h).1
    exact ⟨hl, _, List.getElem?_eq_getElem (by rw [aStr_len]; exact hl)⟩
  refine ⟨fun k => (f k).1, fun k => (f k).2, fun k r h => ?_, fun k t h => ?_, ?_, ?_⟩
  · obtain ⟨hl, t, ht⟩ := hboth k r h
    exact (hf k hl r t h ht).1
  · obtain ⟨hl, r, hr⟩ := hboth2 k t h
    exact (hf k hl r t hr h).2
  · exact va_Zof (hts _ (List.mem_of_getElem? aLSok.1)) (htsA _ jw_nS) (va_eqi (aNa_ok hgv aNa_cs)) hA
  · exact va_Zqof (hts _ (List.mem_of_getElem? aLSok.2)) (htsA _ jw_nP) (aNa_ok hgv aNa_fm) hA
/-- the abstract heap at the law's start -/
def aH0 (L : Nat) (xs : Nat → Int32) : aHp := (0, 0, fun _ => 0, fun _ => 0, fun _ _ => 0, fun _ _ => 0, fun _ _ => none, L, xs)
/-- WHAT IS LEFT TO SHOW: on every script of at most 3072 ints the abstract machine runs the law to 1, within the room -/
def aGoal (N : Nat) : Prop := ∀ (L : Nat) (xs : Nat → Int32), L ≤ N → ∃ (n : Nat) (h : aHp), aRun aMs aSS n 1000 295 0 [some (.ref aXa), none, none, none] [] (aH0 L xs) = some (some (.int 1), h) ∧ aN h ≤ 600000 ∧ aSl h ≤ 7302250
def R_law : String := "OthersShoesLaw"
def lw_P (b : Addr) (xs : List Int32) (args : Array Value) (s : State) : Prop := args = #[.ref b] ∧ s.IntsAt b xs ∧ xs.length ≤ 3072 ∧ (Jvm.Cond.and given_1 narrow_1).before args s = true
def lw_Q (_ : Array Value) (s : State) (o : Outcome) (t : State) : Prop := o = .returned (some (.int 1)) ∧ Framed s o t [] 600000 7302250
def lw_Z (below : List Frame) (a : Array Value) (s : State) : State → Prop := fun t => ∃ o, t.status = .running ∧ Ended t below o ∧ lw_Q a s o t
/-- the law's own end, with 1 on the stack, nothing written that was there before, its room as the claim has it -/
theorem lw_ret {p : Program} {l : Launch} {e : Env} {s : State} {m : MethodId} {below : List Frame} {meth : Method} {c : Code} {b : Nat} (hx : p.tables.exec = Jvm.exec) (hb : c.code = code) (hr : meth.sig.returnType = ret) (hlocks : meth.locks = false) {pc : Nat} {H : Heap} {ls : Array Slot} (hdg : decode code pc = .ok (.ireturn, 1)) : W p l e room_1 s m #[Value.ref b] below meth c H [] 600000 7302250 (lw_Z below #[Value.ref b] s) (F0 m pc ls [.int 1]) := by
  intro T hT X
  obtain ⟨fs, hret, hrun, hended, hW, hframe⟩ := X.leave (v := some (.int 1)) (hlocks := hlocks) (fun h => by rw [hr] at h; cases h)
  have hmeth' : T.vm.method? m = some meth := X.method'
  refine ⟨T.setFrames fs, ?_, .returned (some (.int 1)), hrun, hended, rfl, ⟨_, rfl⟩, hW, hframe⟩
  jvm_step X.here [X.here.top, hx, hb, hdg, hmeth', hr, ret, narrow_b1]
  (try refine ⟨rfl, ?_⟩); (try refine ⟨rfl, ?_⟩)
  first | (intro acts; rw [hret _ acts rfl rfl rfl]) | rw [hret _ _ rfl rfl rfl]
  exact Steps.refl _
/-- what holds at the law's entry: the machine, the code, the tables' words (any of lw_tbl by 'hts w (by decide +kernel)'), the script of L ints xs at the cell b, what the Statement gives of the start (any of its parts by flat_of_before) -/
def lw_At (p : Program) (s : State) (m : MethodId) (meth : Method) (c : Code) (b L : Nat) (xs : Nat → Int32) : Prop :=
  p.tables.exec = Jvm.exec ∧ c.code = code ∧ meth.sig.returnType = ret ∧ c.maxLocals = 4 ∧ s.vm.findClass R_law = some m.cls ∧ (∀ w ∈ lw_tbl, w.before #[Value.ref b] s = true) ∧ va_X b L xs s s.heap ∧ b < s.heap.size ∧ meth.locks = false ∧ (Jvm.Cond.and given_1 narrow_1).before #[Value.ref b] s = true
theorem aMs_law : aMs 295 = some aM295 := by
  have h : aMl[295]? = some aM295 := by
    rw [aMl_eq]
    have hl : aMlx.length = 295 := by decide +kernel
    rw [List.getElem?_append_right (Nat.le_of_eq hl), hl]
    rfl
  exact h
set_option maxHeartbeats 4000000 in
theorem whole_from (hg : aGoal 3072) {p : Program} {e : Env} {s : State} {m : MethodId} {below : List Frame} {meth : Method} {c : Code} (l : Launch) {b L : Nat} {xs : Nat → Int32} (hL : L ≤ 3072) (C0 : lw_At p s m meth c b L xs) : W p l e room_1 s m #[Value.ref b] below meth c s.heap [] 0 0 (lw_Z below #[Value.ref b] s) (entryFrame m ([Value.ref b] : List Value).toArray 4) := by
  obtain ⟨hx, hb, hr, hml, hown, hts, hX, hbl, hlocks, hgv⟩ := id C0
  have htsA := aTs_of hts
  obtain ⟨n, h', hrun, hcn, hcs⟩ := hg L xs hL
  -- classes
  have hKn : ∀ ci : Nat, ∃ q : ClassId × (Nat → Nat), ci < 13 → u_Kn s (aCn ci) (aT ci) (aNf ci) q.1 q.2 := by
    intro ci
    by_cases hci : ci < 13
    · obtain ⟨cC, iS, h1⟩ := u_known (C := aCn ci) (T := aT ci) (N := aNf ci) htsA (aLay hci) (htsA _ (aInst_ok hci))
      exact ⟨(cC, iS), fun _ => h1⟩
    · exact ⟨(0, fun _ => 0), fun h => absurd h hci⟩
  obtain ⟨f, hf⟩ := Classical.axiomOfChoice hKn
  obtain ⟨cI, kI, coI, fI, gI, tI⟩ := Cond.arrayClass_spec (htsA _ aT_ai)
  obtain ⟨cC, kC, coC, fC, gC, tC⟩ := Cond.arrayClass_spec (htsA _ aT_ac)
  obtain ⟨cJ, kJ, coJ, fJ, gJ, tJ⟩ := Cond.arrayClass_spec (htsA _ aT_al)
  have hAO : va_AO "OthersShoes$State" s := va_AO.of (hts _ (List.mem_of_getElem? aAOok))
  obtain ⟨coS, cS, kS, s1, s2, s3, s4, s5⟩ := Cond.arrayOver_spec hAO
  have hK : va_K (fun ci => (f ci).1, fun ci => (f ci).2) aCls (aTys (cI, cC, cJ, cS)) s := by
    refine ⟨fun ci q hq => ?_, fun k q hk => ?_⟩
    · have hci : ci < 13 := by
        have h9 := (List.getElem?_eq_some_iff.mp hq).1
        simpa using h9
      rw [aCls_at hci] at hq
      cases hq
      exact hf ci hci
    · match k, hk with
      | 0, hk => cases hk; exact ⟨fun n z => ⟨fun k h => (by cases h), kI, gI, coI, tI⟩, fI⟩
      | 1, hk => cases hk; exact ⟨fun n z => ⟨fun k h => (by cases h), kC, gC, coC, tC⟩, fC⟩
      | 2, hk => cases hk; exact ⟨fun n z => ⟨fun k h => (by cases h), kJ, gJ, coJ, tJ⟩, fJ⟩
      | 3, hk => cases hk; exact ⟨fun n z => ⟨fun k h => (by cases h), kS, s3, coS, s4⟩, kS, coS, s3, s4, s1, s5⟩
      | k + 4, hk => simp [aTys] at hk
  obtain ⟨sa, av, hSC⟩ := aSC_start hts hgv
  have hA : aAdOk (fun a => if a < aSa then s.heap.size + a else if a < aXa then sa (a - aSa) else b) s.heap.size b sa := by
    refine ⟨fun a ha => if_pos ha, fun k hk => ?_, ?_⟩
    · have h1 : ¬ aSa + k < aSa := by omega
      have h2 : aSa + k < aXa := by unfold aSa aXa; omega
      show (if aSa + k < aSa then _ else if aSa + k < aXa then sa (aSa + k - aSa) else b) = sa k
      rw [if_neg h1, if_pos h2, Nat.add_sub_cancel_left]
    · show (if aXa < aSa then _ else if aXa < aXa then _ else b) = b
      rw [if_neg (by unfold aSa aXa; omega), if_neg (Nat.lt_irrefl _)]
  generalize hade : (fun a => if a < aSa then s.heap.size + a else if a < aXa then sa (a - aSa) else b) = ad at hA
  have hCx : aCx (aSC sa av s.heap.size) s.heap.size b (cI, cC, cJ, cS) (fun ci => (f ci).1, fun ci => (f ci).2) (L, xs) s := by
    refine ⟨Nat.le_refl _, hbl, hK, fun q hq => ?_, hAO, hX, hSC⟩
    have h1 := of_decide_eq_true (List.all_eq_true.mp aMNok q hq)
    exact va_Nw.of rfl (hts _ (List.mem_of_getElem? h1))
  have C : aMc p s m meth c #[Value.ref b] aM295 := ⟨hx, hb, hml, hown, htsA, hr, hlocks, fun h => absurd h (by decide)⟩
  have hS : aSnd (aSC sa av s.heap.size) ad s.heap.size b (cI, cC, cJ, cS) (fun ci => (f ci).1, fun ci => (f ci).2) (L, xs) n := aSound (SC := aSC sa av s.heap.size) (ad := ad) (base := s.heap.size) (b := b) (sa := sa) (ids := (cI, cC, cJ, cS)) (D := (fun ci => (f ci).1, fun ci => (f ci).2)) (X := (L, xs)) aRowLen_ok aRowAt_ok aRowRef_ok (aSC_stay sa av s.heap.size) hA n
  have key := hS hrun aMs_law ⟨rfl, rfl⟩ (la := l) (e := e) (below := below) (R := room_1) (Q := lw_Z below #[Value.ref b] s) (n0 := 0) (s0 := 0) C hCx (by decide) (by decide) (Nat.zero_le _) (Nat.zero_le _) (by show aN h' ≤ 600000 + 0; omega) (by show aSl h' ≤ 7302250 + 0; omega) ?_
  · rw [lg_entry_eq]
    have hent := aLR_entry (ad := ad) [.ref aXa] (n := 4) (by decide)
    have e1 : [Value.ref aXa].map (aCv ad) = [.ref b] := by
      show [Value.ref (ad aXa)] = _
      rw [hA.2.2]
    rw [e1] at hent
    exact key s.heap [] _ ⟨⟨⟨rfl, by show 0 ≤ 950000; omega⟩, fun k q hq => by
      have h9 := (aW_inv hq).1
      exact absurd h9 (Nat.not_lt_zero _)⟩, va_S.rf, hent⟩
  · intro pc' ls' H' locs' hrel' hS' hro
    refine va_forget (fun q hq => hS'.2.2 q hq) ?_
    refine W.widen (k := 600000) (n := 7302250) (by omega) (by omega) ?_
    rcases hro with ⟨h1, -⟩ | ⟨x, h1, -, hd⟩ | ⟨x, h1, -⟩
    · cases h1
    · cases h1
      exact lw_ret hx hb hr hlocks hd
    · cases h1
set_option maxHeartbeats 4000000 in
theorem lw_walk (hg : aGoal 3072) (l : Launch) (b : Addr) (xs : List Int32) : MetFree l x (headSpec (Jvm.Cond.code x code maxLocals ret :: tables_1) room_1) (lw_P b xs) (fun _ _ _ _ _ => True) lw_Q := by
  refine MetFree.of_bodyS (code := code) (maxLocals := maxLocals) (ret := ret) (by decide) ?_ ?_
  · intro args s m h hn
    obtain ⟨meth, c, h1, h2, h3, h4, h5, h6, -, -⟩ := Cond.code_spec hn (atoms_spec (ws := Jvm.Cond.code x code maxLocals ret :: tables_1) h _ List.mem_cons_self)
    exact ⟨meth, c, h1, h2, h3, h4, h5, h6⟩
  · intro p e s m args below meth c s₁ B hml0 hP _
    obtain ⟨rfl, hx, hbd, hgv⟩ := hP
    obtain ⟨scr, harrAt, hlist, hof, hsmall⟩ := hx
    obtain ⟨hcb, hkn, -, -⟩ := State.arrayAt?_spec harrAt
    have hown : s.vm.findClass R_law = some m.cls := findClass_of_methodNamed B.named
    have hts0 : ∀ c ∈ (Jvm.Cond.code x code maxLocals ret :: tables_1), c.before #[Value.ref b] s = true := atoms_spec (ws := Jvm.Cond.code x code maxLocals ret :: tables_1) B.pre
    have hts : ∀ w ∈ lw_tbl, w.before #[Value.ref b] s = true := k2_hts_sels lw_privs (fun w hw => hts0 w (List.mem_cons_of_mem _ hw)) lw_privs_ok
    have hml : c.maxLocals = 4 := B.maxLocals_eq (hts0 _ List.mem_cons_self)
    have X₀ : Stand p l e room_1 s m #[Value.ref b] below meth c s₁ [] 0 0 := Stand.of_body B
    have hh0 : s₁.heap = s.heap := by rw [B.state]; rfl
    have hsz : scr.slots.size = xs.length := by rw [← Array.length_toList, hlist, List.length_map]
    have hval : ∀ j : Nat, j < xs.length → scr.slots[j]? = some (.int (xs.getD j 0)) := fun j hj => by
      rw [← Array.getElem?_toList, hlist]
      simp [hj]
    have hbl : b < s.heap.size := (Array.getElem?_eq_some_iff.mp hcb).1
    have hX : va_X b xs.length (fun j => xs.getD j 0) s s.heap := ⟨scr, hcb, hof, hkn, hsz, hval⟩
    have K : W p l e room_1 s m #[Value.ref b] below meth c s₁.heap [] 0 0 (lw_Z below #[Value.ref b] s) (entryFrame m ([Value.ref b] : List Value).toArray 4) := by
      rw [hh0]
      exact whole_from hg l hbd ⟨B.exec, B.bytes, B.returns, hml, hown, hts, hX, hbl, B.notSynchronized, hgv⟩
    obtain ⟨t, a1, o, b1, b2, b3⟩ := K s₁ rfl X₀
    exact ⟨t, o, a1, b1, b2, b3⟩
theorem lw_pre_spec {args : Array Value} {s : State} (h : (Jvm.Cond.and given_1 narrow_1).before args s = true) (hr : rest_1_c.before args s = true) : ∃ (b : Addr) (xs : List Int32), lw_P b xs args s := by
  have hs := flat_of_before _ h
  have hq := flat_of_before _ hr
  have hc : (Cond.count 1).before args s = true := hs _ (by decide +kernel)
  have harr : (Cond.arrayOf (.arg 0) .int).before args s = true := hs _ (by decide +kernel)
  have hle : (Cond.le (.length (.arg 0)) (.int 3072)).before args s = true := hs _ (by decide +kernel)
  have hlen : (Cond.isInt (.length (.arg 0))).before args s = true := hq _ (by decide +kernel)
  have hall : (Cond.all (.arg 0) (.isInt (.elem (.arg 0) (.index 0)))).before args s = true := hq _ (by decide +kernel)
  obtain ⟨b, xs, hb, hx⟩ := State.ints_of_pre rfl harr hlen hall
  have hsm : xs.length < 2 ^ 31 := hx.choose_spec.2.2.2
  have hev : (Term.length (.arg 0)).eval args s none [] s = some (.int xs.length.toInt32) := hx.length_eval hb
  have hv := Cond.le_ints hev (show (Term.int 3072).eval args s none [] s = some (.int 3072) from rfl)
  have hd : xs.length.toInt32 ≤ 3072 := by
    simpa [Cond.before, Cond.holds, hv] using hle
  have hN : xs.length ≤ 3072 := (Int32.ofNat_le_ofNat hsm (by decide)).mp (show Int32.ofNat xs.length ≤ Int32.ofNat 3072 from hd)
  exact ⟨b, xs, Cond.one_arg hc (show args[0]? = some (.ref b) from hb), hx, hN, h⟩
theorem lw_comes (hg : aGoal 3072) (l : Launch) : Comes l x (Jvm.Cond.code x code maxLocals ret :: tables_1) room_1 (fun tb e args s => Calls_1 tb e args s ∧ rest_1 tb e args s ∧ Pre_1 tb e args s)
    (fun _ _ args s o t => lw_Q args s o t) := by
  intro p e ha hc hk s m args below hf hfit hheap happ hpre
  obtain ⟨b, xs, hP⟩ := lw_pre_spec hpre.2.2 hpre.2.1
  obtain ⟨k, o, h1, h2, h3, hQ⟩ := lw_walk hg l b xs p e ha hc hk s m args below hf ((Spec.applies_iff_loose hf).mp happ).1 hP trivial
  exact ⟨k, o, h1, h2, h3, hQ⟩
theorem lw_frame {s t : State} {o : Outcome} {args : Array Value} (h : Framed s o t [] 600000 7302250) :
    Framed s o t (fieldLocs frame_1_writes args s ++ arrayLocs frame_1_arrays args s ++ staticLocs frame_1_statics s) 600000 7302250 := h
theorem lw_limb (hg : aGoal 3072) (L : Cond) (hL : ∀ (args : Array Value) (s t : State), L.after args s (.returned (some (.int 1))) t = true) :
    ArmFor flags0 classFile x code maxLocals ret World_1 tables_1 room_1 Calls_1 rest_1 Pre_1
      (fun tb e a s o t => postC L tb e a s o t ∧ Framed s o t (fieldLocs frame_1_writes a s ++ arrayLocs frame_1_arrays a s ++ staticLocs frame_1_statics s) 600000 7302250) := by
  intro l _ _ _ p e ha hc hk s m args below hf hfit hheap happ hpre
  obtain ⟨k, o, h1, h2, h3, rfl, hF⟩ := lw_comes hg l p e ha hc hk s m args below hf hfit hheap happ hpre
  exact ⟨k, _, h1, h2, h3, hL args s _, lw_frame hF⟩
theorem vc_from (hg : aGoal 3072) : Claimed_1_1 ∧ Claimed_1_2 := ⟨lw_limb hg limb_1_1 (fun args s t => by simp [limb_1_1, Cond.after, Cond.holds, Cond.value]), lw_limb hg limb_1_2 (fun args s t => Cond.after_iff.mpr (by
  first | (rw [show limb_1_2 = Cond.eq .result (.int 1) from rfl, Cond.eq_ints (x := 1) (y := 1) rfl rfl]; simp; done) | (simp [limb_1_2, Cond.value, Term.eval]; done)))⟩
