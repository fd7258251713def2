/-! ===== String.length and String.charAt of the constants ===== -/
theorem jd_co_0 : decode prog_16_method_152_code 0 = .ok (.getstatic 38, 3) := by decide +kernel
theorem jd_co_3 : decode prog_16_method_152_code 3 = .ok (.ifCond .eq 10, 3) := by decide +kernel
theorem jd_co_6 : decode prog_16_method_152_code 6 = .ok (.aload_n 0, 1) := by decide +kernel
theorem jd_co_7 : decode prog_16_method_152_code 7 = .ok (.getfield 15, 3) := by decide +kernel
theorem jd_co_10 : decode prog_16_method_152_code 10 = .ok (.goto 4, 3) := by decide +kernel
theorem jd_co_14 : decode prog_16_method_152_code 14 = .ok (.ireturn, 1) := by decide +kernel
theorem jd_la_0 : decode prog_16_method_154_code 0 = .ok (.getstatic 38, 3) := by decide +kernel
theorem jd_la_3 : decode prog_16_method_154_code 3 = .ok (.ifCond .eq 14, 3) := by decide +kernel
theorem jd_la_6 : decode prog_16_method_154_code 6 = .ok (.aload_n 0, 1) := by decide +kernel
theorem jd_la_7 : decode prog_16_method_154_code 7 = .ok (.getfield 15, 3) := by decide +kernel
theorem jd_la_10 : decode prog_16_method_154_code 10 = .ok (.ifCond .ne 7, 3) := by decide +kernel
theorem jd_la_13 : decode prog_16_method_154_code 13 = .ok (.iconst 1, 1) := by decide +kernel
theorem jd_la_14 : decode prog_16_method_154_code 14 = .ok (.goto 4, 3) := by decide +kernel
theorem jd_la_18 : decode prog_16_method_154_code 18 = .ok (.ireturn, 1) := by decide +kernel
theorem jd_le_0 : decode prog_16_method_54_code 0 = .ok (.aload_n 0, 1) := by decide +kernel
theorem jd_le_1 : decode prog_16_method_54_code 1 = .ok (.getfield 9, 3) := by decide +kernel
theorem jd_le_4 : decode prog_16_method_54_code 4 = .ok (.arraylength, 1) := by decide +kernel
theorem jd_le_5 : decode prog_16_method_54_code 5 = .ok (.aload_n 0, 1) := by decide +kernel
theorem jd_le_6 : decode prog_16_method_54_code 6 = .ok (.invokevirtual 335, 3) := by decide +kernel
theorem jd_le_9 : decode prog_16_method_54_code 9 = .ok (.ishr, 1) := by decide +kernel
theorem jd_le_10 : decode prog_16_method_54_code 10 = .ok (.ireturn, 1) := by decide +kernel
theorem jd_pc_0 : decode prog_21_method_11_code 0 = .ok (.iload_n 0, 1) := by decide +kernel
theorem jd_pc_1 : decode prog_21_method_11_code 1 = .ok (.ifCond .lt 8, 3) := by decide +kernel
theorem jd_pc_4 : decode prog_21_method_11_code 4 = .ok (.iload_n 0, 1) := by decide +kernel
theorem jd_pc_5 : decode prog_21_method_11_code 5 = .ok (.iload_n 1, 1) := by decide +kernel
theorem jd_pc_6 : decode prog_21_method_11_code 6 = .ok (.if_icmp .lt 10, 3) := by decide +kernel
theorem jd_pc_16 : decode prog_21_method_11_code 16 = .ok (.iload_n 0, 1) := by decide +kernel
theorem jd_pc_17 : decode prog_21_method_11_code 17 = .ok (.ireturn, 1) := by decide +kernel
theorem jd_ci_0 : decode prog_16_method_155_code 0 = .ok (.iload_n 0, 1) := by decide +kernel
theorem jd_ci_1 : decode prog_16_method_155_code 1 = .ok (.iload_n 1, 1) := by decide +kernel
theorem jd_ci_2 : decode prog_16_method_155_code 2 = .ok (.getstatic 1053, 3) := by decide +kernel
theorem jd_ci_5 : decode prog_16_method_155_code 5 = .ok (.invokestatic 1059, 3) := by decide +kernel
theorem jd_ci_8 : decode prog_16_method_155_code 8 = .ok (.pop, 1) := by decide +kernel
theorem jd_ci_9 : decode prog_16_method_155_code 9 = .ok (.return_, 1) := by decide +kernel
theorem jd_l1_0 : decode prog_17_method_2_code 0 = .ok (.iload_n 1, 1) := by decide +kernel
theorem jd_l1_1 : decode prog_17_method_2_code 1 = .ok (.aload_n 0, 1) := by decide +kernel
theorem jd_l1_2 : decode prog_17_method_2_code 2 = .ok (.arraylength, 1) := by decide +kernel
theorem jd_l1_3 : decode prog_17_method_2_code 3 = .ok (.invokestatic 9, 3) := by decide +kernel
theorem jd_l1_6 : decode prog_17_method_2_code 6 = .ok (.aload_n 0, 1) := by decide +kernel
theorem jd_l1_7 : decode prog_17_method_2_code 7 = .ok (.iload_n 1, 1) := by decide +kernel
theorem jd_l1_8 : decode prog_17_method_2_code 8 = .ok (.baload, 1) := by decide +kernel
theorem jd_l1_9 : decode prog_17_method_2_code 9 = .ok (.sipush 255, 3) := by decide +kernel
theorem jd_l1_12 : decode prog_17_method_2_code 12 = .ok (.iand, 1) := by decide +kernel
theorem jd_l1_13 : decode prog_17_method_2_code 13 = .ok (.i2c, 1) := by decide +kernel
theorem jd_l1_14 : decode prog_17_method_2_code 14 = .ok (.ireturn, 1) := by decide +kernel
theorem jd_ch_0 : decode prog_16_method_56_code 0 = .ok (.aload_n 0, 1) := by decide +kernel
theorem jd_ch_1 : decode prog_16_method_56_code 1 = .ok (.invokevirtual 492, 3) := by decide +kernel
theorem jd_ch_4 : decode prog_16_method_56_code 4 = .ok (.ifCond .eq 12, 3) := by decide +kernel
theorem jd_ch_7 : decode prog_16_method_56_code 7 = .ok (.aload_n 0, 1) := by decide +kernel
theorem jd_ch_8 : decode prog_16_method_56_code 8 = .ok (.getfield 9, 3) := by decide +kernel
theorem jd_ch_11 : decode prog_16_method_56_code 11 = .ok (.iload_n 1, 1) := by decide +kernel
theorem jd_ch_12 : decode prog_16_method_56_code 12 = .ok (.invokestatic 495, 3) := by decide +kernel
theorem jd_ch_15 : decode prog_16_method_56_code 15 = .ok (.ireturn, 1) := by decide +kernel
def jy_co : MethodName := ⟨"java/lang/String", "coder", "()B"⟩
def jy_la : MethodName := ⟨"java/lang/String", "isLatin1", "()Z"⟩
def jy_le : MethodName := ⟨"java/lang/String", "length", "()I"⟩
def jy_pc : MethodName := ⟨"jdk/internal/util/Preconditions", "checkIndex", "(IILjava/util/function/BiFunction;)I"⟩
def jy_ci : MethodName := ⟨"java/lang/String", "checkIndex", "(II)V"⟩
def jy_l1 : MethodName := ⟨"java/lang/StringLatin1", "charAt", "([BI)C"⟩
def jy_ch : MethodName := ⟨"java/lang/String", "charAt", "(I)C"⟩
theorem jw_cs : (Cond.fieldLink "java/lang/String" 38 "java/lang/String" "COMPACT_STRINGS" "Z") ∈ aTs := aAt_mem (i := 667) (by decide +kernel)
theorem jw_va : (Cond.fieldLink "java/lang/String" 9 "java/lang/String" "value" "[B") ∈ aTs := aAt_mem (i := 2209) (by decide +kernel)
theorem jw_cd : (Cond.fieldLink "java/lang/String" 15 "java/lang/String" "coder" "B") ∈ aTs := aAt_mem (i := 2210) (by decide +kernel)
theorem jw_fm : (Cond.fieldLink "java/lang/String" 1053 "jdk/internal/util/Preconditions" "SIOOBE_FORMATTER" "Ljava/util/function/BiFunction;") ∈ aTs := aAt_mem (i := 683) (by decide +kernel)
theorem jw_mco : (Cond.methodLink "java/lang/String" 335 jy_co) ∈ aTs := aAt_mem (i := 663) (by decide +kernel)
theorem jw_ico : (Cond.instanceMethod jy_co) ∈ aTs := aAt_mem (i := 664) (by decide +kernel)
theorem jw_sco : (Cond.selects "java/lang/String" jy_co jy_co) ∈ aTs := aAt_mem (i := 665) (by decide +kernel)
theorem jw_cco : (Cond.code jy_co prog_16_method_152_code 1 (some .byte)) ∈ aTs := aCh3 (List.mem_of_getElem? (i := 45) rfl) rfl
theorem jw_mla : (Cond.methodLink "java/lang/String" 492 jy_la) ∈ aTs := aAt_mem (i := 673) (by decide +kernel)
theorem jw_ila : (Cond.instanceMethod jy_la) ∈ aTs := aAt_mem (i := 674) (by decide +kernel)
theorem jw_sla : (Cond.selects "java/lang/String" jy_la jy_la) ∈ aTs := aAt_mem (i := 675) (by decide +kernel)
theorem jw_cla : (Cond.code jy_la prog_16_method_154_code 1 (some .boolean)) ∈ aTs := aCh3 (List.mem_of_getElem? (i := 55) rfl) rfl
theorem jw_ml1 : (Cond.methodLink "java/lang/String" 495 jy_l1) ∈ aTs := aAt_mem (i := 677) (by decide +kernel)
theorem jw_tl1 : (Cond.static jy_l1) ∈ aTs := aAt_mem (i := 678) (by decide +kernel)
theorem jw_cl1 : (Cond.code jy_l1 prog_17_method_2_code 2 (some .char)) ∈ aTs := aCh3 (List.mem_of_getElem? (i := 58) rfl) rfl
theorem jw_mci : (Cond.methodLink "java/lang/StringLatin1" 9 jy_ci) ∈ aTs := aAt_mem (i := 680) (by decide +kernel)
theorem jw_tci : (Cond.static jy_ci) ∈ aTs := aAt_mem (i := 681) (by decide +kernel)
theorem jw_cci : (Cond.code jy_ci prog_16_method_155_code 2 none) ∈ aTs := aCh3 (List.mem_of_getElem? (i := 61) rfl) rfl
theorem jw_mpc : (Cond.methodLink "java/lang/String" 1059 jy_pc) ∈ aTs := aAt_mem (i := 685) (by decide +kernel)
theorem jw_tpc : (Cond.static jy_pc) ∈ aTs := aAt_mem (i := 686) (by decide +kernel)
theorem jw_cpc : (Cond.code jy_pc prog_21_method_11_code 3 (some .int)) ∈ aTs := aCh3 (List.mem_of_getElem? (i := 66) rfl) rfl
theorem jw_ile : (Cond.instanceMethod jy_le) ∈ aTs := aAt_mem (i := 660) (by decide +kernel)
theorem jw_sle : (Cond.selects "java/lang/String" jy_le jy_le) ∈ aTs := aAt_mem (i := 661) (by decide +kernel)
theorem jw_cle : (Cond.code jy_le prog_16_method_54_code 1 (some .int)) ∈ aTs := aCh3 (List.mem_of_getElem? (i := 41) rfl) rfl
theorem jw_ich : (Cond.instanceMethod jy_ch) ∈ aTs := aAt_mem (i := 670) (by decide +kernel)
theorem jw_sch : (Cond.selects "java/lang/String" jy_ch jy_ch) ∈ aTs := aAt_mem (i := 671) (by decide +kernel)
theorem jw_cch : (Cond.code jy_ch prog_16_method_56_code 2 (some .char)) ∈ aTs := aCh3 (List.mem_of_getElem? (i := 51) rfl) rfl
theorem jw_nS : (Cond.initialized "java/lang/String") ∈ aTs := aAt_mem (i := 156) (by decide +kernel)
theorem jw_nL : (Cond.initialized "java/lang/StringLatin1") ∈ aTs := aAt_mem (i := 157) (by decide +kernel)
theorem jw_nP : (Cond.initialized "jdk/internal/util/Preconditions") ∈ aTs := aAt_mem (i := 158) (by decide +kernel)
/-- what is known of the string constants -/
def aSC (sa av : Nat → Nat) (base : Nat) (U : State) : Prop := (∀ k q, aStr[k]? = some q → vk_R q.1 q.2.1 q.2.2 (sa k) U) ∧ (∀ k t, aSS[k]? = some t → va_O "java/lang/String" (sa k) (fun q => base ≤ q) U U.heap ∧ va_OF "java/lang/String" "coder" "B" (.int 0) (sa k) (fun q => base ≤ q) U U.heap ∧ va_OF "java/lang/String" "value" "[B" (.ref (av k)) (sa k) (fun q => base ≤ q) U U.heap ∧ va_T .byte (av k) t.length (fun j => .int (t.getD j 0)) (fun q => base ≤ q) U U.heap) ∧ va_Z "java/lang/String" "COMPACT_STRINGS" "Z" (.int 1) (fun q => base ≤ q) U U.heap ∧ va_Zq "jdk/internal/util/Preconditions" "SIOOBE_FORMATTER" "Ljava/util/function/BiFunction;" (fun q => base ≤ q) U U.heap
theorem aSC_stay (sa av : Nat → Nat) (base : Nat) : aStay (aSC sa av base) base := by
  intro s U h hs hu hq hW
  obtain ⟨h1, h2, h3, h4⟩ := h
  have hk : ∀ a : Nat, a < s.heap.size → ¬ (fun q => base ≤ q) a → U.heap[a]? = s.heap[a]? := fun a _ hn => hq a (Nat.not_le.mp hn)
  have hA := hW.alike
  refine ⟨fun k q e => (h1 k q e).warm hW, fun k t e => ?_, (h3.moved hA).kept hk, (h4.moved hA).kept hk⟩
  obtain ⟨a1, a2, a3, a4⟩ := h2 k t e
  exact ⟨(a1.moved hA).kept hk, (a2.moved hA).kept hk, (a3.moved hA).kept hk, (a4.moved hA).kept hk⟩
def jP (sa av : Nat → Nat) (base : Nat) (as : List Value) : Array Value → State → Prop := fun a U => a = as.toArray ∧ aSC sa av base U ∧ base ≤ U.heap.size
def jQ (v : Option Value) : Array Value → State → Outcome → State → Prop := fun _ st oc t => oc = .returned v ∧ t.heap = st.heap
section JStr
variable {sa av : Nat → Nat} {base : Nat}
theorem jP_blind {as : List Value} : FrameBlind (jP sa av base as) := fun a U g mk q => ⟨q.1, aSC_stay sa av base U _ q.2.1 q.2.2 q.2.2 (fun _ _ => rfl) (State.WarmedH.refl U), q.2.2⟩
theorem jP_pre {s : State} {H : Heap} {locs : List Loc} {as : List Value} (hSC : aSC sa av base s) (hbs : base ≤ s.heap.size) (hS : va_S (fun q => base ≤ q) s.heap H locs) : ∀ U : State, U.heap = H → s.WarmedH U.vm → jP sa av base as as.toArray U := by
  intro U hU hW
  refine ⟨rfl, aSC_stay sa av base s U hSC hbs (by rw [hU]; exact Nat.le_trans hbs hS.1) (fun q hq => ?_) hW, by rw [hU]; exact Nat.le_trans hbs hS.1⟩
  rw [hU]
  exact hS.2.1 q (Nat.lt_of_lt_of_le hq hbs) (by show ¬ base ≤ q; omega)
theorem jGo {p : Program} {la : Launch} {e : Env} {R : Room} {s : State} {m : MethodId} {args : Array Value} {below : List Frame} {meth : Method} {c : Code} {Q : State → Prop} {H : Heap} {locs : List Loc} {cells slots pc : Nat} {ls : Array Slot} {st0 rest : List Value} {a : Array Value} {v1 : Option Value}
    (hr : va_Run p la e R s m args below meth c H locs cells slots 0 0 (F0 m pc ls st0) rest (jQ v1 a) (fun _ => False)) (kk : W p la e R s m args below meth c H locs cells slots Q (F0 m (pc + 3) ls (v1.toList ++ rest))) : W p la e R s m args below meth c H locs cells slots Q (F0 m pc ls st0) := by
  intro T hT X
  obtain ⟨v, st₀, t, T', L, h0, X', hL, e1, e2, ⟨q1, q2⟩, st⟩ := hr T hT X
  have hv : v = v1 := Outcome.returned.inj q1
  subst hv
  have eL : L = [] := List.eq_nil_iff_forall_not_mem.mpr fun q hq => hL q hq
  subst eL
  rw [List.append_nil] at X'
  obtain ⟨t2, a1, b1⟩ := kk T' (by rw [e1, q2, h0]) X'
  exact ⟨t2, st t2 a1, b1⟩
theorem jWs {y : MethodName} {b : ByteArray} {n : Nat} {r : Option FieldType} (h : Cond.code y b n r ∈ aTs) : GoodIn aTs (Cond.code y b n r :: aTs) := by
  intro w hw
  rcases List.mem_cons.mp hw with rfl | hw
  · exact ⟨h, good_of_word (List.mem_filter.mp h).2⟩
  · exact aTs_good w hw
set_option maxHeartbeats 4000000 in
theorem j_co (la : Launch) {k : Nat} {t : List Int32} (hk : aSS[k]? = some t) : Met la jy_co (Cond.code jy_co prog_16_method_152_code 1 (some .byte) :: aTs) ({ frames := 0, cells := 0, slots := 0, locals := 0 }) (jP sa av base [.ref (sa k)]) (jQ (some (.int 0))) 0 0 (fun _ => False) := by
  refine aMet_ofW (cc := prog_16_method_152_code) (maxL := 1) (ret := (some .byte)) (by decide +kernel) rfl ?_
  intro p e s m args below meth c s₁ B hml hv
  obtain ⟨rfl, hSC, hbs⟩ := hv
  have hx := B.exec
  have hb := B.bytes
  have hr := B.returns
  have hlocks := B.notSynchronized
  have hts : ∀ w ∈ aTs, w.before _ s = true := fun w hw => atoms_spec (ws := Cond.code jy_co prog_16_method_152_code 1 (some .byte) :: aTs) B.pre w (List.mem_cons_of_mem _ hw)
  have hown : s.vm.findClass "java/lang/String" = some m.cls := findClass_of_methodNamed B.named
  have hS : va_S (fun q => base ≤ q) s.heap s.heap [] := va_S.rf
  have hl := lv_entry ([.ref (sa k)]) (n := 1) (Nat.le_of_ble_eq_true rfl)
  rw [lg_entry_eq]
  generalize (lg_sl ([.ref (sa k)]) ++ List.replicate (1 - (lg_sl ([.ref (sa k)])).length) Slot.unset).toArray = ls at hl ⊢
  have hl : lv_has ls 1 [(0, .ref (sa k))] := hl
  refine va_gets hx hb hSC.2.2.1 hS hown (hts _ jw_cs) (fun _ h => h) jd_co_0 ?_
  refine lv_if_eq (tgt := 13) hx hb jd_co_3 (by decide) (fun z => absurd z (by decide)) (fun _ => ?_)
  refine lv_aload_n hx hb jd_co_6 rfl (lv_at hl 0 rfl) ?_
  refine vk_getf hx hb (hSC.2.1 k t hk).2.1 hS hown (hts _ jw_cd) (fun _ h => h) jd_co_7 ?_
  refine lv_goto (tgt := 14) hx hb jd_co_10 (by decide) ?_
  exact W.zret (ty := .byte) hx hb hr rfl (fun t ht _ => ⟨rfl, ht⟩) (fun _ h => by cases h) jd_co_14
set_option maxHeartbeats 4000000 in
theorem j_la (la : Launch) {k : Nat} {t : List Int32} (hk : aSS[k]? = some t) : Met la jy_la (Cond.code jy_la prog_16_method_154_code 1 (some .boolean) :: aTs) ({ frames := 0, cells := 0, slots := 0, locals := 0 }) (jP sa av base [.ref (sa k)]) (jQ (some (.int 1))) 0 0 (fun _ => False) := by
  refine aMet_ofW (cc := prog_16_method_154_code) (maxL := 1) (ret := (some .boolean)) (by decide +kernel) rfl ?_
  intro p e s m args below meth c s₁ B hml hv
  obtain ⟨rfl, hSC, hbs⟩ := hv
  have hx := B.exec
  have hb := B.bytes
  have hr := B.returns
  have hlocks := B.notSynchronized
  have hts : ∀ w ∈ aTs, w.before _ s = true := fun w hw => atoms_spec (ws := Cond.code jy_la prog_16_method_154_code 1 (some .boolean) :: aTs) B.pre w (List.mem_cons_of_mem _ hw)
  have hown : s.vm.findClass "java/lang/String" = some m.cls := findClass_of_methodNamed B.named
  have hS : va_S (fun q => base ≤ q) s.heap s.heap [] := va_S.rf
  have hl := lv_entry ([.ref (sa k)]) (n := 1) (Nat.le_of_ble_eq_true rfl)
  rw [lg_entry_eq]
  generalize (lg_sl ([.ref (sa k)]) ++ List.replicate (1 - (lg_sl ([.ref (sa k)])).length) Slot.unset).toArray = ls at hl ⊢
  have hl : lv_has ls 1 [(0, .ref (sa k))] := hl
  refine va_gets hx hb hSC.2.2.1 hS hown (hts _ jw_cs) (fun _ h => h) jd_la_0 ?_
  refine lv_if_eq (tgt := 17) hx hb jd_la_3 (by decide) (fun z => absurd z (by decide)) (fun _ => ?_)
  refine lv_aload_n hx hb jd_la_6 rfl (lv_at hl 0 rfl) ?_
  refine vk_getf hx hb (hSC.2.1 k t hk).2.1 hS hown (hts _ jw_cd) (fun _ h => h) jd_la_7 ?_
  refine lv_if_ne (tgt := 17) hx hb jd_la_10 (by decide) (fun z => absurd rfl z) (fun _ => ?_)
  refine lv_iconst (v := 1) hx hb jd_la_13 (by decide) ?_
  refine lv_goto (tgt := 18) hx hb jd_la_14 (by decide) ?_
  exact W.zret (ty := .boolean) hx hb hr rfl (fun t ht _ => ⟨rfl, ht⟩) (fun _ h => by cases h) jd_la_18
set_option maxHeartbeats 4000000 in
theorem j_le (la : Launch) {k : Nat} {t : List Int32} (hk : aSS[k]? = some t) : Met la jy_le (Cond.code jy_le prog_16_method_54_code 1 (some .int) :: aTs) ({ frames := 1, cells := 0, slots := 0, locals := 20 }) (jP sa av base [.ref (sa k)]) (jQ (some (.int (Int32.ofNat t.length)))) 0 0 (fun _ => False) := by
  refine aMet_ofW (cc := prog_16_method_54_code) (maxL := 1) (ret := (some .int)) (by decide +kernel) rfl ?_
  intro p e s m args below meth c s₁ B hml hv
  obtain ⟨rfl, hSC, hbs⟩ := hv
  have hx := B.exec
  have hb := B.bytes
  have hr := B.returns
  have hlocks := B.notSynchronized
  have hts : ∀ w ∈ aTs, w.before _ s = true := fun w hw => atoms_spec (ws := Cond.code jy_le prog_16_method_54_code 1 (some .int) :: aTs) B.pre w (List.mem_cons_of_mem _ hw)
  have hown : s.vm.findClass "java/lang/String" = some m.cls := findClass_of_methodNamed B.named
  have hS : va_S (fun q => base ≤ q) s.heap s.heap [] := va_S.rf
  have hl := lv_entry ([.ref (sa k)]) (n := 1) (Nat.le_of_ble_eq_true rfl)
  rw [lg_entry_eq]
  generalize (lg_sl ([.ref (sa k)]) ++ List.replicate (1 - (lg_sl ([.ref (sa k)])).length) Slot.unset).toArray = ls at hl ⊢
  have hl : lv_has ls 1 [(0, .ref (sa k))] := hl
  refine lv_aload_n hx hb jd_le_0 rfl (lv_at hl 0 rfl) ?_
  refine vk_getf hx hb (hSC.2.1 k t hk).2.2.1 hS hown (hts _ jw_va) (fun _ h => h) jd_le_1 ?_
  refine va_tlen hx hb (hSC.2.1 k t hk).2.2.2 hS rfl jd_le_4 ?_
  refine lv_aload_n hx hb jd_le_5 rfl (lv_at hl 0 rfl) ?_
  refine jGo (v1 := some (.int 0)) (rest := [.int (Int32.ofNat t.length)]) (va_runV (C := "java/lang/String") (As := []) (b := sa k) ⟨hx, hb, hml, hown, hts⟩ (j_co la hk) ⟨callB_of 0 hts (jWs jw_cco) rfl rfl rfl (hts _ jw_nS) (hts _ jw_mco) (by decide +kernel) ⟨Nat.le_of_ble_eq_true rfl, Nat.le_of_ble_eq_true rfl⟩, hts _ jw_ico, hts _ jw_sco⟩ ⟨jP_blind, (by obtain ⟨cell, h1, h2, h3, -⟩ := (hSC.2.1 k t hk).1; exact ⟨cell, h1, h2, h3⟩), jP_pre hSC hbs hS⟩ rfl rfl hl.1 rfl (lv_room (Nat.le_of_ble_eq_true rfl)) jd_le_6 ⟨Nat.zero_le _, Nat.zero_le _⟩) ?_
  refine lv_ishr hx hb jd_le_9 ?_
  rw [sb_shr0]
  exact W.iret hx hb hr (fun t ht _ => ⟨rfl, ht⟩) (fun _ h => by cases h) jd_le_10
set_option maxHeartbeats 4000000 in
theorem j_pc (la : Launch) {i n : Int32} {fm : Value} (h0 : ¬ i < 0) (hin : i < n) (hfm : fm.category = 1) : Met la jy_pc (Cond.code jy_pc prog_21_method_11_code 3 (some .int) :: aTs) ({ frames := 0, cells := 0, slots := 0, locals := 0 }) (jP sa av base [.int i, .int n, fm]) (jQ (some (.int i))) 0 0 (fun _ => False) := by
  refine aMet_ofW (cc := prog_21_method_11_code) (maxL := 3) (ret := (some .int)) (by decide +kernel) rfl ?_
  intro p e s m args below meth c s₁ B hml hv
  obtain ⟨rfl, hSC, hbs⟩ := hv
  have hx := B.exec
  have hb := B.bytes
  have hr := B.returns
  have hlocks := B.notSynchronized
  have hts : ∀ w ∈ aTs, w.before _ s = true := fun w hw => atoms_spec (ws := Cond.code jy_pc prog_21_method_11_code 3 (some .int) :: aTs) B.pre w (List.mem_cons_of_mem _ hw)
  have hown : s.vm.findClass "jdk/internal/util/Preconditions" = some m.cls := findClass_of_methodNamed B.named
  have hS : va_S (fun q => base ≤ q) s.heap s.heap [] := va_S.rf
  have hl := lv_entry ([.int i, .int n, fm]) (n := 3) (by cases fm <;> simp_all [lg_sl, Value.category])
  rw [lg_entry_eq]
  generalize (lg_sl ([.int i, .int n, fm]) ++ List.replicate (3 - (lg_sl ([.int i, .int n, fm])).length) Slot.unset).toArray = ls at hl ⊢
  have hl : lv_has ls 3 [(0, .int i), (1, .int n), (2, fm)] := hl
  refine lv_iload_n hx hb jd_pc_0 rfl (lv_at hl 0 rfl) ?_
  refine lv_if_lt (tgt := 9) hx hb jd_pc_1 (by decide) (fun z => absurd z h0) (fun _ => ?_)
  refine lv_iload_n hx hb jd_pc_4 rfl (lv_at hl 0 rfl) ?_
  refine lv_iload_n hx hb jd_pc_5 rfl (lv_at hl 1 rfl) ?_
  refine lv_icmp_lt (tgt := 16) hx hb jd_pc_6 (by decide) (fun _ => ?_) (fun z => absurd hin z)
  refine lv_iload_n hx hb jd_pc_16 rfl (lv_at hl 0 rfl) ?_
  exact W.iret hx hb hr (fun t ht _ => ⟨rfl, ht⟩) (fun _ h => by cases h) jd_pc_17
set_option maxHeartbeats 4000000 in
theorem j_ci (la : Launch) {i n : Int32} (h0 : ¬ i < 0) (hin : i < n) : Met la jy_ci (Cond.code jy_ci prog_16_method_155_code 2 none :: aTs) ({ frames := 1, cells := 0, slots := 0, locals := 22 }) (jP sa av base [.int i, .int n]) (jQ none) 0 0 (fun _ => False) := by
  refine aMet_ofW (cc := prog_16_method_155_code) (maxL := 2) (ret := none) (by decide +kernel) rfl ?_
  intro p e s m args below meth c s₁ B hml hv
  obtain ⟨rfl, hSC, hbs⟩ := hv
  have hx := B.exec
  have hb := B.bytes
  have hr := B.returns
  have hlocks := B.notSynchronized
  have hts : ∀ w ∈ aTs, w.before _ s = true := fun w hw => atoms_spec (ws := Cond.code jy_ci prog_16_method_155_code 2 none :: aTs) B.pre w (List.mem_cons_of_mem _ hw)
  have hown : s.vm.findClass "java/lang/String" = some m.cls := findClass_of_methodNamed B.named
  have hS : va_S (fun q => base ≤ q) s.heap s.heap [] := va_S.rf
  have hl := lv_entry ([.int i, .int n]) (n := 2) (Nat.le_of_ble_eq_true rfl)
  rw [lg_entry_eq]
  generalize (lg_sl ([.int i, .int n]) ++ List.replicate (2 - (lg_sl ([.int i, .int n])).length) Slot.unset).toArray = ls at hl ⊢
  have hl : lv_has ls 2 [(0, .int i), (1, .int n)] := hl
  refine lv_iload_n hx hb jd_ci_0 rfl (lv_at hl 0 rfl) ?_
  refine lv_iload_n hx hb jd_ci_1 rfl (lv_at hl 1 rfl) ?_
  rcases hSC.2.2.2 with hz | ⟨tt, hz⟩
  · refine va_gets hx hb hz hS hown (hts _ jw_fm) (fun _ h => h) jd_ci_2 ?_
    refine jGo (v1 := some (.int i)) (rest := []) (va_runS (As := [.int i, .int n, .null]) ⟨hx, hb, hml, hown, hts⟩ (j_pc (fm := .null) la h0 hin rfl) ⟨callB_of 3 hts (jWs jw_cpc) rfl rfl rfl (hts _ jw_nP) (hts _ jw_mpc) (by decide +kernel) ⟨Nat.le_of_ble_eq_true rfl, Nat.le_of_ble_eq_true rfl⟩, hts _ jw_tpc⟩ ⟨jP_blind, jP_pre hSC hbs hS⟩ rfl rfl hl.1 rfl (lv_room (Nat.le_of_ble_eq_true rfl)) jd_ci_5 ⟨Nat.zero_le _, Nat.zero_le _⟩) ?_
    refine lv_pop hx hb jd_ci_8 rfl ?_
    exact W.vret hx hb hr (fun t ht _ => ⟨rfl, ht⟩) (fun _ h => by cases h) jd_ci_9
  · refine va_gets hx hb hz hS hown (hts _ jw_fm) (fun _ h => h) jd_ci_2 ?_
    refine jGo (v1 := some (.int i)) (rest := []) (va_runS (As := [.int i, .int n, .ref tt]) ⟨hx, hb, hml, hown, hts⟩ (j_pc (fm := .ref tt) la h0 hin rfl) ⟨callB_of 3 hts (jWs jw_cpc) rfl rfl rfl (hts _ jw_nP) (hts _ jw_mpc) (by decide +kernel) ⟨Nat.le_of_ble_eq_true rfl, Nat.le_of_ble_eq_true rfl⟩, hts _ jw_tpc⟩ ⟨jP_blind, jP_pre hSC hbs hS⟩ rfl rfl hl.1 rfl (lv_room (Nat.le_of_ble_eq_true rfl)) jd_ci_5 ⟨Nat.zero_le _, Nat.zero_le _⟩) ?_
    refine lv_pop hx hb jd_ci_8 rfl ?_
    exact W.vret hx hb hr (fun t ht _ => ⟨rfl, ht⟩) (fun _ h => by cases h) jd_ci_9
set_option maxHeartbeats 4000000 in
theorem j_l1 (la : Launch) {k : Nat} {t : List Int32} (hk : aSS[k]? = some t) {i : Int32} (hin : ¬ (i < 0 ∨ t.length ≤ i.toNatClampNeg)) (hlt : i < Int32.ofNat t.length) (hb8 : t.getD i.toNatClampNeg 0 &&& 255 = t.getD i.toNatClampNeg 0) : Met la jy_l1 (Cond.code jy_l1 prog_17_method_2_code 2 (some .char) :: aTs) ({ frames := 2, cells := 0, slots := 0, locals := 43 }) (jP sa av base [.ref (av k), .int i]) (jQ (some (.int (t.getD i.toNatClampNeg 0)))) 0 0 (fun _ => False) := by
  refine aMet_ofW (cc := prog_17_method_2_code) (maxL := 2) (ret := (some .char)) (by decide +kernel) rfl ?_
  intro p e s m args below meth c s₁ B hml hv
  obtain ⟨rfl, hSC, hbs⟩ := hv
  have hx := B.exec
  have hb := B.bytes
  have hr := B.returns
  have hlocks := B.notSynchronized
  have hts : ∀ w ∈ aTs, w.before _ s = true := fun w hw => atoms_spec (ws := Cond.code jy_l1 prog_17_method_2_code 2 (some .char) :: aTs) B.pre w (List.mem_cons_of_mem _ hw)
  have hown : s.vm.findClass "java/lang/StringLatin1" = some m.cls := findClass_of_methodNamed B.named
  have hS : va_S (fun q => base ≤ q) s.heap s.heap [] := va_S.rf
  have hl := lv_entry ([.ref (av k), .int i]) (n := 2) (Nat.le_of_ble_eq_true rfl)
  rw [lg_entry_eq]
  generalize (lg_sl ([.ref (av k), .int i]) ++ List.replicate (2 - (lg_sl ([.ref (av k), .int i])).length) Slot.unset).toArray = ls at hl ⊢
  have hl : lv_has ls 2 [(0, .ref (av k)), (1, .int i)] := hl
  refine lv_iload_n hx hb jd_l1_0 rfl (lv_at hl 1 rfl) ?_
  refine lv_aload_n hx hb jd_l1_1 rfl (lv_at hl 0 rfl) ?_
  refine va_tlen hx hb (hSC.2.1 k t hk).2.2.2 hS rfl jd_l1_2 ?_
  refine jGo (v1 := none) (rest := []) (va_runS (As := [.int i, .int (Int32.ofNat t.length)]) ⟨hx, hb, hml, hown, hts⟩ (j_ci la (fun z => hin (Or.inl z)) hlt) ⟨callB_of 2 hts (jWs jw_cci) rfl rfl rfl (hts _ jw_nS) (hts _ jw_mci) (by decide +kernel) ⟨Nat.le_of_ble_eq_true rfl, Nat.le_of_ble_eq_true rfl⟩, hts _ jw_tci⟩ ⟨jP_blind, jP_pre hSC hbs hS⟩ rfl rfl hl.1 rfl (lv_room (Nat.le_of_ble_eq_true rfl)) jd_l1_3 ⟨Nat.zero_le _, Nat.zero_le _⟩) ?_
  refine lv_aload_n hx hb jd_l1_6 rfl (lv_at hl 0 rfl) ?_
  refine lv_iload_n hx hb jd_l1_7 rfl (lv_at hl 1 rfl) ?_
  refine va_tb hx hb (hSC.2.1 k t hk).2.2.2 hS (i := i) (by exact hin) (v := .int (t.getD i.toNatClampNeg 0)) rfl jd_l1_8 ?_
  refine lv_sipush (v := 255) hx hb jd_l1_9 (by decide) ?_
  refine lv_iand hx hb jd_l1_12 ?_
  refine lv_i2c hx hb jd_l1_13 rfl ?_
  have e9 : ((t.getD i.toNatClampNeg 0 &&& 255).toUInt32 % 65536).toInt32 = t.getD i.toNatClampNeg 0 := by
    rw [sc_c2]
    exact hb8
  rw [e9]
  exact W.zret (ty := .char) hx hb hr (by rw [← hb8]; exact sc_nar _) (fun t ht _ => ⟨rfl, ht⟩) (fun _ h => by cases h) jd_l1_14
set_option maxHeartbeats 4000000 in
theorem j_ch (la : Launch) {k : Nat} {t : List Int32} (hk : aSS[k]? = some t) {i : Int32} (hin : ¬ (i < 0 ∨ t.length ≤ i.toNatClampNeg)) (hlt : i < Int32.ofNat t.length) (hb8 : t.getD i.toNatClampNeg 0 &&& 255 = t.getD i.toNatClampNeg 0) : Met la jy_ch (Cond.code jy_ch prog_16_method_56_code 2 (some .char) :: aTs) ({ frames := 3, cells := 0, slots := 0, locals := 64 }) (jP sa av base [.ref (sa k), .int i]) (jQ (some (.int (t.getD i.toNatClampNeg 0)))) 0 0 (fun _ => False) := by
  refine aMet_ofW (cc := prog_16_method_56_code) (maxL := 2) (ret := (some .char)) (by decide +kernel) rfl ?_
  intro p e s m args below meth c s₁ B hml hv
  obtain ⟨rfl, hSC, hbs⟩ := hv
  have hx := B.exec
  have hb := B.bytes
  have hr := B.returns
  have hlocks := B.notSynchronized
  have hts : ∀ w ∈ aTs, w.before _ s = true := fun w hw => atoms_spec (ws := Cond.code jy_ch prog_16_method_56_code 2 (some .char) :: aTs) B.pre w (List.mem_cons_of_mem _ hw)
  have hown : s.vm.findClass "java/lang/String" = some m.cls := findClass_of_methodNamed B.named
  have hS : va_S (fun q => base ≤ q) s.heap s.heap [] := va_S.rf
  have hl := lv_entry ([.ref (sa k), .int i]) (n := 2) (Nat.le_of_ble_eq_true rfl)
  rw [lg_entry_eq]
  generalize (lg_sl ([.ref (sa k), .int i]) ++ List.replicate (2 - (lg_sl ([.ref (sa k), .int i])).length) Slot.unset).toArray = ls at hl ⊢
  have hl : lv_has ls 2 [(0, .ref (sa k)), (1, .int i)] := hl
  refine lv_aload_n hx hb jd_ch_0 rfl (lv_at hl 0 rfl) ?_
  refine jGo (v1 := some (.int 1)) (rest := []) (va_runV (C := "java/lang/String") (As := []) (b := sa k) ⟨hx, hb, hml, hown, hts⟩ (j_la la hk) ⟨callB_of 0 hts (jWs jw_cla) rfl rfl rfl (hts _ jw_nS) (hts _ jw_mla) (by decide +kernel) ⟨Nat.le_of_ble_eq_true rfl, Nat.le_of_ble_eq_true rfl⟩, hts _ jw_ila, hts _ jw_sla⟩ ⟨jP_blind, (by obtain ⟨cell, h1, h2, h3, -⟩ := (hSC.2.1 k t hk).1; exact ⟨cell, h1, h2, h3⟩), jP_pre hSC hbs hS⟩ rfl rfl hl.1 rfl (lv_room (Nat.le_of_ble_eq_true rfl)) jd_ch_1 ⟨Nat.zero_le _, Nat.zero_le _⟩) ?_
  refine lv_if_eq (tgt := 16) hx hb jd_ch_4 (by decide) (fun z => absurd z (by decide)) (fun _ => ?_)
  refine lv_aload_n hx hb jd_ch_7 rfl (lv_at hl 0 rfl) ?_
  refine vk_getf hx hb (hSC.2.1 k t hk).2.2.1 hS hown (hts _ jw_va) (fun _ h => h) jd_ch_8 ?_
  refine lv_iload_n hx hb jd_ch_11 rfl (lv_at hl 1 rfl) ?_
  refine jGo (v1 := some (.int (t.getD i.toNatClampNeg 0))) (rest := []) (va_runS (As := [.ref (av k), .int i]) ⟨hx, hb, hml, hown, hts⟩ (j_l1 la hk hin hlt hb8) ⟨callB_of 2 hts (jWs jw_cl1) rfl rfl rfl (hts _ jw_nL) (hts _ jw_ml1) (by decide +kernel) ⟨Nat.le_of_ble_eq_true rfl, Nat.le_of_ble_eq_true rfl⟩, hts _ jw_tl1⟩ ⟨jP_blind, jP_pre hSC hbs hS⟩ rfl rfl hl.1 rfl (lv_room (Nat.le_of_ble_eq_true rfl)) jd_ch_12 ⟨Nat.zero_le _, Nat.zero_le _⟩) ?_
  exact W.zret (ty := .char) hx hb hr (by rw [← hb8]; exact sc_nar _) (fun t ht _ => ⟨rfl, ht⟩) (fun _ h => by cases h) jd_ch_15
theorem aSS_ok : aSS.all (fun t => Nat.blt t.length 1000 && t.all fun x => decide (x &&& 255 = x)) = true := by decide +kernel
theorem aSS_b {k : Nat} {t : List Int32} (hk : aSS[k]? = some t) : t.length < 1000 ∧ ∀ j, t.getD j 0 &&& 255 = t.getD j 0 := by
  have h := List.all_eq_true.mp aSS_ok t (List.mem_of_getElem? hk)
  simp only [Bool.and_eq_true] at h
  refine ⟨Nat.le_of_ble_eq_true h.1, fun j => ?_⟩
  rw [List.getD_eq_getElem?_getD]
  cases hj : t[j]? with
  | none => decide
  | some x => exact of_decide_eq_true (List.all_eq_true.mp h.2 x (List.mem_of_getElem? hj))
theorem aLtOf {i : Int32} {n : Nat} (hn : n < 1000) (hin : ¬ (i < 0 ∨ n ≤ i.toNatClampNeg)) : i < Int32.ofNat n := by
  obtain ⟨j, hj, rfl⟩ := vp_in_of (x := i) (n := n) hin (by omega)
  exact nI_lt hj (by omega)
theorem aRowLen_ok : aRowLen (aSC sa av base) base sa := by
  intro p la e R s m args below meth c Q md pc H locs cells slots ls rest k ix t C hSC hk hl hRf hRl hRc hRs hw hls hS hbs hd K
  obtain ⟨hx, hb, hml, hown, hts, -⟩ := C
  have hlink : (Cond.methodLink (aCn md.1) ix jy_le).before args s = true := hts _ (aHasM_ok hl)
  have hrv : ∃ cell : Cell, H[sa k]? = some cell ∧ cell.vm.isStatics = false ∧ s.vm.findClass "java/lang/String" = some cell.cls := by
    obtain ⟨cell, h1, h2, h3, -⟩ := (hSC.2.1 k t hk).1.kept hS.2.1
    exact ⟨cell, h1, h2, h3⟩
  exact jGo (v1 := some (.int (Int32.ofNat t.length))) (rest := rest) (va_runV (C := "java/lang/String") (As := []) (b := sa k) ⟨hx, hb, hml, hown, hts⟩ (j_le la hk) ⟨callB_of 0 hts (jWs jw_cle) rfl rfl rfl (hts _ jw_nS) hlink (by decide +kernel) ⟨by show 1 + 1 ≤ R.frames; omega, by show 8 + (1 + 11) + 20 ≤ R.locals; omega⟩, hts _ jw_ile, hts _ jw_sle⟩ ⟨jP_blind, hrv, jP_pre hSC hbs hS⟩ rfl rfl hls rfl (lv_room hw) hd ⟨hRc, hRs⟩) K
theorem aRowAt_ok : aRowAt (aSC sa av base) base sa := by
  intro p la e R s m args below meth c Q md pc H locs cells slots ls rest k ix t i C hSC hk hin hl hRf hRl hRc hRs hw hls hS hbs hd K
  obtain ⟨hx, hb, hml, hown, hts, -⟩ := C
  have hlink : (Cond.methodLink (aCn md.1) ix jy_ch).before args s = true := hts _ (aHasM_ok hl)
  have hrv : ∃ cell : Cell, H[sa k]? = some cell ∧ cell.vm.isStatics = false ∧ s.vm.findClass "java/lang/String" = some cell.cls := by
    obtain ⟨cell, h1, h2, h3, -⟩ := (hSC.2.1 k t hk).1.kept hS.2.1
    exact ⟨cell, h1, h2, h3⟩
  obtain ⟨b1, b2⟩ := aSS_b hk
  exact jGo (v1 := some (.int (t.getD i.toNatClampNeg 0))) (rest := rest) (va_runV (C := "java/lang/String") (As := [.int i]) (b := sa k) ⟨hx, hb, hml, hown, hts⟩ (j_ch la hk hin (aLtOf b1 hin) (b2 _)) ⟨callB_of 1 hts (jWs jw_cch) rfl rfl rfl (hts _ jw_nS) hlink (by decide +kernel) ⟨by show 3 + 1 ≤ R.frames; omega, by show 8 + (2 + 11) + 64 ≤ R.locals; omega⟩, hts _ jw_ich, hts _ jw_sch⟩ ⟨jP_blind, hrv, jP_pre hSC hbs hS⟩ rfl rfl hls rfl (lv_room hw) hd ⟨hRc, hRs⟩) K
theorem aRowRef_ok : aRowRef (aSC sa av base) sa := fun s h k q e => h.1 k q e
end JStr
