/-! ===== every instruction that goes on ===== -/
theorem aT_ai : (Cond.arrayClass .int) ∈ aTs := aAt_mem (i := 223) (by decide +kernel)
theorem aT_ac : (Cond.arrayClass .char) ∈ aTs := aAt_mem (i := 1657) (by decide +kernel)
theorem aT_al : (Cond.arrayClass .long) ∈ aTs := aAt_mem (i := 1658) (by decide +kernel)
theorem aT_nat : (Cond.native arraycopyName) ∈ aTs := aAt_mem (i := 754) (by decide +kernel)
theorem aT_sta : (Cond.static arraycopyName) ∈ aTs := aAt_mem (i := 753) (by decide +kernel)
theorem aT_sys : (Cond.initialized "java/lang/System") ∈ aTs := aAt_mem (i := 160) (by decide +kernel)
theorem aT_oin : (Cond.instanceMethod Lib.objectInit) ∈ aTs := aAt_mem (i := 168) (by decide +kernel)
theorem aT_oco : (Cond.code Lib.objectInit ⟨#[0xb1]⟩ 1 none) ∈ aTs := aAt_mem (i := 169) (by decide +kernel)
/-- String.length and String.charAt of the constants, as rows -/
def aRowLen (SC : State → Prop) (base : Nat) (sa : Nat → Nat) : Prop := ∀ {p : Program} {la : Launch} {e : Env} {R : Room} {s : State} {m : MethodId} {args : Array Value} {below : List Frame} {meth : Method} {c : Code} {Q : State → Prop} {md : aMd} {pc : Nat} {H : Heap} {locs : List Loc} {cells slots : Nat} {ls : Array Slot} {rest : List Value} {k ix : Nat} {t : List Int32}, aMc p s m meth c args md → SC s → aSS[k]? = some t → aHas4 aML md.1 ix 1001 = true → 5 ≤ R.frames → 320 ≤ R.locals → cells ≤ R.cells → slots ≤ R.slots → (rest.map fun v => v.category).sum ≤ 8 → ls.size = md.2.2.2.1 → va_S (fun q => base ≤ q) s.heap H locs → base ≤ s.heap.size → decode md.2.2.1 pc = .ok (.invokevirtual ix, 3) →
  W p la e R s m args below meth c H locs cells slots Q (F0 m (pc + 3) ls (.int (Int32.ofNat t.length) :: rest)) → W p la e R s m args below meth c H locs cells slots Q (F0 m pc ls (.ref (sa k) :: rest))
def aRowAt (SC : State → Prop) (base : Nat) (sa : Nat → Nat) : Prop := ∀ {p : Program} {la : Launch} {e : Env} {R : Room} {s : State} {m : MethodId} {args : Array Value} {below : List Frame} {meth : Method} {c : Code} {Q : State → Prop} {md : aMd} {pc : Nat} {H : Heap} {locs : List Loc} {cells slots : Nat} {ls : Array Slot} {rest : List Value} {k ix : Nat} {t : List Int32} {i : Int32}, aMc p s m meth c args md → SC s → aSS[k]? = some t → ¬ (i < 0 ∨ t.length ≤ i.toNatClampNeg) → aHas4 aML md.1 ix 1002 = true → 5 ≤ R.frames → 320 ≤ R.locals → cells ≤ R.cells → slots ≤ R.slots → (rest.map fun v => v.category).sum ≤ 8 → ls.size = md.2.2.2.1 → va_S (fun q => base ≤ q) s.heap H locs → base ≤ s.heap.size → decode md.2.2.1 pc = .ok (.invokevirtual ix, 3) →
  W p la e R s m args below meth c H locs cells slots Q (F0 m (pc + 3) ls (.int (t.getD i.toNatClampNeg 0) :: rest)) → W p la e R s m args below meth c H locs cells slots Q (F0 m pc ls (.int i :: .ref (sa k) :: rest))
def aRowRef (SC : State → Prop) (sa : Nat → Nat) : Prop := ∀ s, SC s → ∀ k q, aStr[k]? = some q → vk_R q.1 q.2.1 q.2.2 (sa k) s
/-- what holds of the state at a method's start -/
def aCx (SC : State → Prop) (base b : Nat) (ids : aIds) (D : va_G) (X : Nat × (Nat → Int32)) (U : State) : Prop :=
  base ≤ U.heap.size ∧ b < base ∧ va_K D aCls (aTys ids) U ∧ (∀ q ∈ aMN, va_Nw (.methodLinkNest (aCn q.1) q.2.1 (aNm q.2.2.1) "OthersShoes") U) ∧ va_AO "OthersShoes$State" U ∧ va_X b X.1 X.2 U U.heap ∧ SC U
section ASt
variable {p : Program} {la : Launch} {e : Env} {R : Room} {s : State} {m : MethodId} {args : Array Value} {below : List Frame} {meth : Method} {c : Code} {Q : State → Prop} {ad : Nat → Nat} {base b : Nat} {sa : Nat → Nat} {ids : aIds} {D : va_G} {nL n0 s0 : Nat} {md : aMd} {SC : State → Prop} {X : Nat × (Nat → Int32)}
variable {q : Nat × List (Option Value) × List Value × aHp} {pc : Nat} {l : List (Option Value)} {st : List Value} {h : aHp}
theorem aSS_len : aSS.length = 40 := by decide +kernel
theorem aStr_len : aStr.length = 40 := by decide +kernel
set_option maxHeartbeats 4000000 in
theorem aStep_ok (hSl : aRowLen SC base sa) (hSa : aRowAt SC base sa) (hSr : aRowRef SC sa) (C : aMc p s m meth c args md) (hCx : aCx SC base b ids D X s) (hXh : aXn h = X.1 ∧ aX h = X.2) (hA : aAdOk ad base b sa) (hnL : md.2.2.2.1 = nL) {d len : Nat} {ins : Instr} {lk : aLk} (hd : decode md.2.2.1 pc = .ok (ins, len)) (hlen : aWant ins = 0 ∨ aWant ins = len) (hlk : aLnk md pc ins lk = true) (hRf : d ≤ R.frames) (hRl : 64 * d ≤ R.locals)
    (hn0 : n0 ≤ aN h) (hs0 : s0 ≤ aSl h) (hRc : aN q.2.2.2 ≤ R.cells + n0) (hRs : aSl q.2.2.2 ≤ R.slots + s0) (hE : aExec aSS md.2.2.2.2.1 d pc ins lk l st h = some (.inl q)) (K : aKt p la e R s m args below meth c Q ad base ids D nL n0 s0 q) : aKt p la e R s m args below meth c Q ad base ids D nL n0 s0 (pc, l, st, h) := by
  obtain ⟨hbs, hbb, hK, hNest, hAO, hX, hSC⟩ := hCx
  have hX : va_X b (aXn h) (aX h) s s.heap := by rw [hXh.1, hXh.2]; exact hX
  have hx := C.1
  have hb := C.2.1
  have hown := C.2.2.2.1
  have hts := C.2.2.2.2.1
  cases ins
  case iconst n =>
    have e : 1 = len := by
      rcases hlen with z | z
      · cases z
      · exact z
    subst e
    intro H locs ls hC
    have hq := aGo_eq (hE : aGo _ _ _ _ = some (.inl q))
    subst hq
    exact lv_iconst hx hb hd rfl (K H locs ls hC)
  case bipush n =>
    have e : 2 = len := by
      rcases hlen with z | z
      · cases z
      · exact z
    subst e
    intro H locs ls hC
    have hq := aGo_eq (hE : aGo _ _ _ _ = some (.inl q))
    subst hq
    exact lv_bipush hx hb hd rfl (K H locs ls hC)
  case sipush n =>
    have e : 3 = len := by
      rcases hlen with z | z
      · cases z
      · exact z
    subst e
    intro H locs ls hC
    have hq := aGo_eq (hE : aGo _ _ _ _ = some (.inl q))
    subst hq
    exact lv_sipush hx hb hd rfl (K H locs ls hC)
  case lconst n =>
    have e : 1 = len := by
      rcases hlen with z | z
      · cases z
      · exact z
    subst e
    intro H locs ls hC
    have hq := aGo_eq (hE : aGo _ _ _ _ = some (.inl q))
    subst hq
    exact lv_lconst hx hb hd rfl (K H locs ls hC)
  case aconst_null =>
    have e : 1 = len := by
      rcases hlen with z | z
      · cases z
      · exact z
    subst e
    intro H locs ls hC
    have hq := aGo_eq (hE : aGo _ _ _ _ = some (.inl q))
    subst hq
    exact lv_null hx hb hd (K H locs ls hC)
  case ldc2_w ix =>
    have e : 3 = len := by
      rcases hlen with z | z
      · cases z
      · exact z
    subst e
    intro H locs ls hC
    have hq := aGo_eq (hE : aGo _ _ _ _ = some (.inl q))
    subst hq
    exact lv_ldc2 hx hb hown (hts _ (aHasJ_ok hlk)) hd (K H locs ls hC)
  case goto off =>
    have e : 3 = len := by
      rcases hlen with z | z
      · cases z
      · exact z
    subst e
    intro H locs ls hC
    have hq := aGo_eq (hE : aGo _ _ _ _ = some (.inl q))
    subst hq
    exact lv_goto (tgt := lk.1) hx hb hd (of_decide_eq_true hlk) (K H locs ls hC)
  case ldc ix =>
    have e : 2 = len := by
      rcases hlen with z | z
      · cases z
      · exact z
    subst e
    intro H locs ls hC
    have hE : (bif Nat.beq lk.1 0 then aGo (pc + 2) l (.int (Int32.ofInt lk.2.2) :: st) h else aGo (pc + 2) l (.ref (aSa + lk.2.1) :: st) h) = some (.inl q) := hE
    have hlk : (bif Nat.beq lk.1 0 then aHasC aCI md.1 ix lk.2.2 else (match aStr[lk.2.1]? with
      | some q => decide (q.1 = aCn md.1) && Nat.beq q.2.1 ix
      | none => false)) = true := hlk
    cases hz : Nat.beq lk.1 0 with
    | true =>
      rw [hz, cond_true] at hE hlk
      have hq := aGo_eq hE
      subst hq
      exact lv_ldc hx hb hown (hts _ (aHasI_ok hlk)) hd (K H locs ls hC)
    | false =>
      rw [hz, cond_false] at hE hlk
      have hq := aGo_eq hE
      subst hq
      split at hlk
      · rename_i sq hsq
        simp only [Bool.and_eq_true, decide_eq_true_eq] at hlk
        have hr := hSr s hSC _ sq hsq
        rw [hlk.1, Nat.eq_of_beq_eq_true hlk.2] at hr
        have hk40 : lk.2.1 < 40 := by rw [← aStr_len]; exact (List.getElem?_eq_some_iff.mp hsq).1
        have hW := K H locs ls hC
        have hW : W p la e R s m args below meth c H locs (aN h - n0) (aSl h - s0) Q (F0 m (pc + 2) ls (.ref (ad (aSa + lk.2.1)) :: st.map (aCv ad))) := hW
        rw [hA.2.1 _ (by omega)] at hW
        exact va_ldcS hx hb hown hr hd hW
      · cases hlk
  case iload_n k =>
    have e : 1 = len := by
      rcases hlen with z | z
      · cases z
      · exact z
    subst e
    exact s_loadI (ins := .iadd) C hE (fun hl k' => lv_iload_n hx hb hd rfl hl k') K
  case iload i =>
    have e : 2 = len := by
      rcases hlen with z | z
      · cases z
      · exact z
    subst e
    exact s_loadI (ins := .iadd) C hE (fun hl k' => lv_iload hx hb hd hl k') K
  case lload_n k =>
    have e : 1 = len := by
      rcases hlen with z | z
      · cases z
      · exact z
    subst e
    exact s_loadJ C hE (fun hl k' => lv_lload_n hx hb hd rfl hl k') K
  case lload i =>
    have e : 2 = len := by
      rcases hlen with z | z
      · cases z
      · exact z
    subst e
    exact s_loadJ C hE (fun hl k' => lv_lload hx hb hd hl k') K
  case aload_n k =>
    have e : 1 = len := by
      rcases hlen with z | z
      · cases z
      · exact z
    subst e
    exact s_loadA C hd hE K
  case istore_n k =>
    have e : 1 = len := by
      rcases hlen with z | z
      · cases z
      · exact z
    subst e
    exact s_storeI C hnL hE (fun hl hi k' => lv_istore_n hx hb hd rfl hl hi rfl k') K
  case istore i =>
    have e : 2 = len := by
      rcases hlen with z | z
      · cases z
      · exact z
    subst e
    exact s_storeI C hnL hE (fun hl hi k' => lv_istore hx hb hd hl hi rfl k') K
  case lstore_n k =>
    have e : 1 = len := by
      rcases hlen with z | z
      · cases z
      · exact z
    subst e
    exact s_storeJ C hE (fun hl hi k' => lv_lstore_n hx hb hd rfl hl hi rfl k') K
  case lstore i =>
    have e : 2 = len := by
      rcases hlen with z | z
      · cases z
      · exact z
    subst e
    exact s_storeJ C hE (fun hl hi k' => lv_lstore hx hb hd hl hi rfl k') K
  case astore_n k =>
    have e : 1 = len := by
      rcases hlen with z | z
      · cases z
      · exact z
    subst e
    exact s_storeA C hd hE K
  case iinc i n =>
    have e : 3 = len := by
      rcases hlen with z | z
      · cases z
      · exact z
    subst e
    exact s_inc C hd hE K
  case iadd =>
    have e : 1 = len := by
      rcases hlen with z | z
      · cases z
      · exact z
    subst e
    exact s_op2I hE (fun k' => lv_iadd hx hb hd k') K
  case isub =>
    have e : 1 = len := by
      rcases hlen with z | z
      · cases z
      · exact z
    subst e
    exact s_op2I hE (fun k' => lv_isub hx hb hd k') K
  case imul =>
    have e : 1 = len := by
      rcases hlen with z | z
      · cases z
      · exact z
    subst e
    exact s_op2I hE (fun k' => lv_imul hx hb hd k') K
  case iand =>
    have e : 1 = len := by
      rcases hlen with z | z
      · cases z
      · exact z
    subst e
    exact s_op2I hE (fun k' => lv_iand hx hb hd k') K
  case ior =>
    have e : 1 = len := by
      rcases hlen with z | z
      · cases z
      · exact z
    subst e
    exact s_op2I hE (fun k' => lv_ior hx hb hd k') K
  case ixor =>
    have e : 1 = len := by
      rcases hlen with z | z
      · cases z
      · exact z
    subst e
    exact s_op2I hE (fun k' => lv_ixor hx hb hd k') K
  case ishl =>
    have e : 1 = len := by
      rcases hlen with z | z
      · cases z
      · exact z
    subst e
    exact s_op2I hE (fun k' => lv_ishl hx hb hd k') K
  case ishr =>
    have e : 1 = len := by
      rcases hlen with z | z
      · cases z
      · exact z
    subst e
    exact s_op2I hE (fun k' => lv_ishr hx hb hd k') K
  case iushr =>
    have e : 1 = len := by
      rcases hlen with z | z
      · cases z
      · exact z
    subst e
    exact s_op2I hE (fun k' => lv_iushr hx hb hd rfl k') K
  case idiv =>
    have e : 1 = len := by
      rcases hlen with z | z
      · cases z
      · exact z
    subst e
    exact s_divI hE (fun hn k' => lv_idiv hx hb hd hn k') K
  case irem =>
    have e : 1 = len := by
      rcases hlen with z | z
      · cases z
      · exact z
    subst e
    exact s_divI hE (fun hn k' => lv_irem hx hb hd hn k') K
  case ladd =>
    have e : 1 = len := by
      rcases hlen with z | z
      · cases z
      · exact z
    subst e
    exact s_op2J hE (fun k' => lv_ladd hx hb hd k') K
  case lsub =>
    have e : 1 = len := by
      rcases hlen with z | z
      · cases z
      · exact z
    subst e
    exact s_op2J hE (fun k' => lv_lsub hx hb hd k') K
  case lmul =>
    have e : 1 = len := by
      rcases hlen with z | z
      · cases z
      · exact z
    subst e
    exact s_op2J hE (fun k' => lv_lmul hx hb hd k') K
  case land =>
    have e : 1 = len := by
      rcases hlen with z | z
      · cases z
      · exact z
    subst e
    exact s_op2J hE (fun k' => lv_land hx hb hd k') K
  case ldiv =>
    have e : 1 = len := by
      rcases hlen with z | z
      · cases z
      · exact z
    subst e
    exact s_divJ hE (fun hn k' => lv_ldiv hx hb hd hn k') K
  case lrem =>
    have e : 1 = len := by
      rcases hlen with z | z
      · cases z
      · exact z
    subst e
    exact s_divJ hE (fun hn k' => lv_lrem hx hb hd hn k') K
  case ineg =>
    have e : 1 = len := by
      rcases hlen with z | z
      · cases z
      · exact z
    subst e
    intro H locs ls hC
    have hE : aNeg pc l st h = some (.inl q) := hE
    unfold aNeg at hE
    split at hE
    · have hq := aGo_eq hE
      subst hq
      exact lv_ineg hx hb hd (K H locs ls hC)
    · cases hE
  case lcmp =>
    have e : 1 = len := by
      rcases hlen with z | z
      · cases z
      · exact z
    subst e
    intro H locs ls hC
    have hE : aLcmp pc l st h = some (.inl q) := hE
    unfold aLcmp at hE
    split at hE
    · have hq := aGo_eq hE
      subst hq
      exact W.lcmp hx hb hd (K H locs ls hC)
    · cases hE
  case i2l =>
    have e : 1 = len := by
      rcases hlen with z | z
      · cases z
      · exact z
    subst e
    intro H locs ls hC
    have hE : aI2L pc l st h = some (.inl q) := hE
    unfold aI2L at hE
    split at hE
    · have hq := aGo_eq hE
      subst hq
      exact lv_i2l hx hb hd rfl (K H locs ls hC)
    · cases hE
  case l2i =>
    have e : 1 = len := by
      rcases hlen with z | z
      · cases z
      · exact z
    subst e
    intro H locs ls hC
    have hE : aL2I pc l st h = some (.inl q) := hE
    unfold aL2I at hE
    split at hE
    · have hq := aGo_eq hE
      subst hq
      exact lv_l2i hx hb hd rfl (K H locs ls hC)
    · cases hE
  case dup =>
    have e : 1 = len := by
      rcases hlen with z | z
      · cases z
      · exact z
    subst e
    exact s_dup C hd hE K
  case dup2 =>
    have e : 1 = len := by
      rcases hlen with z | z
      · cases z
      · exact z
    subst e
    exact s_dup2 C hd hE K
  case pop =>
    have e : 1 = len := by
      rcases hlen with z | z
      · cases z
      · exact z
    subst e
    exact s_pop C hd hE K
  case ifCond cnd off =>
    have e : 3 = len := by
      rcases hlen with z | z
      · cases z
      · exact z
    subst e
    have ht : (pc : Int) + off = (lk.1 : Int) := of_decide_eq_true hlk
    cases cnd
    case eq => exact s_if1 hE (fun a b => lv_if_eq hx hb hd ht a b) K
    case ne => exact s_if1 hE (fun a b => lv_if_ne hx hb hd ht a (fun z => b (fun y => y z))) K
    case lt => exact s_if1 hE (fun a b => lv_if_lt hx hb hd ht a b) K
    case ge => exact s_if1 hE (fun a b => lv_if_ge hx hb hd ht a b) K
    case gt => exact s_if1 hE (fun a b => lv_if_gt hx hb hd ht a b) K
    case le => exact s_if1 hE (fun a b => lv_if_le hx hb hd ht a b) K
  case if_icmp cnd off =>
    have e : 3 = len := by
      rcases hlen with z | z
      · cases z
      · exact z
    subst e
    have ht : (pc : Int) + off = (lk.1 : Int) := of_decide_eq_true hlk
    cases cnd
    case eq => exact s_if2 hE (fun a b => lv_icmp_eq hx hb hd ht a b) K
    case ne => exact s_if2 hE (fun a b => lv_icmp_ne hx hb hd ht a (fun z => b (fun y => y z))) K
    case lt => exact s_if2 hE (fun a b => lv_icmp_lt hx hb hd ht a b) K
    case ge => exact s_if2 hE (fun a b => lv_icmp_ge hx hb hd ht a b) K
    case gt => exact s_if2 hE (fun a b => lv_icmp_gt hx hb hd ht a b) K
    case le => exact s_if2 hE (fun a b => lv_icmp_le hx hb hd ht a b) K
  case ifnull off =>
    have e : 3 = len := by
      rcases hlen with z | z
      · cases z
      · exact z
    subst e
    exact s_null C (of_decide_eq_true hlk) hd hE K
  case ifnonnull off =>
    have e : 3 = len := by
      rcases hlen with z | z
      · cases z
      · exact z
    subst e
    exact s_nonnull C (of_decide_eq_true hlk) hd hE K
  case tableswitch dflt lo hi offs =>
    have hlk : (decide (0 ≤ (pc : Int) + dflt) && offs.toList.all fun o => decide (0 ≤ (pc : Int) + o)) = true := hlk
    simp only [Bool.and_eq_true, decide_eq_true_eq, List.all_eq_true] at hlk
    exact s_sw C hlk.1 hlk.2 hd hE K
  case lookupswitch dflt ps =>
    have hlk : decide (0 ≤ (pc : Int) + dflt) = true := hlk
    exact s_lsw C (of_decide_eq_true hlk) hd hE K
  case getfield ix =>
    have e : 3 = len := by
      rcases hlen with z | z
      · cases z
      · exact z
    subst e
    have hlk : (aHasF md.1 ix lk.1 lk.2.1 && decide (((aF lk.1 lk.2.1).2.2.2 : Int) = lk.2.2)) = true := hlk
    simp only [Bool.and_eq_true, decide_eq_true_eq] at hlk
    exact s_fld C hK hA hd hlk.1 hlk.2 hE K
  case putfield ix =>
    have e : 3 = len := by
      rcases hlen with z | z
      · cases z
      · exact z
    subst e
    have hlk : (aHasF md.1 ix lk.1 lk.2.1 && (decide (((aF lk.1 lk.2.1).2.2.2 : Int) = lk.2.2) && (!(aF lk.1 lk.2.1).2.2.1 || (Nat.beq md.1 lk.1 && decide (md.2.1.name = "<init>"))))) = true := hlk
    simp only [Bool.and_eq_true, decide_eq_true_eq, Bool.or_eq_true, Bool.not_eq_true'] at hlk
    refine s_put C hK hA hd hlk.1 hlk.2.1 ?_ hE K
    rcases hlk.2.2 with z | z
    · exact Or.inl z
    · exact Or.inr ⟨Nat.eq_of_beq_eq_true z.1, z.2⟩
  case iaload =>
    have e : 1 = len := by
      rcases hlen with z | z
      · cases z
      · exact z
    subst e
    exact s_iald C hK hA hX hbb hbs hd hE K
  case caload =>
    have e : 1 = len := by
      rcases hlen with z | z
      · cases z
      · exact z
    subst e
    exact s_cald C hK hA hd hE K
  case laload =>
    have e : 1 = len := by
      rcases hlen with z | z
      · cases z
      · exact z
    subst e
    exact s_lald C hK hA hd hE K
  case aaload =>
    have e : 1 = len := by
      rcases hlen with z | z
      · cases z
      · exact z
    subst e
    exact s_aald C hK hA hd hE K
  case iastore =>
    have e : 1 = len := by
      rcases hlen with z | z
      · cases z
      · exact z
    subst e
    exact s_iast C hK hA hd hE K
  case castore =>
    have e : 1 = len := by
      rcases hlen with z | z
      · cases z
      · exact z
    subst e
    exact s_cast C hK hA hd hE K
  case lastore =>
    have e : 1 = len := by
      rcases hlen with z | z
      · cases z
      · exact z
    subst e
    exact s_last C hK hA hd hE K
  case aastore =>
    have e : 1 = len := by
      rcases hlen with z | z
      · cases z
      · exact z
    subst e
    exact s_aast C hK hA hd hE K
  case arraylength =>
    have e : 1 = len := by
      rcases hlen with z | z
      · cases z
      · exact z
    subst e
    exact s_alen C hK hA hX hbb hbs hd hE K
  case newarray t =>
    have e : 2 = len := by
      rcases hlen with z | z
      · cases z
      · exact z
    subst e
    cases t
    case int => exact s_newa (at_ := .int) (a0 := fun n => (n, .inl (fun _ => 0))) C hA (hts _ aT_ai) (hK.2 0 _ rfl).2 (by decide) (fun n => by
        rw [aEn_100 (h := aNew h 100 n n) (aRow_at _ _ _)]
        show Sum.inl (ids.1, aRow (aL h) (aN h) n (aN h), Sum.inl (aRow (aI h) (aN h) (fun _ => 0) (aN h))) = _
        rw [aRow_at, aRow_at]) (fun n => rfl) hd hn0 hs0 hRc hRs hE K
    case char => exact s_newa (at_ := .char) (a0 := fun n => (n, .inl (fun _ => 0))) C hA (hts _ aT_ac) (hK.2 1 _ rfl).2 (by decide) (fun n => by
        rw [aEn_101 (h := aNew h 101 n n) (aRow_at _ _ _)]
        show Sum.inl (ids.2.1, aRow (aL h) (aN h) n (aN h), Sum.inl (aRow (aI h) (aN h) (fun _ => 0) (aN h))) = _
        rw [aRow_at, aRow_at]) (fun n => rfl) hd hn0 hs0 hRc hRs hE K
    case long => exact s_newa (at_ := .long) (a0 := fun n => (n, .inr (.inl (fun _ => 0)))) C hA (hts _ aT_al) (hK.2 2 _ rfl).2 (by decide) (fun n => by
        rw [aEn_102 (h := aNew h 102 n n) (aRow_at _ _ _)]
        show Sum.inl (ids.2.2.1, aRow (aL h) (aN h) n (aN h), Sum.inr (Sum.inl (aRow (aJ h) (aN h) (fun _ => 0) (aN h)))) = _
        rw [aRow_at, aRow_at]) (fun n => rfl) hd hn0 hs0 hRc hRs hE K
    all_goals exact absurd hE (by intro z; cases z)
  case anewarray ix =>
    have e : 3 = len := by
      rcases hlen with z | z
      · cases z
      · exact z
    subst e
    obtain ⟨kA, comp, -, -, -, hcA⟩ := (hK.2 3 _ rfl).2
    exact s_newq C hA (hts _ (aHasC_ok (c := 7) hlk)) hAO hcA hd hn0 hs0 hRc hRs hE K
  case new ix =>
    have e : 3 = len := by
      rcases hlen with z | z
      · cases z
      · exact z
    subst e
    have hlk : (aHas4 aCL md.1 ix lk.1 && (Nat.beq (aNf lk.1) lk.2.1 && Nat.blt lk.1 13)) = true := hlk
    simp only [Bool.and_eq_true] at hlk
    exact s_new C hK hA hlk.1 (Nat.eq_of_beq_eq_true hlk.2.1) (Nat.le_of_ble_eq_true hlk.2.2) hd hn0 hs0 hRc hRs hE K
  case invokevirtual ix =>
    have e : 3 = len := by
      rcases hlen with z | z
      · cases z
      · exact z
    subst e
    have hE : (match lk.2.2 with
      | 1 => aSlen aSS d pc l st h
      | 2 => aSat aSS d pc l st h
      | _ => aCall lk.2.1 lk.1 st) = some (.inl q) := hE
    have hlk : (match lk.2.2 with
      | 0 => aHas4 aML md.1 ix lk.1 && (Nat.beq (aMk lk.1) 0 && Nat.blt 0 lk.2.1)
      | 1 => aHas4 aML md.1 ix 1001
      | 2 => aHas4 aML md.1 ix 1002
      | _ => false) = true := hlk
    split at hE
    · rename_i he1
      rw [he1] at hlk
      intro H locs ls hC
      have hls : ls.size = md.2.2.2.1 := by obtain ⟨-, lv, h2, -⟩ := hC.2.2; rw [hnL]; exact h2.1
      unfold aSlen at hE
      split at hE
      case h_2 => cases hE
      rename_i a r _
      obtain ⟨g1, g2, hE⟩ := aAnd hE
      simp only [Bool.and_eq_true] at g1
      obtain ⟨⟨g1, g3⟩, g4⟩ := g1
      split at hE
      · rename_i t ht
        have hq := aGo_eq hE
        subst hq
        have k40 : a - aSa < 40 := by rw [← aSS_len]; exact (List.getElem?_eq_some_iff.mp ht).1
        have hge : aSa ≤ a := Nat.le_of_ble_eq_true g1
        have h5 : 5 ≤ d := Nat.le_of_ble_eq_true g4
        have ea0 := hA.2.1 (a - aSa) (Nat.lt_of_lt_of_le k40 (by decide))
        have ea : ad a = sa (a - aSa) := by rw [Nat.add_sub_of_le hge] at ea0; exact ea0
        show W p la e R s m args below meth c H locs (aN h - n0) (aSl h - s0) Q (F0 m pc ls (.ref (ad a) :: r.map (aCv ad)))
        rw [ea]
        have hRc : aN h ≤ R.cells + n0 := hRc
        have hRs : aSl h ≤ R.slots + s0 := hRs
        exact hSl C hSC ht hlk (by omega) (by omega) (by omega) (by omega) (aW8_map r g2) hls hC.2.1 hbs hd (K H locs ls hC)
      · cases hE
    · rename_i he1
      rw [he1] at hlk
      intro H locs ls hC
      have hls : ls.size = md.2.2.2.1 := by obtain ⟨-, lv, h2, -⟩ := hC.2.2; rw [hnL]; exact h2.1
      unfold aSat at hE
      split at hE
      case h_2 => cases hE
      rename_i i a r _
      obtain ⟨g1, g2, hE⟩ := aAnd hE
      simp only [Bool.and_eq_true] at g1
      obtain ⟨⟨g1, g3⟩, g4⟩ := g1
      split at hE
      · rename_i t ht
        obtain ⟨hin, hE⟩ := aIte hE
        have hq := aGo_eq hE
        subst hq
        have k40 : a - aSa < 40 := by rw [← aSS_len]; exact (List.getElem?_eq_some_iff.mp ht).1
        have hge : aSa ≤ a := Nat.le_of_ble_eq_true g1
        have h5 : 5 ≤ d := Nat.le_of_ble_eq_true g4
        have ea0 := hA.2.1 (a - aSa) (Nat.lt_of_lt_of_le k40 (by decide))
        have ea : ad a = sa (a - aSa) := by rw [Nat.add_sub_of_le hge] at ea0; exact ea0
        show W p la e R s m args below meth c H locs (aN h - n0) (aSl h - s0) Q (F0 m pc ls (.int i :: .ref (ad a) :: r.map (aCv ad)))
        rw [ea]
        have hRc : aN h ≤ R.cells + n0 := hRc
        have hRs : aSl h ≤ R.slots + s0 := hRs
        exact hSa C hSC ht hin hlk (by omega) (by omega) (by omega) (by omega) (aW8_map r g2) hls hC.2.1 hbs hd (K H locs ls hC)
      · cases hE
    · obtain ⟨as, rr, -, -, e3⟩ := aCall_not hE
      cases e3
  case invokespecial ix =>
    have e : 3 = len := by
      rcases hlen with z | z
      · cases z
      · exact z
    subst e
    have hE : (match lk.2.2 with
      | 4 => aInit d pc l st h
      | _ => aCall lk.2.1 lk.1 st) = some (.inl q) := hE
    have hlk : (match lk.2.2 with
      | 0 => aHas4 aML md.1 ix lk.1 && (Nat.beq (aMk lk.1) 2 && Nat.blt 0 lk.2.1)
      | 6 => aHas4 aMN md.1 ix lk.1 && (Nat.beq (aMk lk.1) 2 && Nat.blt 0 lk.2.1)
      | 4 => aHas4 aML md.1 ix 1004
      | _ => false) = true := hlk
    split at hE
    · rename_i he1
      rw [he1] at hlk
      exact s_init C hnL hlk aT_oin aT_oco hRf hRl hd hE K
    · obtain ⟨as, rr, -, -, e3⟩ := aCall_not hE
      cases e3
  case invokestatic ix =>
    have e : 3 = len := by
      rcases hlen with z | z
      · cases z
      · exact z
    subst e
    have hE : (match lk.2.2 with
      | 3 => aCopy d pc l st h
      | _ => aCall lk.2.1 lk.1 st) = some (.inl q) := hE
    have hlk : (match lk.2.2 with
      | 5 => aHas4 aML md.1 ix lk.1 && Nat.beq (aMk lk.1) 1
      | 3 => aHas4 aML md.1 ix 1003
      | _ => false) = true := hlk
    split at hE
    · rename_i he1
      rw [he1] at hlk
      exact s_copy C hnL hK hA hlk aT_nat aT_sta aT_sys hRf hRl hd hE K
    · obtain ⟨as, rr, -, -, e3⟩ := aCall_not hE
      cases e3
  case ireturn =>
    obtain ⟨x, -, e3, -⟩ := aRetI_ok (hE : aRetI md.2.2.2.2.1 st = some (.inl q))
    cases e3
  case lreturn =>
    obtain ⟨x, -, e3, -⟩ := aRetJ_ok (hE : aRetJ md.2.2.2.2.1 st = some (.inl q))
    cases e3
  case return_ =>
    obtain ⟨-, e3, -⟩ := aRetV_ok (hE : aRetV md.2.2.2.2.1 st = some (.inl q))
    cases e3
  all_goals exact absurd hE (by intro z; cases z)
end ASt
