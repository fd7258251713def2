/-! ===== copies, switches, the rest ===== -/
section AMi
variable {p : Program} {la : Launch} {e : Env} {R : Room} {s : State} {m : MethodId} {args : Array Value} {below : List Frame} {meth : Method} {c : Code} {Q : State → Prop} {ad : Nat → Nat} {base b : Nat} {sa : Nat → Nat} {ids : aIds} {D : va_G} {nL n0 s0 : Nat} {md : aMd}
variable {q : Nat × List (Option Value) × List Value × aHp} {pc : Nat} {l : List (Option Value)} {st : List Value} {h h' : aHp}
theorem ax_copyi {H : Heap} {locs : List Loc} {cells slots : Nat} {cc : ByteArray} {ls : Array Slot} {rest : List Value} {cl : List vw_C} {a : Nat} {tys : List (ClassId × FieldType)} {ws : va_W} (hexec : p.tables.exec = Jvm.exec) (hb : c.code = cc) (hml : c.maxLocals = ls.size) {own : String} {index : Nat} (hown : s.vm.findClass own = some m.cls) (hlink : (Cond.methodLink own index arraycopyName).before args s = true) (hnat : (Cond.native arraycopyName).before args s = true) (hstat : (Cond.static arraycopyName).before args s = true) (hini : (Cond.initialized "java/lang/System").before args s = true)
    (hK : va_K D cl tys s) (hP : va_P D cl ws H) (q0 q1 t0 t1 : Nat) {a0 : Nat} {c0 c1 : ClassId} {n0 n1 : Nat} {f g : Nat → Int32} (ha0 : ws[q0]? = some (a0, .inl (c0, n0, .inl f))) (ha1 : ws[q1]? = some (a, .inl (c1, n1, .inl g))) (ht0 : tys[t0]? = some (c0, .int)) (ht1 : tys[t1]? = some (c1, .int))
    {sp dp n : Int32} (h1 : ¬ sp < 0) (h2 : ¬ dp < 0) (h3 : ¬ n < 0) (h4 : sp.toNatClampNeg + n.toNatClampNeg ≤ n0) (h5 : dp.toNatClampNeg + n.toNatClampNeg ≤ n1)
    (hframes : 1 ≤ R.frames) (hlocals : (rest.map fun v => v.category).sum + (nativeFrameWords "java/lang/System" "arraycopy" 5 + 11) ≤ R.locals) (hdg : decode cc pc = .ok (.invokestatic index, 3))
    (kk : ∀ (H1 : Heap) (L : List Loc), H1.size = H.size → (∀ q, q ≠ a → H1[q]? = H[q]?) → va_at D cl (a, .inl (c1, n1, .inl (va_cpy f g sp.toNatClampNeg dp.toNatClampNeg n.toNatClampNeg))) H1 → (∀ z ∈ L, z.base = a) → W p la e R s m args below meth c H1 (locs ++ L) cells slots Q (F0 m (pc + 3) ls rest)) : W p la e R s m args below meth c H locs cells slots Q (F0 m pc ls (.int n :: .int dp :: .ref a :: .int sp :: .ref a0 :: rest)) := by
  have nn : ∀ z : Int32, ¬ z < 0 → z.toInt = (z.toNatClampNeg : Int) := by
    intro z hz
    have hz0 : (0 : Int) ≤ z.toInt := by
      have := Int32.not_lt.mp hz
      simpa using Int32.le_iff_toInt_le.mp this
    show z.toInt = ((z.toInt.toNat : Nat) : Int)
    omega
  intro T hT X
  have hc0 : H[a0]? = some (vp_cell c0 (n0, .inl f)) := hP q0 _ ha0
  have hc1 : H[a]? = some (vp_cell c1 (n1, .inl g)) := hP q1 _ ha1
  obtain ⟨-, k0, hk0, cm0, hkk0⟩ := (hK.2 t0 _ ht0).1 n0 (fun j => .int (f j))
  obtain ⟨-, k1, hk1, cm1, hkk1⟩ := (hK.2 t1 _ ht1).1 n1 (fun j => .int (g j))
  obtain ⟨vm', X', step⟩ := X.arraycopy hexec hown hlink hnat hstat hini (src := a0) (dst := a) (cs := vp_cell c0 (n0, .inl f)) (cd := vp_cell c1 (n1, .inl g)) (srcPos := sp) (destPos := dp) (n := n) (by rw [hT]; exact hc0) (by rw [hT]; exact hc1)
    (fun _ h => by cases h) (fun _ h => by cases h) (fun h => by cases h) (fun h => by cases h) hk0 hk1 hkk0 hkk1 (by simp [refKind]) h1 h2 h3
    (by rw [nn sp h1, nn n h3]; show ¬ _ > ((arrV c0 n0 (fun j => .int (f j))).slots.size : Int); rw [arrV_size]; omega)
    (by rw [nn dp h2, nn n h3]; show ¬ _ > ((arrV c1 n1 (fun j => .int (g j))).slots.size : Int); rw [arrV_size]; omega)
    (fun vm₁ _ i hi => by
      have e : (vp_cell c0 (n0, .inl f)).slots.getD (sp.toNatClampNeg + i) .null = .int (f (sp.toNatClampNeg + i)) := by
        show (arrV c0 n0 (fun j => .int (f j))).slots.getD _ _ = _
        rw [Array.getD_eq_getD_getElem?, arrV_read _ _ (by omega)]
        rfl
      refine ⟨?_, ?_⟩
      · rw [e]
        rfl
      · rw [e]
        exact trivial)
    (g := F0 m pc ls (.int n :: .int dp :: .ref a :: .int sp :: .ref a0 :: rest)) rfl (by rw [hml]) (rest := rest) rfl (by rw [hb]; exact hdg) hframes (by show 2 * 0 + _ + _ ≤ _; omega)
  have e1 : copied (vp_cell c0 (n0, .inl f)) (vp_cell c1 (n1, .inl g)) sp dp n = vp_cell c1 (n1, .inl (va_cpy f g sp.toNatClampNeg dp.toNatClampNeg n.toNatClampNeg)) := va_copied (fun z => .int z) c0 c1 f g h4
  rw [e1] at X' step
  have hl : a < H.size := (Array.getElem?_eq_some_iff.mp hc1).1
  have hheap : ((T.setVm vm').setCell a (vp_cell c1 (n1, .inl (va_cpy f g sp.toNatClampNeg dp.toNatClampNeg n.toNatClampNeg)))).heap = H.setIfInBounds a (vp_cell c1 (n1, .inl (va_cpy f g sp.toNatClampNeg dp.toNatClampNeg n.toNatClampNeg))) := by rw [← hT]; rfl
  have oq : ∀ q : Nat, q ≠ a → (H.setIfInBounds a (vp_cell c1 (n1, .inl (va_cpy f g sp.toNatClampNeg dp.toNatClampNeg n.toNatClampNeg))))[q]? = H[q]? := fun q hq => by simp [Array.getElem?_setIfInBounds, Ne.symm hq]
  obtain ⟨t, a1, b1⟩ := kk _ _ (by simp) oq (show (H.setIfInBounds a _)[a]? = some _ by simp [Array.getElem?_setIfInBounds, hl]) (fun z hz => by
      obtain ⟨y, -, hy⟩ := List.mem_map.mp hz
      rw [← hy]) _ hheap X'
  exact ⟨t, step t a1, b1⟩
theorem aW8_map (st : List Value) (hw : aW8 st = true) : ((st.map (aCv ad)).map fun v => v.category).sum ≤ 8 := by
  have e : (st.map (aCv ad)).map (fun v => v.category) = st.map fun v => v.category := by
    rw [List.map_map]
    congr 1
    funext v
    exact aCv_cat ad v
  rw [e]
  exact Nat.le_of_ble_eq_true hw
theorem s_copy (C : aMc p s m meth c args md) (hnL : md.2.2.2.1 = nL) (hK : va_K D aCls (aTys ids) s) (hA : aAdOk ad base b sa) {d ix : Nat} (hl : aHas4 aML md.1 ix 1003 = true) (hnat : (Cond.native arraycopyName) ∈ aTs) (hstat : (Cond.static arraycopyName) ∈ aTs) (hini : (Cond.initialized "java/lang/System") ∈ aTs) (hRf : d ≤ R.frames) (hRl : 64 * d ≤ R.locals)
    (hd : decode md.2.2.1 pc = .ok (.invokestatic ix, 3)) (hE : aCopy d pc l st h = some (.inl q)) (K : aKt p la e R s m args below meth c Q ad base ids D nL n0 s0 q) : aKt p la e R s m args below meth c Q ad base ids D nL n0 s0 (pc, l, st, h) := by
  intro H locs ls hC
  obtain ⟨hx, hb, hml, hown, hts, -⟩ := C
  unfold aCopy at hE
  split at hE
  case h_2 => cases hE
  rename_i n dp b' sp a r
  obtain ⟨g1, g2, hE⟩ := aAnd hE
  obtain ⟨hc, hE⟩ := aIte hE
  simp only [Bool.and_eq_true] at g1
  obtain ⟨⟨⟨⟨g1, g3⟩, g4⟩, g5⟩, g6⟩ := g1
  have ha := aInT g1
  have hbb := aInT g3
  have hka : aK h a = 100 := Nat.eq_of_beq_eq_true g4
  have hkb : aK h b' = 100 := Nat.eq_of_beq_eq_true g5
  have hd5 : 5 ≤ d := Nat.le_of_ble_eq_true g6
  have hcf : aRel ad base ids D h H := hC.1
  have hq := aGo_eq hE
  subst hq
  show W p la e R s m args below meth c H locs (aN h - n0) (aSl h - s0) Q (F0 m pc ls (.int n :: .int dp :: .ref (ad b') :: .int sp :: .ref (ad a) :: r.map (aCv ad)))
  rw [aAd_in hA hcf ha, aAd_in hA hcf hbb]
  have hw := aW8_map (ad := ad) r g2
  have hls : ls.size = nL := by obtain ⟨-, lv, h2, -⟩ := hC.2.2; exact h2.1
  have hlo : ((r.map (aCv ad)).map fun v => v.category).sum + (nativeFrameWords "java/lang/System" "arraycopy" 5 + 11) ≤ R.locals := by
    have e : nativeFrameWords "java/lang/System" "arraycopy" 5 = 7 := by decide
    rw [e]
    omega
  refine ax_copyi hx hb (by rw [hml, hls, hnL]) hown (hts _ (aHasM_ok hl)) (hts _ hnat) (hts _ hstat) (hts _ hini) hK hcf.2 a b' 0 0 (by rw [aW_at ha, aEn_100 hka]) (by rw [aW_at hbb, aEn_100 hkb]) rfl rfl (fun z => hc (Or.inl z)) (fun z => hc (Or.inr (Or.inl z))) (fun z => hc (Or.inr (Or.inr (Or.inl z)))) (Nat.not_lt.mp fun z => hc (Or.inr (Or.inr (Or.inr (Or.inl z))))) (Nat.not_lt.mp fun z => hc (Or.inr (Or.inr (Or.inr (Or.inr z))))) (by omega) hlo hd fun H1 L z oq he hL => ?_
  have hrel : aRel ad base ids D (aSetI h (aRow (aI h) b' (va_cpy (aI h a) (aI h b') sp.toNatClampNeg dp.toNatClampNeg n.toNatClampNeg))) H1 := aRel_put hcf hbb rfl z oq (by
    rw [aEn_100 (h := aSetI h (aRow (aI h) b' (va_cpy (aI h a) (aI h b') sp.toNatClampNeg dp.toNatClampNeg n.toNatClampNeg))) hkb]
    show va_at D aCls (base + b', .inl (ids.1, aL h b', .inl (aRow (aI h) b' (va_cpy (aI h a) (aI h b') sp.toNatClampNeg dp.toNatClampNeg n.toNatClampNeg) b'))) H1
    rw [aRow_at]
    exact he) (fun j _ hj => aEn_row (h := h) (h' := aSetI h (aRow (aI h) b' (va_cpy (aI h a) (aI h b') sp.toNatClampNeg dp.toNatClampNeg n.toNatClampNeg))) rfl rfl (aRow_ne _ _ _ hj) rfl rfl)
  refine K H1 (locs ++ L) ls ⟨hrel, ⟨by rw [z]; exact hC.2.1.1, fun q g1 g2 => ?_, fun q hq => ?_⟩, hC.2.2⟩
  · rw [oq q (fun e => g2 (by show base ≤ q; rw [e]; exact Nat.le_add_right _ _))]
    exact hC.2.1.2.1 q g1 g2
  · rcases List.mem_append.mp hq with h9 | h9
    · exact hC.2.1.2.2 q h9
    · show base ≤ q.base
      rw [hL q h9]
      exact Nat.le_add_right _ _
theorem s_init (C : aMc p s m meth c args md) (hnL : md.2.2.2.1 = nL) {d ix : Nat} (hl : aHas4 aML md.1 ix 1004 = true) (hinst : (Cond.instanceMethod Lib.objectInit) ∈ aTs) (hcode : (Cond.code Lib.objectInit ⟨#[0xb1]⟩ 1 none) ∈ aTs) (hRf : d ≤ R.frames) (hRl : 64 * d ≤ R.locals)
    (hd : decode md.2.2.1 pc = .ok (.invokespecial ix, 3)) (hE : aInit d pc l st h = some (.inl q)) (K : aKt p la e R s m args below meth c Q ad base ids D nL n0 s0 q) : aKt p la e R s m args below meth c Q ad base ids D nL n0 s0 (pc, l, st, h) := by
  intro H locs ls hC
  obtain ⟨hx, hb, hml, hown, hts, -⟩ := C
  unfold aInit at hE
  split at hE
  case h_2 => cases hE
  rename_i a r
  obtain ⟨g1, g2, hE⟩ := aAnd hE
  have hd5 : 5 ≤ d := Nat.le_of_ble_eq_true g1
  have hq := aGo_eq hE
  subst hq
  have hw := aW8_map (ad := ad) r g2
  have hls : ls.size = nL := by obtain ⟨-, lv, h2, -⟩ := hC.2.2; exact h2.1
  refine W.objInit hx hb hown (hts _ (aHasM_ok hl)) (hts _ hinst) (hts _ hcode) (g := F0 m pc ls (.ref (ad a) :: r.map (aCv ad))) rfl (by rw [hml, hnL]; exact hls) rfl hd (by omega) ?_ (K H locs ls hC)
  show 2 * 0 + _ + 12 ≤ R.locals
  omega
theorem s_sw (C : aMc p s m meth c args md) {dflt lo hi : Int} {offs : Array Int} {len : Nat} (h0 : 0 ≤ (pc : Int) + dflt) (hall : ∀ o ∈ offs.toList, 0 ≤ (pc : Int) + o)
    (hd : decode md.2.2.1 pc = .ok (.tableswitch dflt lo hi offs, len)) (hE : aSw dflt lo hi offs pc l st h = some (.inl q)) (K : aKt p la e R s m args below meth c Q ad base ids D nL n0 s0 q) : aKt p la e R s m args below meth c Q ad base ids D nL n0 s0 (pc, l, st, h) := by
  intro H locs ls hC
  obtain ⟨hx, hb, hml, hown, hts, -⟩ := C
  unfold aSw at hE
  split at hE
  case h_2 => cases hE
  rename_i x r
  split at hE
  · rename_i hx1
    have hq := aGo_eq hE
    subst hq
    exact lv_tableOut (tgt := Int.toNat (pc + dflt)) hx hb hd hx1 (by omega) (K H locs ls hC)
  · rename_i hx1
    split at hE
    · rename_i off ho
      have hq := aGo_eq hE
      subst hq
      have h9 := hall off (by
        have := List.mem_of_getElem? (l := offs.toList) (i := (x.toInt - lo).toNat) (a := off) (by rw [Array.getElem?_toList]; exact ho)
        exact this)
      exact lv_tableIn (tgt := Int.toNat (pc + off)) hx hb hd (fun z => hx1 (Or.inl z)) (fun z => hx1 (Or.inr z)) ho (by omega) (K H locs ls hC)
    · cases hE
theorem s_lsw (C : aMc p s m meth c args md) {dflt : Int} {ps : Array (Int × Int)} {len : Nat} (h0 : 0 ≤ (pc : Int) + dflt)
    (hd : decode md.2.2.1 pc = .ok (.lookupswitch dflt ps, len)) (hE : aLsw dflt ps pc l st h = some (.inl q)) (K : aKt p la e R s m args below meth c Q ad base ids D nL n0 s0 q) : aKt p la e R s m args below meth c Q ad base ids D nL n0 s0 (pc, l, st, h) := by
  intro H locs ls hC
  obtain ⟨hx, hb, hml, hown, hts, -⟩ := C
  unfold aLsw at hE
  split at hE
  case h_2 => cases hE
  rename_i x r
  split at hE
  · rename_i hps
    have hq := aGo_eq hE
    subst hq
    exact lv_lookup (off := dflt) (tgt := Int.toNat (pc + dflt)) hx hb hd (by rw [hps] <;> first | done | rfl) (by rw [hps] <;> first | done | rfl) (by omega) (K H locs ls hC)
  · cases hE
theorem s_pop (C : aMc p s m meth c args md) (hd : decode md.2.2.1 pc = .ok (.pop, 1)) (hE : aPop1 pc l st h = some (.inl q)) (K : aKt p la e R s m args below meth c Q ad base ids D nL n0 s0 q) : aKt p la e R s m args below meth c Q ad base ids D nL n0 s0 (pc, l, st, h) := by
  intro H locs ls hC
  unfold aPop1 at hE
  split at hE
  · have hq := aGo_eq hE; subst hq; exact lv_pop C.1 C.2.1 hd rfl (K H locs ls hC)
  · have hq := aGo_eq hE; subst hq; exact lv_pop C.1 C.2.1 hd rfl (K H locs ls hC)
  · have hq := aGo_eq hE; subst hq; exact lv_pop C.1 C.2.1 hd rfl (K H locs ls hC)
  · cases hE
theorem s_dup (C : aMc p s m meth c args md) (hd : decode md.2.2.1 pc = .ok (.dup, 1)) (hE : aDup pc l st h = some (.inl q)) (K : aKt p la e R s m args below meth c Q ad base ids D nL n0 s0 q) : aKt p la e R s m args below meth c Q ad base ids D nL n0 s0 (pc, l, st, h) := by
  intro H locs ls hC
  unfold aDup at hE
  split at hE
  · have hq := aGo_eq hE; subst hq; exact lv_dup C.1 C.2.1 hd rfl (K H locs ls hC)
  · have hq := aGo_eq hE; subst hq; exact lv_dup C.1 C.2.1 hd rfl (K H locs ls hC)
  · cases hE
theorem s_dup2 (C : aMc p s m meth c args md) (hd : decode md.2.2.1 pc = .ok (.dup2, 1)) (hE : aDup2 pc l st h = some (.inl q)) (K : aKt p la e R s m args below meth c Q ad base ids D nL n0 s0 q) : aKt p la e R s m args below meth c Q ad base ids D nL n0 s0 (pc, l, st, h) := by
  intro H locs ls hC
  unfold aDup2 at hE
  split at hE
  · have hq := aGo_eq hE; subst hq; exact lv_dup2_2 C.1 C.2.1 hd rfl (K H locs ls hC)
  · have hq := aGo_eq hE; subst hq; exact lv_dup2_11 C.1 C.2.1 hd rfl rfl (K H locs ls hC)
  · cases hE
theorem s_null (C : aMc p s m meth c args md) {off : Int} {t : Nat} (ht : (pc : Int) + off = (t : Int)) (hd : decode md.2.2.1 pc = .ok (.ifnull off, 3)) (hE : aNul t (pc + 3) l st h = some (.inl q)) (K : aKt p la e R s m args below meth c Q ad base ids D nL n0 s0 q) : aKt p la e R s m args below meth c Q ad base ids D nL n0 s0 (pc, l, st, h) := by
  intro H locs ls hC
  unfold aNul at hE
  split at hE
  · have hq := aGo_eq hE; subst hq; exact lv_ifnullN C.1 C.2.1 hd ht (K H locs ls hC)
  · have hq := aGo_eq hE; subst hq; exact lv_ifnull C.1 C.2.1 hd (K H locs ls hC)
  · cases hE
theorem s_nonnull (C : aMc p s m meth c args md) {off : Int} {t : Nat} (ht : (pc : Int) + off = (t : Int)) (hd : decode md.2.2.1 pc = .ok (.ifnonnull off, 3)) (hE : aNul (pc + 3) t l st h = some (.inl q)) (K : aKt p la e R s m args below meth c Q ad base ids D nL n0 s0 q) : aKt p la e R s m args below meth c Q ad base ids D nL n0 s0 (pc, l, st, h) := by
  intro H locs ls hC
  unfold aNul at hE
  split at hE
  · have hq := aGo_eq hE; subst hq; exact lv_ifnonnullN C.1 C.2.1 hd (K H locs ls hC)
  · have hq := aGo_eq hE; subst hq; exact lv_ifnonnull C.1 C.2.1 hd ht (K H locs ls hC)
  · cases hE
end AMi
