/-! ===== arrays and new cells ===== -/
section AAs
variable {p : Program} {la : Launch} {e : Env} {R : Room} {s : State} {m : MethodId} {args : Array Value} {below : List Frame} {meth : Method} {c : Code} {Q : State → Prop} {ad : Nat → Nat} {base b : Nat} {sa : Nat → Nat} {ids : aIds} {D : va_G} {nL n0 s0 : Nat} {md : aMd}
variable {q : Nat × List (Option Value) × List Value × aHp} {pc : Nat} {l : List (Option Value)} {st : List Value} {h h' : aHp}
theorem aIte {c : Prop} [Decidable c] {α : Type} {u : α} {t : Option α} (hE : (if c then none else t) = some u) : ¬ c ∧ t = some u := by
  by_cases hc : c
  · rw [if_pos hc] at hE; cases hE
  · rw [if_neg hc] at hE; exact ⟨hc, hE⟩
theorem s_iald (C : aMc p s m meth c args md) (hK : va_K D aCls (aTys ids) s) (hA : aAdOk ad base b sa) (hX : va_X b (aXn h) (aX h) s s.heap) (hbb : b < base) (hbs : base ≤ s.heap.size) (hd : decode md.2.2.1 pc = .ok (.iaload, 1)) (hE : aIald pc l st h = some (.inl q)) (K : aKt p la e R s m args below meth c Q ad base ids D nL n0 s0 q) : aKt p la e R s m args below meth c Q ad base ids D nL n0 s0 (pc, l, st, h) := by
  intro H locs ls hC
  obtain ⟨hx, hb, -, hown, hts, -⟩ := C
  unfold aIald at hE
  split at hE
  case h_2 => cases hE
  rename_i i a r
  cases hax : Nat.beq a aXa with
  | true =>
    rw [hax, cond_true] at hE
    obtain ⟨hin, hE⟩ := aIte hE
    have ea : a = aXa := Nat.eq_of_beq_eq_true hax
    subst ea
    have hq := aGo_eq hE
    subst hq
    show W p la e R s m args below meth c H locs (aN h - n0) (aSl h - s0) Q (F0 m pc ls (.int i :: .ref (ad aXa) :: r.map (aCv ad)))
    rw [hA.2.2]
    exact va_sld (A := fun q => base ≤ q) hx hb hX (by omega) (by show ¬ base ≤ b; omega) hC.2.1 hin hd (K H locs ls hC)
  | false =>
    rw [hax, cond_false] at hE
    obtain ⟨h1, h2, h3⟩ := aAnd hE
    obtain ⟨hin, h3⟩ := aIte h3
    have ha := aInT h1
    have hka : aK h a = 100 := Nat.eq_of_beq_eq_true h2
    have hcf : aRel ad base ids D h H := hC.1
    have hq := aGo_eq h3
    subst hq
    show W p la e R s m args below meth c H locs (aN h - n0) (aSl h - s0) Q (F0 m pc ls (.int i :: .ref (ad a) :: r.map (aCv ad)))
    rw [aAd_in hA hcf ha]
    exact va_iald hx hb hK hcf.2 a 0 (by rw [aW_at ha, aEn_100 hka]) rfl hin hd (K H locs ls hC)
theorem s_cald (C : aMc p s m meth c args md) (hK : va_K D aCls (aTys ids) s) (hA : aAdOk ad base b sa) (hd : decode md.2.2.1 pc = .ok (.caload, 1)) (hE : aCald pc l st h = some (.inl q)) (K : aKt p la e R s m args below meth c Q ad base ids D nL n0 s0 q) : aKt p la e R s m args below meth c Q ad base ids D nL n0 s0 (pc, l, st, h) := by
  intro H locs ls hC
  obtain ⟨hx, hb, -, hown, hts, -⟩ := C
  unfold aCald at hE
  split at hE
  case h_2 => cases hE
  rename_i i a r
  obtain ⟨h1, h2, h3⟩ := aAnd hE
  obtain ⟨hin, h3⟩ := aIte h3
  have ha := aInT h1
  have hka : aK h a = 101 := Nat.eq_of_beq_eq_true h2
  have hcf : aRel ad base ids D h H := hC.1
  have hq := aGo_eq h3
  subst hq
  show W p la e R s m args below meth c H locs (aN h - n0) (aSl h - s0) Q (F0 m pc ls (.int i :: .ref (ad a) :: r.map (aCv ad)))
  rw [aAd_in hA hcf ha]
  exact va_cald hx hb hK hcf.2 a 1 (by rw [aW_at ha, aEn_101 hka]) rfl hin hd (K H locs ls hC)
theorem s_lald (C : aMc p s m meth c args md) (hK : va_K D aCls (aTys ids) s) (hA : aAdOk ad base b sa) (hd : decode md.2.2.1 pc = .ok (.laload, 1)) (hE : aLald pc l st h = some (.inl q)) (K : aKt p la e R s m args below meth c Q ad base ids D nL n0 s0 q) : aKt p la e R s m args below meth c Q ad base ids D nL n0 s0 (pc, l, st, h) := by
  intro H locs ls hC
  obtain ⟨hx, hb, -, hown, hts, -⟩ := C
  unfold aLald at hE
  split at hE
  case h_2 => cases hE
  rename_i i a r
  obtain ⟨h1, h2, h3⟩ := aAnd hE
  obtain ⟨hin, h3⟩ := aIte h3
  have ha := aInT h1
  have hka : aK h a = 102 := Nat.eq_of_beq_eq_true h2
  have hcf : aRel ad base ids D h H := hC.1
  have hq := aGo_eq h3
  subst hq
  show W p la e R s m args below meth c H locs (aN h - n0) (aSl h - s0) Q (F0 m pc ls (.int i :: .ref (ad a) :: r.map (aCv ad)))
  rw [aAd_in hA hcf ha]
  exact va_lald hx hb hK hcf.2 a 2 (by rw [aW_at ha, aEn_102 hka]) rfl hin hd (K H locs ls hC)
theorem s_aald (C : aMc p s m meth c args md) (hK : va_K D aCls (aTys ids) s) (hA : aAdOk ad base b sa) (hd : decode md.2.2.1 pc = .ok (.aaload, 1)) (hE : aAald pc l st h = some (.inl q)) (K : aKt p la e R s m args below meth c Q ad base ids D nL n0 s0 q) : aKt p la e R s m args below meth c Q ad base ids D nL n0 s0 (pc, l, st, h) := by
  intro H locs ls hC
  obtain ⟨hx, hb, -, hown, hts, -⟩ := C
  unfold aAald at hE
  split at hE
  case h_2 => cases hE
  rename_i i a r
  obtain ⟨h1, h2, h3⟩ := aAnd hE
  obtain ⟨hin, h3⟩ := aIte h3
  have ha := aInT h1
  have hka : aK h a = 103 := Nat.eq_of_beq_eq_true h2
  have hcf : aRel ad base ids D h H := hC.1
  have hq := aGo_eq h3
  subst hq
  show W p la e R s m args below meth c H locs (aN h - n0) (aSl h - s0) Q (F0 m pc ls (.int i :: .ref (ad a) :: r.map (aCv ad)))
  rw [aAd_in hA hcf ha]
  refine va_aldq hx hb hK hcf.2 a 3 (by rw [aW_at ha, aEn_103 hka]) rfl hin hd ?_
  have hW := K H locs ls hC
  have hW : W p la e R s m args below meth c H locs (aN h - n0) (aSl h - s0) Q (F0 m (pc + 1) ls (aCv ad (va_rf (aR h a i.toNatClampNeg)) :: r.map (aCv ad))) := hW
  rw [aCv_rf] at hW
  exact hW
theorem s_iast (C : aMc p s m meth c args md) (hK : va_K D aCls (aTys ids) s) (hA : aAdOk ad base b sa) (hd : decode md.2.2.1 pc = .ok (.iastore, 1)) (hE : aIast pc l st h = some (.inl q)) (K : aKt p la e R s m args below meth c Q ad base ids D nL n0 s0 q) : aKt p la e R s m args below meth c Q ad base ids D nL n0 s0 (pc, l, st, h) := by
  intro H locs ls hC
  obtain ⟨hx, hb, -, hown, hts, -⟩ := C
  unfold aIast at hE
  split at hE
  case h_2 => cases hE
  rename_i x i a r
  obtain ⟨h1, h2, h3⟩ := aAnd hE
  obtain ⟨hin, h3⟩ := aIte h3
  have ha := aInT h1
  have hka : aK h a = 100 := Nat.eq_of_beq_eq_true h2
  have hcf : aRel ad base ids D h H := hC.1
  have hq := aGo_eq h3
  subst hq
  show W p la e R s m args below meth c H locs (aN h - n0) (aSl h - s0) Q (F0 m pc ls (.int x :: .int i :: .ref (ad a) :: r.map (aCv ad)))
  rw [aAd_in hA hcf ha]
  refine ax_iast hx hb hK hcf.2 a 0 (by rw [aW_at ha, aEn_100 hka]) rfl hin hd fun H1 i0 z oq he => ?_
  have hrel : aRel ad base ids D (aSetI h (aU (aI h) a i.toNatClampNeg x)) H1 := aRel_put hcf ha rfl z oq (by
    rw [aEn_100 (h := aSetI h (aU (aI h) a i.toNatClampNeg x)) hka]
    show va_at D aCls (base + a, .inl (ids.1, aL h a, .inl (aU (aI h) a i.toNatClampNeg x a))) H1
    rw [aU_updI]
    exact he) (fun j _ hj => aEn_row (h := h) (h' := aSetI h (aU (aI h) a i.toNatClampNeg x)) rfl rfl (aU_row _ _ _ _ hj) rfl rfl)
  exact K H1 (locs ++ [⟨base + a, i0⟩]) ls ⟨hrel, hC.2.1.put z oq (Nat.le_add_right base a), hC.2.2⟩
theorem s_cast (C : aMc p s m meth c args md) (hK : va_K D aCls (aTys ids) s) (hA : aAdOk ad base b sa) (hd : decode md.2.2.1 pc = .ok (.castore, 1)) (hE : aCast pc l st h = some (.inl q)) (K : aKt p la e R s m args below meth c Q ad base ids D nL n0 s0 q) : aKt p la e R s m args below meth c Q ad base ids D nL n0 s0 (pc, l, st, h) := by
  intro H locs ls hC
  obtain ⟨hx, hb, -, hown, hts, -⟩ := C
  unfold aCast at hE
  split at hE
  case h_2 => cases hE
  rename_i x i a r
  obtain ⟨h1, h2, h3⟩ := aAnd hE
  obtain ⟨hin, h3⟩ := aIte h3
  have ha := aInT h1
  have hka : aK h a = 101 := Nat.eq_of_beq_eq_true h2
  have hcf : aRel ad base ids D h H := hC.1
  have hq := aGo_eq h3
  subst hq
  show W p la e R s m args below meth c H locs (aN h - n0) (aSl h - s0) Q (F0 m pc ls (.int x :: .int i :: .ref (ad a) :: r.map (aCv ad)))
  rw [aAd_in hA hcf ha]
  refine ax_cast hx hb hK hcf.2 a 1 (by rw [aW_at ha, aEn_101 hka]) rfl hin hd fun H1 i0 z oq he => ?_
  have hrel : aRel ad base ids D (aSetI h (aU (aI h) a i.toNatClampNeg (vp_nar .char x))) H1 := aRel_put hcf ha rfl z oq (by
    rw [aEn_101 (h := aSetI h (aU (aI h) a i.toNatClampNeg (vp_nar .char x))) hka]
    show va_at D aCls (base + a, .inl (ids.2.1, aL h a, .inl (aU (aI h) a i.toNatClampNeg (vp_nar .char x) a))) H1
    rw [aU_updI]
    exact he) (fun j _ hj => aEn_row (h := h) (h' := aSetI h (aU (aI h) a i.toNatClampNeg (vp_nar .char x))) rfl rfl (aU_row _ _ _ _ hj) rfl rfl)
  exact K H1 (locs ++ [⟨base + a, i0⟩]) ls ⟨hrel, hC.2.1.put z oq (Nat.le_add_right base a), hC.2.2⟩
theorem s_last (C : aMc p s m meth c args md) (hK : va_K D aCls (aTys ids) s) (hA : aAdOk ad base b sa) (hd : decode md.2.2.1 pc = .ok (.lastore, 1)) (hE : aLast pc l st h = some (.inl q)) (K : aKt p la e R s m args below meth c Q ad base ids D nL n0 s0 q) : aKt p la e R s m args below meth c Q ad base ids D nL n0 s0 (pc, l, st, h) := by
  intro H locs ls hC
  obtain ⟨hx, hb, -, hown, hts, -⟩ := C
  unfold aLast at hE
  split at hE
  case h_2 => cases hE
  rename_i x i a r
  obtain ⟨h1, h2, h3⟩ := aAnd hE
  obtain ⟨hin, h3⟩ := aIte h3
  have ha := aInT h1
  have hka : aK h a = 102 := Nat.eq_of_beq_eq_true h2
  have hcf : aRel ad base ids D h H := hC.1
  have hq := aGo_eq h3
  subst hq
  show W p la e R s m args below meth c H locs (aN h - n0) (aSl h - s0) Q (F0 m pc ls (.long x :: .int i :: .ref (ad a) :: r.map (aCv ad)))
  rw [aAd_in hA hcf ha]
  refine ax_last hx hb hK hcf.2 a 2 (by rw [aW_at ha, aEn_102 hka]) rfl hin hd fun H1 i0 z oq he => ?_
  have hrel : aRel ad base ids D (aSetJ h (aU (aJ h) a i.toNatClampNeg x)) H1 := aRel_put hcf ha rfl z oq (by
    rw [aEn_102 (h := aSetJ h (aU (aJ h) a i.toNatClampNeg x)) hka]
    show va_at D aCls (base + a, .inl (ids.2.2.1, aL h a, .inr (.inl (aU (aJ h) a i.toNatClampNeg x a)))) H1
    rw [aU_updL]
    exact he) (fun j _ hj => aEn_row (h := h) (h' := aSetJ h (aU (aJ h) a i.toNatClampNeg x)) rfl rfl rfl (aU_row _ _ _ _ hj) rfl)
  exact K H1 (locs ++ [⟨base + a, i0⟩]) ls ⟨hrel, hC.2.1.put z oq (Nat.le_add_right base a), hC.2.2⟩
theorem s_aast (C : aMc p s m meth c args md) (hK : va_K D aCls (aTys ids) s) (hA : aAdOk ad base b sa) (hd : decode md.2.2.1 pc = .ok (.aastore, 1)) (hE : aAast pc l st h = some (.inl q)) (K : aKt p la e R s m args below meth c Q ad base ids D nL n0 s0 q) : aKt p la e R s m args below meth c Q ad base ids D nL n0 s0 (pc, l, st, h) := by
  intro H locs ls hC
  obtain ⟨hx, hb, -, hown, hts, -⟩ := C
  unfold aAast at hE
  split at hE
  case h_2 => cases hE
  rename_i x i a r
  obtain ⟨h12, h34, h3⟩ := aAnd hE
  simp only [Bool.and_eq_true] at h12 h34
  obtain ⟨hin, h3⟩ := aIte h3
  have ha := aInT h12.1
  have hka : aK h a = 103 := Nat.eq_of_beq_eq_true h12.2
  have hxa := aInT h34.1
  have hkx : aK h x = 7 := Nat.eq_of_beq_eq_true h34.2
  have hcf : aRel ad base ids D h H := hC.1
  have hq := aGo_eq h3
  subst hq
  show W p la e R s m args below meth c H locs (aN h - n0) (aSl h - s0) Q (F0 m pc ls (.ref (ad x) :: .int i :: .ref (ad a) :: r.map (aCv ad)))
  have hadx := aAd_in hA hcf hxa
  rw [aAd_in hA hcf ha, hadx]
  refine ax_astq hx hb hK hcf.2 a 3 x 7 (r := (aCn 7, aT 7, aNf 7)) (by rw [aW_at ha, aEn_103 hka]) rfl (by rw [aW_at hxa, aEn_obj hkx (by decide)]) (aCls_at (by decide)) hin hd fun H1 i0 z oq he => ?_
  have hrel : aRel ad base ids D (aSetR h (aU (aR h) a i.toNatClampNeg (some x))) H1 := aRel_put hcf ha rfl z oq (by
    rw [aEn_103 (h := aSetR h (aU (aR h) a i.toNatClampNeg (some x))) hka]
    show va_at D aCls (base + a, .inl (ids.2.2.2, aL h a, .inr (.inr (.inr (.inr (fun j => (aU (aR h) a i.toNatClampNeg (some x) a j).map ad)))))) H1
    rw [aU_updR]
    show va_at D aCls (base + a, .inl (ids.2.2.2, aL h a, .inr (.inr (.inr (.inr (va_up (fun j => (aR h a j).map ad) i.toNatClampNeg (some (ad x)))))))) H1
    rw [hadx]
    exact he) (fun j _ hj => aEn_row (h := h) (h' := aSetR h (aU (aR h) a i.toNatClampNeg (some x))) rfl rfl rfl rfl (aU_row _ _ _ _ hj))
  exact K H1 (locs ++ [⟨base + a, i0⟩]) ls ⟨hrel, hC.2.1.put z oq (Nat.le_add_right base a), hC.2.2⟩
theorem s_alen (C : aMc p s m meth c args md) (hK : va_K D aCls (aTys ids) s) (hA : aAdOk ad base b sa) (hX : va_X b (aXn h) (aX h) s s.heap) (hbb : b < base) (hbs : base ≤ s.heap.size) (hd : decode md.2.2.1 pc = .ok (.arraylength, 1)) (hE : aAlen pc l st h = some (.inl q)) (K : aKt p la e R s m args below meth c Q ad base ids D nL n0 s0 q) : aKt p la e R s m args below meth c Q ad base ids D nL n0 s0 (pc, l, st, h) := by
  intro H locs ls hC
  obtain ⟨hx, hb, -, hown, hts, -⟩ := C
  unfold aAlen at hE
  split at hE
  case h_2 => cases hE
  rename_i a r
  cases hax : Nat.beq a aXa with
  | true =>
    rw [hax, cond_true] at hE
    have ea : a = aXa := Nat.eq_of_beq_eq_true hax
    subst ea
    have hq := aGo_eq hE
    subst hq
    show W p la e R s m args below meth c H locs (aN h - n0) (aSl h - s0) Q (F0 m pc ls (.ref (ad aXa) :: r.map (aCv ad)))
    rw [hA.2.2]
    exact va_slen (A := fun q => base ≤ q) hx hb hX (by omega) (by show ¬ base ≤ b; omega) hC.2.1 hd (K H locs ls hC)
  | false =>
    rw [hax, cond_false] at hE
    obtain ⟨h12, h3, h4⟩ := aAnd hE
    simp only [Bool.and_eq_true] at h12
    have ha := aInT h12.1
    have hcf : aRel ad base ids D h H := hC.1
    have hq := aGo_eq h4
    subst hq
    show W p la e R s m args below meth c H locs (aN h - n0) (aSl h - s0) Q (F0 m pc ls (.ref (ad a) :: r.map (aCv ad)))
    rw [aAd_in hA hcf ha]
    have hW := K H locs ls hC
    have g1 : 100 ≤ aK h a := Nat.le_of_ble_eq_true h12.2
    have g2 : aK h a ≤ 103 := Nat.le_of_ble_eq_true h3
    rcases (show aK h a = 100 ∨ aK h a = 101 ∨ aK h a = 102 ∨ aK h a = 103 by omega) with hk | hk | hk | hk
    · exact va_alen hx hb hK hcf.2 a 0 (x := (aL h a, .inl (aI h a))) (by rw [aW_at ha, aEn_100 hk]) (ty := .int) rfl rfl hd hW
    · exact va_alen hx hb hK hcf.2 a 1 (x := (aL h a, .inl (aI h a))) (by rw [aW_at ha, aEn_101 hk]) (ty := .char) rfl rfl hd hW
    · exact va_alen hx hb hK hcf.2 a 2 (x := (aL h a, .inr (.inl (aJ h a)))) (by rw [aW_at ha, aEn_102 hk]) (ty := .long) rfl rfl hd hW
    · exact va_alen hx hb hK hcf.2 a 3 (x := (aL h a, .inr (.inr (.inr (.inr (fun j => (aR h a j).map ad)))))) (by rw [aW_at ha, aEn_103 hk]) (ty := .object "OthersShoes$State") rfl rfl hd hW
/-- a new cell leaves the others -/
theorem aNew_old {k n x j : Nat} (hj : j < aN h) : aEn ad ids (aNew h k n x) j = aEn ad ids h j :=
  have hne : j ≠ aN h := Nat.ne_of_lt hj
  aEn_same (aRow_ne _ _ _ hne) (aRow_ne _ _ _ hne) (aRow_ne _ _ _ hne) (aRow_ne _ _ _ hne) (aRow_ne _ _ _ hne)
theorem aCnt {a n x : Nat} (hn : n ≤ a) : a - n + x = a + x - n := by omega
theorem s_newa (C : aMc p s m meth c args md) (hA : aAdOk ad base b sa) {kd : Nat} {at_ : ArrayType} {cA : ClassId} {a0 : Nat → vp_A} (harr : (Cond.arrayClass (newarray.typeOf at_)).before args s = true) (hcA : s.vm.findClass ("[" ++ (newarray.typeOf at_).toString) = some cA) (hby : componentBytes (newarray.typeOf at_) ≤ 8)
    (hen : ∀ n, aEn ad ids (aNew h kd n n) (aN h) = .inl (cA, a0 n)) (ha0 : ∀ n, vp_cell cA (a0 n) = arrV cA n (fun _ => defaultValue (newarray.typeOf at_)))
    (hd : decode md.2.2.1 pc = .ok (.newarray at_, 2)) (hn0 : n0 ≤ aN h) (hs0 : s0 ≤ aSl h) (hRc : aN q.2.2.2 ≤ R.cells + n0) (hRs : aSl q.2.2.2 ≤ R.slots + s0) (hE : aNewa kd 2 pc l st h = some (.inl q)) (K : aKt p la e R s m args below meth c Q ad base ids D nL n0 s0 q) : aKt p la e R s m args below meth c Q ad base ids D nL n0 s0 (pc, l, st, h) := by
  intro H locs ls hC
  obtain ⟨hx, hb, -, hown, hts, -⟩ := C
  unfold aNewa at hE
  split at hE
  case h_2 => cases hE
  rename_i n r
  obtain ⟨hc, hE⟩ := aIte hE
  have hnn : ¬ n < 0 := fun z => hc (Or.inl z)
  have hnb : n.toNatClampNeg ≤ 60000000 := Nat.not_lt.mp fun z => hc (Or.inr (Or.inl z))
  have hnN : aN h ≤ 900000 := Nat.not_lt.mp fun z => hc (Or.inr (Or.inr z))
  have hq := aGo_eq hE
  subst hq
  have hRc : aN h + 1 ≤ R.cells + n0 := hRc
  have hRs : aSl h + n.toNatClampNeg ≤ R.slots + s0 := hRs
  have hcf : aRel ad base ids D h H := hC.1
  show W p la e R s m args below meth c H locs (aN h - n0) (aSl h - s0) Q (F0 m pc ls (.int n :: r.map (aCv ad)))
  refine ax_newa (D := D) (cl := aCls) hx hb harr hcA (ha0 n.toNatClampNeg) hnn (Nat.le_trans (Nat.mul_le_mul_left _ hby) (by omega)) (by omega) (by omega) hd fun H1 z o1 he => ?_
  have hrel : aRel ad base ids D (aNew h kd n.toNatClampNeg n.toNatClampNeg) H1 := aRel_new hcf hnN rfl z o1 (by rw [hen]; exact he) (fun j hj => aNew_old hj)
  have hW := K H1 locs ls ⟨hrel, ⟨Nat.le_trans hC.2.1.1 (by omega), fun x h1 h2 => (o1 x (Nat.lt_of_lt_of_le h1 hC.2.1.1)).trans (hC.2.1.2.1 x h1 h2), hC.2.1.2.2⟩, hC.2.2⟩
  have hW : W p la e R s m args below meth c H1 locs (aN h + 1 - n0) (aSl h + n.toNatClampNeg - s0) Q (F0 m (pc + 2) ls (.ref (ad (aN h)) :: r.map (aCv ad))) := hW
  rw [← aCnt hn0, ← aCnt hs0, hA.1 (aN h) (by unfold aSa; omega), ← hcf.1.1] at hW
  exact hW
theorem s_newq (C : aMc p s m meth c args md) (hA : aAdOk ad base b sa) {ix : Nat} (hclink : (Cond.classLink (aCn md.1) ix "OthersShoes$State").before args s = true) (hover : va_AO "OthersShoes$State" s) (hcA : s.vm.findClass ("[" ++ (FieldType.object "OthersShoes$State").toString) = some ids.2.2.2)
    (hd : decode md.2.2.1 pc = .ok (.anewarray ix, 3)) (hn0 : n0 ≤ aN h) (hs0 : s0 ≤ aSl h) (hRc : aN q.2.2.2 ≤ R.cells + n0) (hRs : aSl q.2.2.2 ≤ R.slots + s0) (hE : aNewa 103 3 pc l st h = some (.inl q)) (K : aKt p la e R s m args below meth c Q ad base ids D nL n0 s0 q) : aKt p la e R s m args below meth c Q ad base ids D nL n0 s0 (pc, l, st, h) := by
  intro H locs ls hC
  obtain ⟨hx, hb, -, hown, hts, -⟩ := C
  unfold aNewa at hE
  split at hE
  case h_2 => cases hE
  rename_i n r
  obtain ⟨hc, hE⟩ := aIte hE
  have hnn : ¬ n < 0 := fun z => hc (Or.inl z)
  have hnb : n.toNatClampNeg ≤ 60000000 := Nat.not_lt.mp fun z => hc (Or.inr (Or.inl z))
  have hnN : aN h ≤ 900000 := Nat.not_lt.mp fun z => hc (Or.inr (Or.inr z))
  have hq := aGo_eq hE
  subst hq
  have hRc : aN h + 1 ≤ R.cells + n0 := hRc
  have hRs : aSl h + n.toNatClampNeg ≤ R.slots + s0 := hRs
  have hcf : aRel ad base ids D h H := hC.1
  show W p la e R s m args below meth c H locs (aN h - n0) (aSl h - s0) Q (F0 m pc ls (.int n :: r.map (aCv ad)))
  refine ax_newq (D := D) (cl := aCls) hx hb hown hclink hover hcA hnn (by omega) (by omega) (by omega) hd fun H1 z o1 he => ?_
  have hrel : aRel ad base ids D (aNew h 103 n.toNatClampNeg n.toNatClampNeg) H1 := aRel_new hcf hnN rfl z o1 (by
    rw [aEn_103 (h := aNew h 103 n.toNatClampNeg n.toNatClampNeg) (aRow_at _ _ _)]
    show va_at D aCls (H.size, .inl (ids.2.2.2, aRow (aL h) (aN h) n.toNatClampNeg (aN h), .inr (.inr (.inr (.inr (fun j => (aRow (aR h) (aN h) (fun _ => none) (aN h) j).map ad)))))) H1
    rw [aRow_at, aRow_at]
    exact he) (fun j hj => aNew_old hj)
  have hW := K H1 locs ls ⟨hrel, ⟨Nat.le_trans hC.2.1.1 (by omega), fun x h1 h2 => (o1 x (Nat.lt_of_lt_of_le h1 hC.2.1.1)).trans (hC.2.1.2.1 x h1 h2), hC.2.1.2.2⟩, hC.2.2⟩
  have hW : W p la e R s m args below meth c H1 locs (aN h + 1 - n0) (aSl h + n.toNatClampNeg - s0) Q (F0 m (pc + 3) ls (.ref (ad (aN h)) :: r.map (aCv ad))) := hW
  rw [← aCnt hn0, ← aCnt hs0, hA.1 (aN h) (by unfold aSa; omega), ← hcf.1.1] at hW
  exact hW
theorem s_new (C : aMc p s m meth c args md) (hK : va_K D aCls (aTys ids) s) (hA : aAdOk ad base b sa) {ix ci nf : Nat} (hl : aHas4 aCL md.1 ix ci = true) (hnf : aNf ci = nf) (hci : ci < 13)
    (hd : decode md.2.2.1 pc = .ok (.new ix, 3)) (hn0 : n0 ≤ aN h) (hs0 : s0 ≤ aSl h) (hRc : aN q.2.2.2 ≤ R.cells + n0) (hRs : aSl q.2.2.2 ≤ R.slots + s0) (hE : aObj ci nf pc l st h = some (.inl q)) (K : aKt p la e R s m args below meth c Q ad base ids D nL n0 s0 q) : aKt p la e R s m args below meth c Q ad base ids D nL n0 s0 (pc, l, st, h) := by
  intro H locs ls hC
  obtain ⟨hx, hb, -, hown, hts, -⟩ := C
  subst hnf
  unfold aObj at hE
  cases hnN : Nat.ble (aN h) 900000 with
  | false => rw [hnN, cond_false] at hE; cases hE
  | true =>
    rw [hnN, cond_true] at hE
    have hnN := Nat.le_of_ble_eq_true hnN
    have hq := aGo_eq hE
    subst hq
    have hRc : aN h + 1 ≤ R.cells + n0 := hRc
    have hRs : aSl h + aNf ci ≤ R.slots + s0 := hRs
    have hcf : aRel ad base ids D h H := hC.1
    have hfs : ∀ j, j < aNf ci → defaultValue (aTy ci j) = vp_V (aFv ad (aNew h ci 0 (aNf ci)) (aN h) ci) j := by
      intro j hj
      have e : vp_V (aFv ad (aNew h ci 0 (aNf ci)) (aN h) ci) j = aVl ad (aF ci j).2.2.2 (aNew h ci 0 (aNf ci)) (aN h) j := by
        unfold vp_V
        rw [List.getD_eq_getElem?_getD, aFv_at hj]
        rfl
      rw [e]
      have hty := aTy_ok hci hj
      simp only [aTyOk, Bool.and_eq_true] at hty
      have h2 := hty.2
      unfold aVl
      split at h2
      · rename_i hc
        rw [hc]
        have h3 : aTy ci j = .int := by simpa using h2
        rw [h3]
        show _ = Value.int (aRow (aI h) (aN h) (fun _ => 0) (aN h) j)
        rw [aRow_at]; rfl
      · rename_i hc
        rw [hc]
        have h3 : aTy ci j = .boolean := by simpa using h2
        rw [h3]
        show _ = Value.int (aRow (aI h) (aN h) (fun _ => 0) (aN h) j)
        rw [aRow_at]; rfl
      · rename_i hc
        rw [hc]
        have h3 : aTy ci j = .long := by simpa using h2
        rw [h3]
        show _ = Value.long (aRow (aJ h) (aN h) (fun _ => 0) (aN h) j)
        rw [aRow_at]; rfl
      · rename_i hc
        rw [hc]
        show _ = va_rf ((aRow (aR h) (aN h) (fun _ => none) (aN h) j).map ad)
        rw [aRow_at]
        cases hT : aTy ci j <;> rw [hT] at h2 <;> simp at h2 <;> rfl
      · cases h2
    show W p la e R s m args below meth c H locs (aN h - n0) (aSl h - s0) Q (F0 m pc ls (st.map (aCv ad)))
    refine ax_new (D := D) (cl := aCls) (C := aCn ci) (T := aT ci) (N := aNf ci) hx hb hts (aLay hci) (aTy ci) (aTy_p hci) hown (hts _ (aHasC_ok hl)) (hts _ (aInst_ok hci)) (hts _ (aInit_ok (by omega))) hK (aCls_at hci) hfs (by omega) (by omega) hd fun H1 z o1 he => ?_
    have hrel : aRel ad base ids D (aNew h ci 0 (aNf ci)) H1 := aRel_new hcf hnN rfl z o1 (by
      rw [aEn_obj (h := aNew h ci 0 (aNf ci)) (aRow_at _ _ _) hci]
      exact he) (fun j hj => aNew_old hj)
    have hW := K H1 locs ls ⟨hrel, ⟨Nat.le_trans hC.2.1.1 (by omega), fun x h1 h2 => (o1 x (Nat.lt_of_lt_of_le h1 hC.2.1.1)).trans (hC.2.1.2.1 x h1 h2), hC.2.1.2.2⟩, hC.2.2⟩
    have hW : W p la e R s m args below meth c H1 locs (aN h + 1 - n0) (aSl h + aNf ci - s0) Q (F0 m (pc + 3) ls (.ref (ad (aN h)) :: st.map (aCv ad))) := hW
    rw [← aCnt hn0, ← aCnt hs0, hA.1 (aN h) (by unfold aSa; omega), ← hcf.1.1] at hW
    exact hW
end AAs
