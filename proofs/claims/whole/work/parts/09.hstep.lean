/-! ===== the abstract machine's heap, instruction by instruction ===== -/
section AHs
variable {p : Program} {la : Launch} {e : Env} {R : Room} {s : State} {m : MethodId} {args : Array Value} {below : List Frame} {meth : Method} {c : Code} {Q : State → Prop} {ad : Nat → Nat} {base : Nat} {ids : aIds} {D : va_G} {nL n0 s0 : Nat} {md : aMd}
variable {q : Nat × List (Option Value) × List Value × aHp} {pc : Nat} {l : List (Option Value)} {st : List Value} {h h' : aHp} {H H1 : Heap} {locs : List Loc} {a i : Nat}
theorem aRel_put (hr : aRel ad base ids D h H) (ha : a < aN h) (hn : aN h' = aN h) (z : H1.size = H.size) (oq : ∀ q, q ≠ base + a → H1[q]? = H[q]?) (he : va_at D aCls (base + a, aEn ad ids h' a) H1) (ho : ∀ j, j < aN h → j ≠ a → aEn ad ids h' j = aEn ad ids h j) : aRel ad base ids D h' H1 := by
  refine ⟨⟨by rw [z, hr.1.1, hn], by rw [hn]; exact hr.1.2⟩, ?_⟩
  rw [← aW_set (aEn ad ids h' a) ha hn rfl ho]
  exact hr.2.set aW_D (aW_at ha) he oq
theorem aRel_new (hr : aRel ad base ids D h H) (hle : aN h ≤ 900000) (hn : aN h' = aN h + 1) (z : H1.size = H.size + 1) (o1 : ∀ q, q < H.size → H1[q]? = H[q]?) (he : va_at D aCls (H.size, aEn ad ids h' (aN h)) H1) (ho : ∀ j, j < aN h → aEn ad ids h' j = aEn ad ids h j) : aRel ad base ids D h' H1 := by
  refine ⟨⟨by rw [z, hr.1.1, hn]; omega, by rw [hn]; omega⟩, ?_⟩
  rw [← aW_push (aEn ad ids h' (aN h)) hn rfl ho]
  refine va_P.app (hr.2.kept fun k x hx => ?_) (fun k x hx => ?_)
  · exact o1 x.1 ((hr.2 k x hx).lt)
  · have hz : k < 1 := (List.getElem?_eq_some_iff.mp hx).1
    rw [show k = 0 by omega] at hx
    cases hx
    rw [← hr.1.1]
    exact he
theorem aEn_100 (hk : aK h i = 100) : aEn ad ids h i = .inl (ids.1, aL h i, .inl (aI h i)) := by simp [aEn, hk]
theorem aEn_101 (hk : aK h i = 101) : aEn ad ids h i = .inl (ids.2.1, aL h i, .inl (aI h i)) := by simp [aEn, hk]
theorem aEn_102 (hk : aK h i = 102) : aEn ad ids h i = .inl (ids.2.2.1, aL h i, .inr (.inl (aJ h i))) := by simp [aEn, hk]
theorem aEn_103 (hk : aK h i = 103) : aEn ad ids h i = .inl (ids.2.2.2, aL h i, .inr (.inr (.inr (.inr (fun j => (aR h i j).map ad))))) := by simp [aEn, hk]
theorem aEn_obj {ci : Nat} (hk : aK h i = ci) (hc : ci < 13) : aEn ad ids h i = .inr (ci, aFv ad h i ci) := by
  have h0 : ¬ ci = 100 := by omega
  have h1 : ¬ ci = 101 := by omega
  have h2 : ¬ ci = 102 := by omega
  have h3 : ¬ ci = 103 := by omega
  simp [aEn, hk, h0, h1, h2, h3]
theorem aInT (h1 : aInHp h a = true) : a < aN h := Nat.le_of_ble_eq_true h1
theorem aAnd {x y : Bool} {α : Type} {u : α} {t : Option α} (hE : (bif x && y then t else none) = some u) : x = true ∧ y = true ∧ t = some u := by
  cases x <;> cases y <;> simp_all
/-- addresses: heap cells, string constants, the script -/
def aAdOk (ad : Nat → Nat) (base b : Nat) (sa : Nat → Nat) : Prop := (∀ a, a < aSa → ad a = base + a) ∧ (∀ k, k < 1000000 → ad (aSa + k) = sa k) ∧ ad aXa = b
variable {b : Nat} {sa : Nat → Nat}
theorem aAd_in (hA : aAdOk ad base b sa) (hr : aRel ad base ids D h H) (ha : a < aN h) : ad a = base + a := hA.1 a (by have := hr.1.2; unfold aSa; omega)
theorem s_fld (C : aMc p s m meth c args md) (hK : va_K D aCls (aTys ids) s) (hA : aAdOk ad base b sa) {ix ci k : Nat} {ty : Int} (hd : decode md.2.2.1 pc = .ok (.getfield ix, 3)) (hl : aHasF md.1 ix ci k = true) (ht : ((aF ci k).2.2.2 : Int) = ty) (hE : aFld ty pc ci k l st h = some (.inl q)) (K : aKt p la e R s m args below meth c Q ad base ids D nL n0 s0 q) : aKt p la e R s m args below meth c Q ad base ids D nL n0 s0 (pc, l, st, h) := by
  intro H locs ls hC
  obtain ⟨hx, hb, -, hown, hts, -⟩ := C
  obtain ⟨hlink, hci, hk⟩ := aHasF_ok hl
  unfold aFld at hE
  split at hE
  case h_2 => cases hE
  rename_i a r
  obtain ⟨h1, h2, h3⟩ := aAnd hE
  have ha := aInT h1
  have hka : aK h a = ci := Nat.eq_of_beq_eq_true h2
  have hcf : aRel ad base ids D h H := hC.1
  have hada := aAd_in hA hcf ha
  have hws : (aW ad base ids h)[a]? = some (base + a, .inr (ci, aFv ad h a ci)) := by rw [aW_at ha, aEn_obj hka hci]
  have key : ∀ v : Value, aVl ad (aF ci k).2.2.2 h a k = aCv ad v → q = (pc + 3, l, v :: r, h) → W p la e R s m args below meth c H locs (aN h - n0) (aSl h - s0) Q (F0 m pc ls ((.ref a :: r).map (aCv ad))) := by
    intro v hv hq
    subst hq
    have e1 : (Value.ref a :: r).map (aCv ad) = .ref (base + a) :: r.map (aCv ad) := by rw [List.map_cons]; show Value.ref (ad a) :: _ = _; rw [hada]
    rw [e1]
    exact va_get (ref := aCn ci) (C := aCn ci) (T := aT ci) (N := aNf ci) hx hb hts (aLay hci) hown hK hcf.2 a hws (aCls_at hci) k hk (hts _ hlink) (fun _ h9 => h9) (v := aCv ad v) (by rw [aFv_at hk, hv]) hd (K H locs ls hC)
  have hty : ∀ n : Nat, ty = (n : Int) → (aF ci k).2.2.2 = n := fun n hn => by rw [hn] at ht; exact Int.ofNat.inj ht
  split at h3
  · exact key _ (by rw [hty 0 rfl]; rfl) (aGo_eq h3)
  · exact key _ (by rw [hty 1 rfl]; rfl) (aGo_eq h3)
  · exact key _ (by rw [hty 2 rfl]; rfl) (aGo_eq h3)
  · exact key _ (by rw [hty 3 rfl, aCv_rf]; rfl) (aGo_eq h3)
  · cases h3
theorem aVl_setI {ci k : Nat} (x : Int32) (hc : (aF ci k).2.2.2 = 0 ∨ (aF ci k).2.2.2 = 1) (i j : Nat) : aVl ad (aF ci j).2.2.2 (aSetI h (aU (aI h) i k x)) i j = if j = k then (match (aF ci k).2.2.2 with
    | 2 => aVl ad (aF ci j).2.2.2 h i j
    | 3 => aVl ad (aF ci j).2.2.2 h i j
    | _ => .int x) else aVl ad (aF ci j).2.2.2 h i j := by
  by_cases hj : j = k
  · subst hj
    rw [if_pos rfl]
    rcases hc with hc | hc <;> rw [hc] <;> (show Value.int (aU (aI h) i j x i j) = _) <;> rw [aU_at] <;> rfl
  · rw [if_neg hj]
    unfold aVl
    split <;> first | rfl | (show Value.int (aU (aI h) i k x i j) = _; rw [aU_col _ _ _ _ hj])
theorem aEn_row (hK' : aK h' = aK h) (hL' : aL h' = aL h) {j : Nat} (hI : aI h' j = aI h j) (hJ : aJ h' j = aJ h j) (hR : aR h' j = aR h j) : aEn ad ids h' j = aEn ad ids h j := aEn_same (by rw [hK']) (by rw [hL']) hI hJ hR
/-- what a field of a type may hold -/
theorem aFits {ci k : Nat} (hci : ci < 13) (hk : k < aNf ci) {v : Value} (hv : ((aF ci k).2.2.2 = 0 ∧ ∃ x, v = .int x) ∨ ((aF ci k).2.2.2 = 1 ∧ (v = .int 0 ∨ v = .int 1)) ∨ ((aF ci k).2.2.2 = 2 ∧ ∃ x, v = .long x) ∨ ((aF ci k).2.2.2 = 3 ∧ (v = .null ∨ ∃ x, v = .ref x))) : narrow (aTy ci k) v = v ∧ fits (aTy ci k) v = true := by
  have h := aTy_ok hci hk
  simp only [aTyOk, Bool.and_eq_true] at h
  have h2 := h.2
  rcases hv with ⟨hc, x, rfl⟩ | ⟨hc, hv⟩ | ⟨hc, x, rfl⟩ | ⟨hc, hv⟩
  · rw [hc] at h2
    have h3 : aTy ci k = .int := by simpa using h2
    rw [h3]
    exact ⟨rfl, rfl⟩
  · rw [hc] at h2
    have h3 : aTy ci k = .boolean := by simpa using h2
    rw [h3]
    rcases hv with rfl | rfl <;> exact ⟨rfl, rfl⟩
  · rw [hc] at h2
    have h3 : aTy ci k = .long := by simpa using h2
    rw [h3]
    exact ⟨rfl, rfl⟩
  · rw [hc] at h2
    cases hT : aTy ci k <;> rw [hT] at h2 <;> simp at h2 <;> rcases hv with rfl | ⟨x, rfl⟩ <;> exact ⟨rfl, rfl⟩
theorem s_put (C : aMc p s m meth c args md) (hK : va_K D aCls (aTys ids) s) (hA : aAdOk ad base b sa) {ix ci k : Nat} {ty : Int} (hd : decode md.2.2.1 pc = .ok (.putfield ix, 3)) (hl : aHasF md.1 ix ci k = true) (ht : ((aF ci k).2.2.2 : Int) = ty) (hfin : (aF ci k).2.2.1 = false ∨ (md.1 = ci ∧ md.2.1.name = "<init>")) (hE : aPut ty pc ci k l st h = some (.inl q)) (K : aKt p la e R s m args below meth c Q ad base ids D nL n0 s0 q) : aKt p la e R s m args below meth c Q ad base ids D nL n0 s0 (pc, l, st, h) := by
  intro H locs ls hC
  obtain ⟨hx, hb, -, hown, hts, -, -, hnm⟩ := C
  obtain ⟨hlink, hci, hk⟩ := aHasF_ok hl
  unfold aPut at hE
  split at hE
  case h_2 => cases hE
  rename_i v a r
  obtain ⟨h1, h2, h3⟩ := aAnd hE
  have ha := aInT h1
  have hka : aK h a = ci := Nat.eq_of_beq_eq_true h2
  have hcf : aRel ad base ids D h H := hC.1
  have hada := aAd_in hA hcf ha
  have hws : (aW ad base ids h)[a]? = some (base + a, .inr (ci, aFv ad h a ci)) := by rw [aW_at ha, aEn_obj hka hci]
  have hty : ∀ n : Nat, ty = (n : Int) → (aF ci k).2.2.2 = n := fun n hn => by rw [hn] at ht; exact Int.ofNat.inj ht
  have key : ∀ (h2 : aHp), narrow (aTy ci k) (aCv ad v) = aCv ad v ∧ fits (aTy ci k) (aCv ad v) = true → aN h2 = aN h → aSl h2 = aSl h → aK h2 = aK h → aL h2 = aL h → (∀ j, j ≠ a → aI h2 j = aI h j ∧ aJ h2 j = aJ h j ∧ aR h2 j = aR h j) → aVl ad (aF ci k).2.2.2 h2 a k = aCv ad v → (∀ j, j < aNf ci → j ≠ k → aVl ad (aF ci j).2.2.2 h2 a j = aVl ad (aF ci j).2.2.2 h a j) → q = (pc + 3, l, r, h2) → W p la e R s m args below meth c H locs (aN h - n0) (aSl h - s0) Q (F0 m pc ls ((v :: .ref a :: r).map (aCv ad))) := by
    intro h2 hv hN hSl hKK hLL ho hvk hvo hq
    subst hq
    have e1 : (v :: Value.ref a :: r).map (aCv ad) = aCv ad v :: .ref (base + a) :: r.map (aCv ad) := by rw [List.map_cons, List.map_cons]; show _ :: Value.ref (ad a) :: _ = _; rw [hada]
    rw [e1]
    refine ax_put (C := aCn ci) (T := aT ci) (N := aNf ci) (own := aCn md.1) (k := k) hx hb hts (aLay hci) (aTy ci) (aTy_p hci) (aNm_ne hci) hown hK hcf.2 a hws (aCls_at hci) hk rfl (hts _ hlink) ?_ hv.1 hv.2 (by rw [aFv_len]; exact hk) hd fun H1 i z oq he => ?_
    · rcases hfin with hf | ⟨hf1, hf2⟩
      · exact Or.inl hf
      · exact Or.inr ⟨hnm hf2, by rw [hf1]⟩
    · rw [aFv_set (h' := h2) (aCv ad v) hk hvk hvo] at he
      have hK2 : aK h2 a = ci := by rw [hKK]; exact hka
      have hrel : aRel ad base ids D h2 H1 := aRel_put hcf ha hN z oq (by rw [aEn_obj hK2 hci]; exact he) (fun j _ hj => aEn_row hKK hLL (ho j hj).1 (ho j hj).2.1 (ho j hj).2.2)
      have hW := K H1 (locs ++ [⟨base + a, i⟩]) ls ⟨hrel, hC.2.1.put z oq (Nat.le_add_right base a), hC.2.2⟩
      have hW : W p la e R s m args below meth c H1 (locs ++ [⟨base + a, i⟩]) (aN h2 - n0) (aSl h2 - s0) Q (F0 m (pc + 3) ls (r.map (aCv ad))) := hW
      rw [hN, hSl] at hW
      exact hW
  split at h3
  · rename_i x
    refine key (aSetI h (aU (aI h) a k x)) (aFits hci hk (Or.inl ⟨hty 0 rfl, _, rfl⟩)) rfl rfl rfl rfl (fun j hj => ⟨aU_row _ _ _ _ hj, rfl, rfl⟩) ?_ (fun j _ hj => ?_) (aGo_eq h3)
    · rw [hty 0 rfl]; show Value.int (aU (aI h) a k x a k) = _; rw [aU_at]; rfl
    · rw [aVl_setI x (Or.inl (hty 0 rfl)), if_neg hj]
  · rename_i x
    split at h3
    · rename_i hx01
      refine key (aSetI h (aU (aI h) a k x)) (aFits hci hk (Or.inr (Or.inl ⟨hty 1 rfl, ?_⟩))) rfl rfl rfl rfl (fun j hj => ⟨aU_row _ _ _ _ hj, rfl, rfl⟩) ?_ (fun j _ hj => ?_) (aGo_eq h3)
      · rcases hx01 with rfl | rfl
        · exact Or.inl rfl
        · exact Or.inr rfl
      · rw [hty 1 rfl]; show Value.int (aU (aI h) a k x a k) = _; rw [aU_at]; rfl
      · rw [aVl_setI x (Or.inr (hty 1 rfl)), if_neg hj]
    · cases h3
  · rename_i x
    refine key (aSetJ h (aU (aJ h) a k x)) (aFits hci hk (Or.inr (Or.inr (Or.inl ⟨hty 2 rfl, _, rfl⟩)))) rfl rfl rfl rfl (fun j hj => ⟨rfl, aU_row _ _ _ _ hj, rfl⟩) ?_ (fun j _ hj => ?_) (aGo_eq h3)
    · rw [hty 2 rfl]; show Value.long (aU (aJ h) a k x a k) = _; rw [aU_at]; rfl
    · unfold aVl
      split <;> first | rfl | (show Value.long (aU (aJ h) a k x a j) = _; rw [aU_col _ _ _ _ hj])
  · rename_i x
    refine key (aSetR h (aU (aR h) a k (some x))) (aFits hci hk (Or.inr (Or.inr (Or.inr ⟨hty 3 rfl, Or.inr ⟨_, rfl⟩⟩)))) rfl rfl rfl rfl (fun j hj => ⟨rfl, rfl, aU_row _ _ _ _ hj⟩) ?_ (fun j _ hj => ?_) (aGo_eq h3)
    · rw [hty 3 rfl]; show va_rf ((aU (aR h) a k (some x) a k).map ad) = _; rw [aU_at]; rfl
    · unfold aVl
      split <;> first | rfl | (show va_rf ((aU (aR h) a k (some x) a j).map ad) = _; rw [aU_col _ _ _ _ hj])
  · refine key (aSetR h (aU (aR h) a k none)) (aFits hci hk (Or.inr (Or.inr (Or.inr ⟨hty 3 rfl, Or.inl rfl⟩)))) rfl rfl rfl rfl (fun j hj => ⟨rfl, rfl, aU_row _ _ _ _ hj⟩) ?_ (fun j _ hj => ?_) (aGo_eq h3)
    · rw [hty 3 rfl]; show va_rf ((aU (aR h) a k none a k).map ad) = _; rw [aU_at]; rfl
    · unfold aVl
      split <;> first | rfl | (show va_rf ((aU (aR h) a k none a j).map ad) = _; rw [aU_col _ _ _ _ hj])
  · cases h3
end AHs
