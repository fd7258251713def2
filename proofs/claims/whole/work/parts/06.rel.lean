/-! ===== the abstract heap and the machine's ===== -/
def aCv (ad : Nat → Nat) (v : Value) : Value := match v with
  | .ref a => .ref (ad a)
  | .int x => .int x
  | .long x => .long x
  | .float x => .float x
  | .double x => .double x
  | .null => .null
  | .retAddr x => .retAddr x
theorem aCv_cat (ad : Nat → Nat) (v : Value) : (aCv ad v).category = v.category := by cases v <;> rfl
theorem aCv_rf (ad : Nat → Nat) (r : Option Nat) : aCv ad (va_rf r) = va_rf (r.map ad) := by cases r <;> rfl
def aVl (ad : Nat → Nat) (c : Nat) (h : aHp) (i k : Nat) : Value := match c with
  | 2 => .long (aJ h i k)
  | 3 => va_rf ((aR h i k).map ad)
  | _ => .int (aI h i k)
def aFv (ad : Nat → Nat) (h : aHp) (i ci : Nat) : List Value := (List.range (aNf ci)).map fun k => aVl ad (aF ci k).2.2.2 h i k
abbrev aIds : Type := ClassId × ClassId × ClassId × ClassId
def aEn (ad : Nat → Nat) (ids : aIds) (h : aHp) (i : Nat) : va_E :=
  if aK h i = 100 then .inl (ids.1, aL h i, .inl (aI h i))
  else if aK h i = 101 then .inl (ids.2.1, aL h i, .inl (aI h i))
  else if aK h i = 102 then .inl (ids.2.2.1, aL h i, .inr (.inl (aJ h i)))
  else if aK h i = 103 then .inl (ids.2.2.2, aL h i, .inr (.inr (.inr (.inr (fun j => (aR h i j).map ad)))))
  else .inr (aK h i, aFv ad h i (aK h i))
def aW (ad : Nat → Nat) (base : Nat) (ids : aIds) (h : aHp) : va_W := (List.range (aN h)).map fun i => (base + i, aEn ad ids h i)
def aRel (ad : Nat → Nat) (base : Nat) (ids : aIds) (D : va_G) (h : aHp) (H : Heap) : Prop := (H.size = base + aN h ∧ aN h ≤ 950000) ∧ va_P D aCls (aW ad base ids h) H
section ARel
variable {ad : Nat → Nat} {base : Nat} {ids : aIds} {D : va_G} {h h' : aHp} {H : Heap} {i k : Nat}
theorem aFv_at {ci : Nat} (hk : k < aNf ci) : (aFv ad h i ci)[k]? = some (aVl ad (aF ci k).2.2.2 h i k) := by
  simp [aFv, hk]
theorem aFv_len {ci : Nat} : (aFv ad h i ci).length = aNf ci := by simp [aFv]
theorem aFv_set {ci : Nat} (v : Value) (hk : k < aNf ci) (hv : aVl ad (aF ci k).2.2.2 h' i k = v) (ho : ∀ j, j < aNf ci → j ≠ k → aVl ad (aF ci j).2.2.2 h' i j = aVl ad (aF ci j).2.2.2 h i j) : (aFv ad h i ci).set k v = aFv ad h' i ci := by
  apply List.ext_getElem?
  intro j
  by_cases hj : j < aNf ci
  · rw [aFv_at hj]
    by_cases hjk : k = j
    · subst hjk
      rw [List.getElem?_set_self (by rw [aFv_len]; exact hk), hv]
    · rw [List.getElem?_set_ne hjk, aFv_at hj, ho j hj (fun e => hjk e.symm)]
  · rw [List.getElem?_eq_none (by rw [List.length_set, aFv_len]; omega), List.getElem?_eq_none (by rw [aFv_len]; omega)]
theorem aW_at (hi : i < aN h) : (aW ad base ids h)[i]? = some (base + i, aEn ad ids h i) := by simp [aW, hi]
theorem aW_len : (aW ad base ids h).length = aN h := by simp [aW]
theorem aW_inv {q : Nat × va_E} (hq : (aW ad base ids h)[i]? = some q) : i < aN h ∧ q = (base + i, aEn ad ids h i) := by
  have hl := (List.getElem?_eq_some_iff.mp hq).1
  rw [aW_len] at hl
  rw [aW_at hl] at hq
  exact ⟨hl, (Option.some.inj hq).symm⟩
theorem aW_set (x : va_E) (hi : i < aN h) (hn : aN h' = aN h) (hx : aEn ad ids h' i = x) (ho : ∀ j, j < aN h → j ≠ i → aEn ad ids h' j = aEn ad ids h j) : (aW ad base ids h).set i (base + i, x) = aW ad base ids h' := by
  apply List.ext_getElem?
  intro j
  by_cases hj : j < aN h
  · rw [aW_at (by rw [hn]; exact hj)]
    by_cases hji : i = j
    · subst hji
      rw [List.getElem?_set_self (by rw [aW_len]; exact hi), hx]
    · rw [List.getElem?_set_ne hji, aW_at hj, ho j hj (fun e => hji e.symm)]
  · rw [List.getElem?_eq_none (by rw [List.length_set, aW_len]; omega), List.getElem?_eq_none (by rw [aW_len, hn]; omega)]
theorem aW_push (x : va_E) (hn : aN h' = aN h + 1) (hx : aEn ad ids h' (aN h) = x) (ho : ∀ j, j < aN h → aEn ad ids h' j = aEn ad ids h j) : aW ad base ids h ++ [(base + aN h, x)] = aW ad base ids h' := by
  apply List.ext_getElem?
  intro j
  by_cases hj : j < aN h
  · rw [List.getElem?_append_left (by rw [aW_len]; exact hj), aW_at hj, aW_at (by rw [hn]; omega), ho j hj]
  · by_cases hj2 : j = aN h
    · subst hj2
      rw [List.getElem?_append_right (by rw [aW_len]; omega), aW_len, aW_at (by rw [hn]; omega), hx]
      simp
    · rw [List.getElem?_eq_none (by simp [aW_len]; omega), List.getElem?_eq_none (by rw [aW_len, hn]; omega)]
theorem aW_D : va_D (fun q => base ≤ q) (aW ad base ids h) := by
  refine ⟨fun i j p q hp hq e => ?_, fun k q hk => ?_⟩
  · obtain ⟨-, rfl⟩ := aW_inv hp
    obtain ⟨-, rfl⟩ := aW_inv hq
    have e' : base + i = base + j := e
    omega
  · obtain ⟨-, rfl⟩ := aW_inv hk
    exact Nat.le_add_right _ _
theorem aBq {a b : Nat} (h : ¬ a = b) : Nat.beq a b = false := by
  cases e : Nat.beq a b
  · rfl
  · exact absurd (Nat.eq_of_beq_eq_true e) h
theorem aU_at {α : Type} (f : Nat → Nat → α) (a k : Nat) (x : α) : aU f a k x a k = x := by simp [aU]
theorem aU_row {α : Type} (f : Nat → Nat → α) (a k : Nat) (x : α) {b : Nat} (hb : b ≠ a) : aU f a k x b = f b := by
  funext j
  simp [aU, aBq hb]
theorem aU_col {α : Type} (f : Nat → Nat → α) (a k : Nat) (x : α) {b j : Nat} (hj : j ≠ k) : aU f a k x b j = f b j := by simp [aU, aBq hj]
theorem aRow_at {α : Type} (f : Nat → α) (a : Nat) (x : α) : aRow f a x a = x := by simp [aRow]
theorem aRow_ne {α : Type} (f : Nat → α) (a : Nat) (x : α) {b : Nat} (hb : b ≠ a) : aRow f a x b = f b := by simp [aRow, aBq hb]
theorem aU_updI (f : Nat → Nat → Int32) (a k : Nat) (x : Int32) : aU f a k x a = upd (f a) k x := by
  funext j
  by_cases hj : j = k
  · simp [aU, upd, hj]
  · simp [aU, upd, hj, aBq hj]
theorem aU_updL (f : Nat → Nat → Int64) (a k : Nat) (x : Int64) : aU f a k x a = vp_updL (f a) k x := by
  funext j
  by_cases hj : j = k
  · simp [aU, vp_updL, hj]
  · simp [aU, vp_updL, hj, aBq hj]
theorem aU_updR (f : Nat → Nat → Option Nat) (a k : Nat) (x : Option Nat) : (fun j => (aU f a k x a j).map ad) = va_up (fun j => (f a j).map ad) k (x.map ad) := by
  funext j
  by_cases hj : j = k
  · subst hj
    rw [va_up_self]
    simp [aU]
  · rw [va_up_ne _ _ hj]
    simp [aU, aBq hj]
/-- what a change of one cell leaves -/
theorem aEn_same (hk : aK h' i = aK h i) (hl : aL h' i = aL h i) (hI : aI h' i = aI h i) (hJ : aJ h' i = aJ h i) (hR : aR h' i = aR h i) : aEn ad ids h' i = aEn ad ids h i := by
  have e : ∀ ci, aFv ad h' i ci = aFv ad h i ci := by
    intro ci
    simp only [aFv]
    congr 1
    funext k
    simp only [aVl, hI, hJ, hR]
  simp only [aEn, hk, hl, hI, hJ, hR, e]
end ARel
