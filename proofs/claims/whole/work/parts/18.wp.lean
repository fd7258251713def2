/-! ===== walking the abstract machine ===== -/
def aAtI (m pc : Nat) : Option (Nat × Instr × aLk) := match aMs m with
  | none => none
  | some md => match aFind md.2.2.2.2.2 pc with
    | none => none
    | some e => some (md.2.2.2.2.1, e.1, e.2.2)
def Wp (d m pc : Nat) (l : List (Option Value)) (st : List Value) (h : aHp) (Q : Option Value → aHp → Prop) : Prop := ∃ (n : Nat) (v : Option Value) (h' : aHp), aRun aMs aSS n d m pc l st h = some (v, h') ∧ Q v h'
/-- so many instructions, each of which goes on -/
def aSeg (d m : Nat) : Nat → Nat → List (Option Value) → List Value → aHp → Option (Nat × List (Option Value) × List Value × aHp)
  | 0, pc, l, st, h => some (pc, l, st, h)
  | k + 1, pc, l, st, h => match aAtI m pc with
    | none => none
    | some e => match aExec aSS e.1 d pc e.2.1 e.2.2 l st h with
      | some (.inl q) => aSeg d m k q.1 q.2.1 q.2.2.1 q.2.2.2
      | _ => none
section AWp
variable {d m pc : Nat} {l : List (Option Value)} {st : List Value} {h : aHp} {Q : Option Value → aHp → Prop}
theorem aRun_1 {n : Nat} {rt : Nat} {ins : Instr} {lk : aLk} {q : Nat × List (Option Value) × List Value × aHp} (hi : aAtI m pc = some (rt, ins, lk)) (hE : aExec aSS rt d pc ins lk l st h = some (.inl q)) : aRun aMs aSS (n + 1) d m pc l st h = aRun aMs aSS n d m q.1 q.2.1 q.2.2.1 q.2.2.2 := by
  unfold aAtI at hi
  split at hi
  · cases hi
  · rename_i md hmd
    split at hi
    · cases hi
    · rename_i e he
      cases hi
      rw [aRun, hmd]
      dsimp only
      rw [he]
      dsimp only
      rw [hE]
theorem w_go {rt : Nat} {ins : Instr} {lk : aLk} {q : Nat × List (Option Value) × List Value × aHp} (hi : aAtI m pc = some (rt, ins, lk)) (hE : aExec aSS rt d pc ins lk l st h = some (.inl q)) (K : Wp d m q.1 q.2.1 q.2.2.1 q.2.2.2 Q) : Wp d m pc l st h Q := by
  obtain ⟨n, v, h', h1, h2⟩ := K
  exact ⟨n + 1, v, h', by rw [aRun_1 hi hE]; exact h1, h2⟩
theorem w_seg : ∀ (k : Nat) {pc : Nat} {l : List (Option Value)} {st : List Value} {h : aHp} {pc' : Nat} {l' : List (Option Value)} {st' : List Value} {h' : aHp}, aSeg d m k pc l st h = some (pc', l', st', h') → Wp d m pc' l' st' h' Q → Wp d m pc l st h Q := by
  intro k
  induction k with
  | zero =>
    intro pc l st h pc' l' st' h' e K
    cases e
    exact K
  | succ k ih =>
    intro pc l st h pc' l' st' h' e K
    unfold aSeg at e
    split at e
    · cases e
    · rename_i en hen
      split at e
      · rename_i q hq
        exact w_go (rt := en.1) (ins := en.2.1) (lk := en.2.2) hen hq (ih e K)
      · cases e
end AWp
/-! ===== more fuel, more depth ===== -/
theorem aExec_d {ss : List (List Int32)} {rt d d' pc : Nat} {ins : Instr} {lk : aLk} {l : List (Option Value)} {st : List Value} {h : aHp} {r : aRes} (hd : d ≤ d') (hE : aExec ss rt d pc ins lk l st h = some r) : aExec ss rt d' pc ins lk l st h = some r := by
  have key : ∀ {x y : Bool} {t : Option aRes}, (bif x && Nat.ble 5 d && y then t else none) = some r → (bif x && Nat.ble 5 d' && y then t else none) = some r := by
    intro x y t h1
    cases h5 : Nat.ble 5 d with
    | false => rw [h5] at h1; simp at h1
    | true =>
      have h6 : Nat.ble 5 d' = true := Nat.ble_eq_true_of_le (Nat.le_trans (Nat.le_of_ble_eq_true h5) hd)
      rw [h5] at h1
      rw [h6]
      exact h1
  have key0 : ∀ {y : Bool} {t : Option aRes}, (bif Nat.ble 5 d && y then t else none) = some r → (bif Nat.ble 5 d' && y then t else none) = some r := by
    intro y t h1
    have := key (x := true) (y := y) (t := t) (by simpa using h1)
    simpa using this
  cases ins
  case invokevirtual ix =>
    have hE : (match lk.2.2 with
      | 1 => aSlen ss d pc l st h
      | 2 => aSat ss d pc l st h
      | _ => aCall lk.2.1 lk.1 st) = some r := hE
    show (match lk.2.2 with
      | 1 => aSlen ss d' pc l st h
      | 2 => aSat ss d' pc l st h
      | _ => aCall lk.2.1 lk.1 st) = some r
    split at hE
    · unfold aSlen at hE ⊢
      split at hE
      · exact key hE
      · cases hE
    · unfold aSat at hE ⊢
      split at hE
      · exact key hE
      · cases hE
    · exact hE
  case invokespecial ix =>
    have hE : (match lk.2.2 with
      | 4 => aInit d pc l st h
      | _ => aCall lk.2.1 lk.1 st) = some r := hE
    show (match lk.2.2 with
      | 4 => aInit d' pc l st h
      | _ => aCall lk.2.1 lk.1 st) = some r
    split at hE
    · unfold aInit at hE ⊢
      split at hE
      · exact key0 hE
      · cases hE
    · exact hE
  case invokestatic ix =>
    have hE : (match lk.2.2 with
      | 3 => aCopy d pc l st h
      | _ => aCall lk.2.1 lk.1 st) = some r := hE
    show (match lk.2.2 with
      | 3 => aCopy d' pc l st h
      | _ => aCall lk.2.1 lk.1 st) = some r
    split at hE
    · unfold aCopy at hE ⊢
      split at hE
      · exact key hE
      · cases hE
    · exact hE
  case ifCond cnd off => cases cnd <;> exact hE
  case if_icmp cnd off => cases cnd <;> exact hE
  case newarray t => cases t <;> exact hE
  all_goals exact hE
theorem aRun_up {ms : Nat → Option aMd} {ss : List (List Int32)} : ∀ (n : Nat) {n' d d' m pc : Nat} {l : List (Option Value)} {st : List Value} {h : aHp} {r : Option Value × aHp}, n ≤ n' → d ≤ d' → aRun ms ss n d m pc l st h = some r → aRun ms ss n' d' m pc l st h = some r := by
  intro n
  induction n with
  | zero => intro n' d d' m pc l st h r _ _ hr; cases hr
  | succ n ih =>
    intro n' d d' m pc l st h r hn hd hr
    obtain ⟨k, rfl⟩ : ∃ k, n' = k + 1 := ⟨n' - 1, by omega⟩
    have hk : n ≤ k := by omega
    unfold aRun at hr ⊢
    split at hr
    · cases hr
    rename_i md hmd
    try rw [hmd]
    try dsimp only
    split at hr
    · cases hr
    rename_i e he
    try rw [he]
    try dsimp only
    split at hr
    · cases hr
    · rename_i q hE
      rw [aExec_d hd hE]
      exact ih hk hd hr
    · rename_i v hE
      rw [aExec_d hd hE]
      exact hr
    · rename_i q hE
      rw [aExec_d hd hE]
      try dsimp only
      split at hr
      · cases hr
      rename_i d0
      obtain ⟨d1, rfl⟩ : ∃ d1, d' = d1 + 1 := ⟨d' - 1, by omega⟩
      try dsimp only
      split at hr
      · cases hr
      rename_i mq hmq
      try rw [hmq]
      try dsimp only
      cases hc : Nat.ble (aLoc q.2.1).length mq.2.2.2.1 && aRcv e.1 mq.1 h q.2.1 with
      | false => rw [hc, cond_false] at hr; cases hr
      | true =>
        rw [hc, cond_true] at hr
        rw [cond_true]
        split at hr
        · cases hr
        rename_i v1 h1 hcall
        rw [ih hk (by omega) hcall]
        exact ih hk hd hr
section AWq
variable {d m pc : Nat} {l : List (Option Value)} {st r : List Value} {h : aHp} {Q : Option Value → aHp → Prop} {rt : Nat} {ins : Instr} {lk : aLk}
theorem w_up {d' : Nat} (hd : d ≤ d') (K : Wp d m pc l st h Q) : Wp d' m pc l st h Q := by
  obtain ⟨n, v, h', h1, h2⟩ := K
  exact ⟨n, v, h', aRun_up n (Nat.le_refl _) hd h1, h2⟩
theorem w_if {c : Prop} [Decidable c] {t : Nat} (hi : aAtI m pc = some (rt, ins, lk)) (hE : aExec aSS rt d pc ins lk l st h = if c then aGo t l r h else aGo (pc + 3) l r h) (kt : c → Wp d m t l r h Q) (kf : ¬ c → Wp d m (pc + 3) l r h Q) : Wp d m pc l st h Q := by
  by_cases hc : c
  · exact w_go (q := (t, l, r, h)) hi (by rw [hE, if_pos hc]; rfl) (kt hc)
  · exact w_go (q := (pc + 3, l, r, h)) hi (by rw [hE, if_neg hc]; rfl) (kf hc)
/-- an instruction with a condition under which it can't go on -/
theorem w_nb {c : Prop} [Decidable c] {q : Nat × List (Option Value) × List Value × aHp} (hi : aAtI m pc = some (rt, ins, lk)) (hE : aExec aSS rt d pc ins lk l st h = if c then none else some (.inl q)) (hc : ¬ c) (K : Wp d m q.1 q.2.1 q.2.2.1 q.2.2.2 Q) : Wp d m pc l st h Q :=
  w_go hi (by rw [hE, if_neg hc]) K
theorem aGrd {x y : Bool} {α : Type} {t : Option α} (hx : x = true) (hy : y = true) : (bif x && y then t else none) = t := by rw [hx, hy]; rfl
theorem aInH {a : Nat} (ha : a < aN h) : aInHp h a = true := aBltT ha
theorem aKb {x y : Nat} (hk : x = y) : Nat.beq x y = true := by rw [hk]; exact Nat.beq_refl y
theorem w_fld {a ci k : Nat} {ty : Int} {q : Nat × List (Option Value) × List Value × aHp} {ix : Nat} (hi : aAtI m pc = some (rt, .getfield ix, (ci, k, ty))) (ha : a < aN h) (hk : aK h a = ci) (hE : (match ty with
    | 0 => aGo (pc + 3) l (.int (aI h a k) :: r) h
    | 1 => aGo (pc + 3) l (.int (aI h a k) :: r) h
    | 2 => aGo (pc + 3) l (.long (aJ h a k) :: r) h
    | 3 => aGo (pc + 3) l (va_rf (aR h a k) :: r) h
    | _ => none) = some (.inl q)) (K : Wp d m q.1 q.2.1 q.2.2.1 q.2.2.2 Q) : Wp d m pc l (.ref a :: r) h Q := by
  refine w_go hi ?_ K
  show aFld ty pc ci k l (.ref a :: r) h = _
  unfold aFld
  rw [← hE]
  exact aGrd (aInH ha) (aKb hk)
theorem w_fldI {a ci k ix : Nat} {ty : Int} (hi : aAtI m pc = some (rt, .getfield ix, (ci, k, ty))) (hty : ty = 0 ∨ ty = 1) (ha : a < aN h) (hk : aK h a = ci) (K : Wp d m (pc + 3) l (.int (aI h a k) :: r) h Q) : Wp d m pc l (.ref a :: r) h Q := by
  rcases hty with rfl | rfl
  · exact w_fld (q := (pc + 3, l, .int (aI h a k) :: r, h)) hi ha hk rfl K
  · exact w_fld (q := (pc + 3, l, .int (aI h a k) :: r, h)) hi ha hk rfl K
theorem w_fldJ {a ci k ix : Nat} (hi : aAtI m pc = some (rt, .getfield ix, (ci, k, 2))) (ha : a < aN h) (hk : aK h a = ci) (K : Wp d m (pc + 3) l (.long (aJ h a k) :: r) h Q) : Wp d m pc l (.ref a :: r) h Q :=
  w_fld (q := (pc + 3, l, .long (aJ h a k) :: r, h)) hi ha hk rfl K
theorem w_fldR {a ci k ix x : Nat} (hi : aAtI m pc = some (rt, .getfield ix, (ci, k, 3))) (ha : a < aN h) (hk : aK h a = ci) (hx : aR h a k = some x) (K : Wp d m (pc + 3) l (.ref x :: r) h Q) : Wp d m pc l (.ref a :: r) h Q := by
  refine w_fld (q := (pc + 3, l, .ref x :: r, h)) hi ha hk ?_ K
  show aGo (pc + 3) l (va_rf (aR h a k) :: r) h = _
  rw [hx]
  rfl
theorem w_putI {a ci k ix : Nat} {x : Int32} (hi : aAtI m pc = some (rt, .putfield ix, (ci, k, 0))) (ha : a < aN h) (hk : aK h a = ci) (K : Wp d m (pc + 3) l r (aSetI h (aU (aI h) a k x)) Q) : Wp d m pc l (.int x :: .ref a :: r) h Q := by
  refine w_go (q := (pc + 3, l, r, aSetI h (aU (aI h) a k x))) hi ?_ K
  show aPut 0 pc ci k l (.int x :: .ref a :: r) h = _
  unfold aPut
  exact aGrd (aInH ha) (aKb hk)
theorem w_putZ {a ci k ix : Nat} {x : Int32} (hi : aAtI m pc = some (rt, .putfield ix, (ci, k, 1))) (ha : a < aN h) (hk : aK h a = ci) (hx : x = 0 ∨ x = 1) (K : Wp d m (pc + 3) l r (aSetI h (aU (aI h) a k x)) Q) : Wp d m pc l (.int x :: .ref a :: r) h Q := by
  refine w_go (q := (pc + 3, l, r, aSetI h (aU (aI h) a k x))) hi ?_ K
  show aPut 1 pc ci k l (.int x :: .ref a :: r) h = _
  unfold aPut
  refine (aGrd (aInH ha) (aKb hk)).trans ?_
  show (if x = 0 ∨ x = 1 then aGo (pc + 3) l r (aSetI h (aU (aI h) a k x)) else none) = _
  rw [if_pos hx]
  rfl
theorem w_putJ {a ci k ix : Nat} {x : Int64} (hi : aAtI m pc = some (rt, .putfield ix, (ci, k, 2))) (ha : a < aN h) (hk : aK h a = ci) (K : Wp d m (pc + 3) l r (aSetJ h (aU (aJ h) a k x)) Q) : Wp d m pc l (.long x :: .ref a :: r) h Q := by
  refine w_go (q := (pc + 3, l, r, aSetJ h (aU (aJ h) a k x))) hi ?_ K
  show aPut 2 pc ci k l (.long x :: .ref a :: r) h = _
  unfold aPut
  exact aGrd (aInH ha) (aKb hk)
theorem w_putR {a ci k ix x : Nat} (hi : aAtI m pc = some (rt, .putfield ix, (ci, k, 3))) (ha : a < aN h) (hk : aK h a = ci) (K : Wp d m (pc + 3) l r (aSetR h (aU (aR h) a k (some x))) Q) : Wp d m pc l (.ref x :: .ref a :: r) h Q := by
  refine w_go (q := (pc + 3, l, r, aSetR h (aU (aR h) a k (some x)))) hi ?_ K
  show aPut 3 pc ci k l (.ref x :: .ref a :: r) h = _
  unfold aPut
  exact aGrd (aInH ha) (aKb hk)
theorem aNx {a : Nat} (ha : a < aN h) (hn : aN h ≤ 950000) : Nat.beq a aXa = false := aBq (fun e => by rw [e] at ha; unfold aXa at ha; omega)
theorem w_iald {a : Nat} {i : Int32} (hi : aAtI m pc = some (rt, .iaload, lk)) (hn : aN h ≤ 950000) (ha : a < aN h) (hk : aK h a = 100) (hin : ¬ (i < 0 ∨ aL h a ≤ i.toNatClampNeg)) (K : Wp d m (pc + 1) l (.int (aI h a i.toNatClampNeg) :: r) h Q) : Wp d m pc l (.int i :: .ref a :: r) h Q := by
  refine w_go (q := (pc + 1, l, .int (aI h a i.toNatClampNeg) :: r, h)) hi ?_ K
  show aIald pc l (.int i :: .ref a :: r) h = _
  unfold aIald
  show (bif Nat.beq a aXa then _ else _) = _
  rw [aNx ha hn, cond_false, aGrd (aInH ha) (aKb hk), if_neg hin]
  rfl
theorem w_ixld {i : Int32} (hi : aAtI m pc = some (rt, .iaload, lk)) (hin : ¬ (i < 0 ∨ aXn h ≤ i.toNatClampNeg)) (K : Wp d m (pc + 1) l (.int (aX h i.toNatClampNeg) :: r) h Q) : Wp d m pc l (.int i :: .ref aXa :: r) h Q := by
  refine w_go (q := (pc + 1, l, .int (aX h i.toNatClampNeg) :: r, h)) hi ?_ K
  show aIald pc l (.int i :: .ref aXa :: r) h = _
  unfold aIald
  show (if i < 0 ∨ aXn h ≤ i.toNatClampNeg then none else aGo (pc + 1) l (.int (aX h i.toNatClampNeg) :: r) h) = _
  rw [if_neg hin]
  rfl
theorem w_cald {a : Nat} {i : Int32} (hi : aAtI m pc = some (rt, .caload, lk)) (ha : a < aN h) (hk : aK h a = 101) (hin : ¬ (i < 0 ∨ aL h a ≤ i.toNatClampNeg)) (K : Wp d m (pc + 1) l (.int (aI h a i.toNatClampNeg) :: r) h Q) : Wp d m pc l (.int i :: .ref a :: r) h Q := by
  refine w_go (q := (pc + 1, l, .int (aI h a i.toNatClampNeg) :: r, h)) hi ?_ K
  show aCald pc l (.int i :: .ref a :: r) h = _
  unfold aCald
  exact (aGrd (aInH ha) (aKb hk)).trans (if_neg hin)
theorem w_lald {a : Nat} {i : Int32} (hi : aAtI m pc = some (rt, .laload, lk)) (ha : a < aN h) (hk : aK h a = 102) (hin : ¬ (i < 0 ∨ aL h a ≤ i.toNatClampNeg)) (K : Wp d m (pc + 1) l (.long (aJ h a i.toNatClampNeg) :: r) h Q) : Wp d m pc l (.int i :: .ref a :: r) h Q := by
  refine w_go (q := (pc + 1, l, .long (aJ h a i.toNatClampNeg) :: r, h)) hi ?_ K
  show aLald pc l (.int i :: .ref a :: r) h = _
  unfold aLald
  exact (aGrd (aInH ha) (aKb hk)).trans (if_neg hin)
theorem w_aald {a x : Nat} {i : Int32} (hi : aAtI m pc = some (rt, .aaload, lk)) (ha : a < aN h) (hk : aK h a = 103) (hin : ¬ (i < 0 ∨ aL h a ≤ i.toNatClampNeg)) (hx : aR h a i.toNatClampNeg = some x) (K : Wp d m (pc + 1) l (.ref x :: r) h Q) : Wp d m pc l (.int i :: .ref a :: r) h Q := by
  refine w_go (q := (pc + 1, l, .ref x :: r, h)) hi ?_ K
  show aAald pc l (.int i :: .ref a :: r) h = _
  unfold aAald
  refine ((aGrd (aInH ha) (aKb hk)).trans (if_neg hin)).trans ?_
  rw [hx]
  rfl
theorem w_iast {a : Nat} {i x : Int32} (hi : aAtI m pc = some (rt, .iastore, lk)) (ha : a < aN h) (hk : aK h a = 100) (hin : ¬ (i < 0 ∨ aL h a ≤ i.toNatClampNeg)) (K : Wp d m (pc + 1) l r (aSetI h (aU (aI h) a i.toNatClampNeg x)) Q) : Wp d m pc l (.int x :: .int i :: .ref a :: r) h Q := by
  refine w_go (q := (pc + 1, l, r, aSetI h (aU (aI h) a i.toNatClampNeg x))) hi ?_ K
  show aIast pc l (.int x :: .int i :: .ref a :: r) h = _
  unfold aIast
  exact (aGrd (aInH ha) (aKb hk)).trans (if_neg hin)
theorem w_last {a : Nat} {i : Int32} {x : Int64} (hi : aAtI m pc = some (rt, .lastore, lk)) (ha : a < aN h) (hk : aK h a = 102) (hin : ¬ (i < 0 ∨ aL h a ≤ i.toNatClampNeg)) (K : Wp d m (pc + 1) l r (aSetJ h (aU (aJ h) a i.toNatClampNeg x)) Q) : Wp d m pc l (.long x :: .int i :: .ref a :: r) h Q := by
  refine w_go (q := (pc + 1, l, r, aSetJ h (aU (aJ h) a i.toNatClampNeg x))) hi ?_ K
  show aLast pc l (.long x :: .int i :: .ref a :: r) h = _
  unfold aLast
  exact (aGrd (aInH ha) (aKb hk)).trans (if_neg hin)
theorem w_alen {a : Nat} (hi : aAtI m pc = some (rt, .arraylength, lk)) (hn : aN h ≤ 950000) (ha : a < aN h) (h1 : 100 ≤ aK h a) (h2 : aK h a ≤ 103) (K : Wp d m (pc + 1) l (.int (Int32.ofNat (aL h a)) :: r) h Q) : Wp d m pc l (.ref a :: r) h Q := by
  refine w_go (q := (pc + 1, l, .int (Int32.ofNat (aL h a)) :: r, h)) hi ?_ K
  show aAlen pc l (.ref a :: r) h = _
  unfold aAlen
  show (bif Nat.beq a aXa then _ else _) = _
  rw [aNx ha hn, cond_false, aInH ha, Nat.ble_eq_true_of_le h1, Nat.ble_eq_true_of_le h2]
  rfl
theorem w_div {x y : Int32} {f : Int32 → Int32 → Int32} (hi : aAtI m pc = some (rt, ins, lk)) (hE : aExec aSS rt d pc ins lk l (.int y :: .int x :: r) h = if y = 0 then none else aGo (pc + 1) l (.int (f x y) :: r) h) (hy : ¬ y = 0) (K : Wp d m (pc + 1) l (.int (f x y) :: r) h Q) : Wp d m pc l (.int y :: .int x :: r) h Q :=
  w_go (q := (pc + 1, l, .int (f x y) :: r, h)) hi (by rw [hE, if_neg hy]; rfl) K
theorem w_divJ {x y : Int64} {f : Int64 → Int64 → Int64} (hi : aAtI m pc = some (rt, ins, lk)) (hE : aExec aSS rt d pc ins lk l (.long y :: .long x :: r) h = if y = 0 then none else aGo (pc + 1) l (.long (f x y) :: r) h) (hy : ¬ y = 0) (K : Wp d m (pc + 1) l (.long (f x y) :: r) h Q) : Wp d m pc l (.long y :: .long x :: r) h Q :=
  w_go (q := (pc + 1, l, .long (f x y) :: r, h)) hi (by rw [hE, if_neg hy]; rfl) K
theorem w_ret {v : Option Value} (hi : aAtI m pc = some (rt, ins, lk)) (hE : aExec aSS rt d pc ins lk l st h = some (.inr (.inl v))) (hQ : Q v h) : Wp d m pc l st h Q := by
  unfold aAtI at hi
  split at hi
  · cases hi
  · rename_i md hmd
    split at hi
    · cases hi
    · rename_i e he
      cases hi
      refine ⟨1, v, h, ?_, hQ⟩
      rw [aRun, hmd]
      dsimp only
      rw [he]
      dsimp only
      rw [hE]
theorem w_call {m' : Nat} {as rr : List Value} {mq : aMd} {v1 : Option Value} {h1 : aHp} {l' : List (Option Value)} (hi : aAtI m pc = some (rt, ins, lk)) (hE : aExec aSS rt (d + 1) pc ins lk l st h = some (.inr (.inr (m', as, rr)))) (hm : aMs m' = some mq) (hl : Nat.ble (aLoc as).length mq.2.2.2.1 = true) (hr : aRcv ins mq.1 h as = true) (he : aEnter mq.2.2.2.1 as = l') (C : Wp d m' 0 l' [] h (fun v h' => v = v1 ∧ h' = h1)) (K : Wp (d + 1) m (pc + 3) l (v1.toList ++ rr) h1 Q) : Wp (d + 1) m pc l st h Q := by
  subst he
  unfold aAtI at hi
  split at hi
  · cases hi
  · rename_i md hmd
    split at hi
    · cases hi
    · rename_i e hfe
      cases hi
      obtain ⟨n1, v, h', c1, rfl, rfl⟩ := C
      obtain ⟨n2, v2, h2, c2, c3⟩ := K
      refine ⟨(n1 + n2) + 1, v2, h2, ?_, c3⟩
      rw [aRun, hmd]
      dsimp only
      rw [hfe]
      dsimp only
      rw [hE]
      dsimp only
      rw [hm]
      dsimp only
      rw [hl, hr]
      show (match aRun aMs aSS (n1 + n2) d m' 0 (aEnter mq.2.2.2.1 as) [] h with
        | none => none
        | some (v, h') => aRun aMs aSS (n1 + n2) (d + 1) m (pc + 3) l (v.toList ++ rr) h') = _
      rw [aRun_up n1 (by omega) (Nat.le_refl _) c1]
      exact aRun_up n2 (by omega) (Nat.le_refl _) c2
theorem w_imp {Q' : Option Value → aHp → Prop} (K : Wp d m pc l st h Q) (hQ : ∀ v h', Q v h' → Q' v h') : Wp d m pc l st h Q' := by
  obtain ⟨n, v, h', h1, h2⟩ := K
  exact ⟨n, v, h', h1, hQ v h' h2⟩
end AWq
