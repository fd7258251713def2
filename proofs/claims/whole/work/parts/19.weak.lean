/-! ===== fewer known locals will do ===== -/
def lLe (a b : List (Option Value)) : Prop := a.length = b.length ∧ ∀ (i : Nat) (v : Value), a[i]? = some (some v) → b[i]? = some (some v)
def aMapL (b : List (Option Value)) (r : aRes) : aRes := match r with
  | .inl q => .inl (q.1, b, q.2.2)
  | .inr x => .inr x
section AWeak
variable {pc i : Nat} {a b : List (Option Value)} {st : List Value} {h : aHp} {r : aRes}
theorem mGo {st' : List Value} {h' : aHp} (hE : aGo pc a st' h' = some r) : aGo pc b st' h' = some (aMapL b r) := by
  cases hE
  rfl
theorem p_Op2I {f : Int32 → Int32 → Int32} (hE : aOp2I f pc a st h = some r) : aOp2I f pc b st h = some (aMapL b r) := by
  unfold aOp2I at hE ⊢
  try simp only [Bool.cond_eq_ite] at hE ⊢
  repeat' split at hE
  all_goals first | (cases hE; done) | (simp only [*, if_true, if_false, ite_true, ite_false, reduceIte]; exact mGo hE) | exact mGo hE | (simp_all; exact mGo hE)
theorem p_Op2J {f : Int64 → Int64 → Int64} (hE : aOp2J f pc a st h = some r) : aOp2J f pc b st h = some (aMapL b r) := by
  unfold aOp2J at hE ⊢
  try simp only [Bool.cond_eq_ite] at hE ⊢
  repeat' split at hE
  all_goals first | (cases hE; done) | (simp only [*, if_true, if_false, ite_true, ite_false, reduceIte]; exact mGo hE) | exact mGo hE | (simp_all; exact mGo hE)
theorem p_DivI {f : Int32 → Int32 → Int32} (hE : aDivI f pc a st h = some r) : aDivI f pc b st h = some (aMapL b r) := by
  unfold aDivI at hE ⊢
  try simp only [Bool.cond_eq_ite] at hE ⊢
  repeat' split at hE
  all_goals first | (cases hE; done) | (simp only [*, if_true, if_false, ite_true, ite_false, reduceIte]; exact mGo hE) | exact mGo hE | (simp_all; exact mGo hE)
theorem p_DivJ {f : Int64 → Int64 → Int64} (hE : aDivJ f pc a st h = some r) : aDivJ f pc b st h = some (aMapL b r) := by
  unfold aDivJ at hE ⊢
  try simp only [Bool.cond_eq_ite] at hE ⊢
  repeat' split at hE
  all_goals first | (cases hE; done) | (simp only [*, if_true, if_false, ite_true, ite_false, reduceIte]; exact mGo hE) | exact mGo hE | (simp_all; exact mGo hE)
theorem p_If1 {c : Int32 → Prop} [DecidablePred c] (hE : aIf1 c pc i a st h = some r) : aIf1 c pc i b st h = some (aMapL b r) := by
  unfold aIf1 at hE ⊢
  try simp only [Bool.cond_eq_ite] at hE ⊢
  repeat' split at hE
  all_goals first | (cases hE; done) | (simp only [*, if_true, if_false, ite_true, ite_false, reduceIte]; exact mGo hE) | exact mGo hE | (simp_all; exact mGo hE)
theorem p_If2 {c : Int32 → Int32 → Prop} [∀ x y, Decidable (c x y)] (hE : aIf2 c pc i a st h = some r) : aIf2 c pc i b st h = some (aMapL b r) := by
  unfold aIf2 at hE ⊢
  try simp only [Bool.cond_eq_ite] at hE ⊢
  repeat' split at hE
  all_goals first | (cases hE; done) | (simp only [*, if_true, if_false, ite_true, ite_false, reduceIte]; exact mGo hE) | exact mGo hE | (simp_all; exact mGo hE)
theorem p_Fld {ty : Int} {ci k : Nat} (hE : aFld ty pc ci k a st h = some r) : aFld ty pc ci k b st h = some (aMapL b r) := by
  unfold aFld at hE ⊢
  try simp only [Bool.cond_eq_ite] at hE ⊢
  repeat' split at hE
  all_goals first | (cases hE; done) | (simp only [*, if_true, if_false, ite_true, ite_false, reduceIte]; exact mGo hE) | exact mGo hE | (simp_all; exact mGo hE)
theorem p_Put {ty : Int} {ci k : Nat} (hE : aPut ty pc ci k a st h = some r) : aPut ty pc ci k b st h = some (aMapL b r) := by
  unfold aPut at hE ⊢
  try simp only [Bool.cond_eq_ite] at hE ⊢
  repeat' split at hE
  all_goals first | (cases hE; done) | (simp only [*, if_true, if_false, ite_true, ite_false, reduceIte]; exact mGo hE) | exact mGo hE | (simp_all; exact mGo hE)
theorem p_Iald (hE : aIald pc a st h = some r) : aIald pc b st h = some (aMapL b r) := by
  unfold aIald at hE ⊢
  try simp only [Bool.cond_eq_ite] at hE ⊢
  repeat' split at hE
  all_goals first | (cases hE; done) | (simp only [*, if_true, if_false, ite_true, ite_false, reduceIte]; exact mGo hE) | exact mGo hE | (simp_all; exact mGo hE)
theorem p_Cald (hE : aCald pc a st h = some r) : aCald pc b st h = some (aMapL b r) := by
  unfold aCald at hE ⊢
  try simp only [Bool.cond_eq_ite] at hE ⊢
  repeat' split at hE
  all_goals first | (cases hE; done) | (simp only [*, if_true, if_false, ite_true, ite_false, reduceIte]; exact mGo hE) | exact mGo hE | (simp_all; exact mGo hE)
theorem p_Lald (hE : aLald pc a st h = some r) : aLald pc b st h = some (aMapL b r) := by
  unfold aLald at hE ⊢
  try simp only [Bool.cond_eq_ite] at hE ⊢
  repeat' split at hE
  all_goals first | (cases hE; done) | (simp only [*, if_true, if_false, ite_true, ite_false, reduceIte]; exact mGo hE) | exact mGo hE | (simp_all; exact mGo hE)
theorem p_Aald (hE : aAald pc a st h = some r) : aAald pc b st h = some (aMapL b r) := by
  unfold aAald at hE ⊢
  try simp only [Bool.cond_eq_ite] at hE ⊢
  repeat' split at hE
  all_goals first | (cases hE; done) | (simp only [*, if_true, if_false, ite_true, ite_false, reduceIte]; exact mGo hE) | exact mGo hE | (simp_all; exact mGo hE)
theorem p_Iast (hE : aIast pc a st h = some r) : aIast pc b st h = some (aMapL b r) := by
  unfold aIast at hE ⊢
  try simp only [Bool.cond_eq_ite] at hE ⊢
  repeat' split at hE
  all_goals first | (cases hE; done) | (simp only [*, if_true, if_false, ite_true, ite_false, reduceIte]; exact mGo hE) | exact mGo hE | (simp_all; exact mGo hE)
theorem p_Cast (hE : aCast pc a st h = some r) : aCast pc b st h = some (aMapL b r) := by
  unfold aCast at hE ⊢
  try simp only [Bool.cond_eq_ite] at hE ⊢
  repeat' split at hE
  all_goals first | (cases hE; done) | (simp only [*, if_true, if_false, ite_true, ite_false, reduceIte]; exact mGo hE) | exact mGo hE | (simp_all; exact mGo hE)
theorem p_Last (hE : aLast pc a st h = some r) : aLast pc b st h = some (aMapL b r) := by
  unfold aLast at hE ⊢
  try simp only [Bool.cond_eq_ite] at hE ⊢
  repeat' split at hE
  all_goals first | (cases hE; done) | (simp only [*, if_true, if_false, ite_true, ite_false, reduceIte]; exact mGo hE) | exact mGo hE | (simp_all; exact mGo hE)
theorem p_Aast (hE : aAast pc a st h = some r) : aAast pc b st h = some (aMapL b r) := by
  unfold aAast at hE ⊢
  try simp only [Bool.cond_eq_ite] at hE ⊢
  repeat' split at hE
  all_goals first | (cases hE; done) | (simp only [*, if_true, if_false, ite_true, ite_false, reduceIte]; exact mGo hE) | exact mGo hE | (simp_all; exact mGo hE)
theorem p_Alen (hE : aAlen pc a st h = some r) : aAlen pc b st h = some (aMapL b r) := by
  unfold aAlen at hE ⊢
  try simp only [Bool.cond_eq_ite] at hE ⊢
  repeat' split at hE
  all_goals first | (cases hE; done) | (simp only [*, if_true, if_false, ite_true, ite_false, reduceIte]; exact mGo hE) | exact mGo hE | (simp_all; exact mGo hE)
theorem p_Newa {k y : Nat} (hE : aNewa k y pc a st h = some r) : aNewa k y pc b st h = some (aMapL b r) := by
  unfold aNewa at hE ⊢
  try simp only [Bool.cond_eq_ite] at hE ⊢
  repeat' split at hE
  all_goals first | (cases hE; done) | (simp only [*, if_true, if_false, ite_true, ite_false, reduceIte]; exact mGo hE) | exact mGo hE | (simp_all; exact mGo hE)
theorem p_Slen {ss : List (List Int32)} {d : Nat} (hE : aSlen ss d pc a st h = some r) : aSlen ss d pc b st h = some (aMapL b r) := by
  unfold aSlen at hE ⊢
  try simp only [Bool.cond_eq_ite] at hE ⊢
  repeat' split at hE
  all_goals first | (cases hE; done) | (simp only [*, if_true, if_false, ite_true, ite_false, reduceIte]; exact mGo hE) | exact mGo hE | (simp_all; exact mGo hE)
theorem p_Sat {ss : List (List Int32)} {d : Nat} (hE : aSat ss d pc a st h = some r) : aSat ss d pc b st h = some (aMapL b r) := by
  unfold aSat at hE ⊢
  try simp only [Bool.cond_eq_ite] at hE ⊢
  repeat' split at hE
  all_goals first | (cases hE; done) | (simp only [*, if_true, if_false, ite_true, ite_false, reduceIte]; exact mGo hE) | exact mGo hE | (simp_all; exact mGo hE)
theorem p_Copy {d : Nat} (hE : aCopy d pc a st h = some r) : aCopy d pc b st h = some (aMapL b r) := by
  unfold aCopy at hE ⊢
  try simp only [Bool.cond_eq_ite] at hE ⊢
  repeat' split at hE
  all_goals first | (cases hE; done) | (simp only [*, if_true, if_false, ite_true, ite_false, reduceIte]; exact mGo hE) | exact mGo hE | (simp_all; exact mGo hE)
theorem p_Init {d : Nat} (hE : aInit d pc a st h = some r) : aInit d pc b st h = some (aMapL b r) := by
  unfold aInit at hE ⊢
  try simp only [Bool.cond_eq_ite] at hE ⊢
  repeat' split at hE
  all_goals first | (cases hE; done) | (simp only [*, if_true, if_false, ite_true, ite_false, reduceIte]; exact mGo hE) | exact mGo hE | (simp_all; exact mGo hE)
theorem p_Sw {x y z : Int} {o : Array Int} (hE : aSw x y z o pc a st h = some r) : aSw x y z o pc b st h = some (aMapL b r) := by
  unfold aSw at hE ⊢
  try simp only [Bool.cond_eq_ite] at hE ⊢
  repeat' split at hE
  all_goals first | (cases hE; done) | (simp only [*, if_true, if_false, ite_true, ite_false, reduceIte]; exact mGo hE) | exact mGo hE | (simp_all; exact mGo hE)
theorem p_Pop1 (hE : aPop1 pc a st h = some r) : aPop1 pc b st h = some (aMapL b r) := by
  unfold aPop1 at hE ⊢
  try simp only [Bool.cond_eq_ite] at hE ⊢
  repeat' split at hE
  all_goals first | (cases hE; done) | (simp only [*, if_true, if_false, ite_true, ite_false, reduceIte]; exact mGo hE) | exact mGo hE | (simp_all; exact mGo hE)
theorem p_Dup (hE : aDup pc a st h = some r) : aDup pc b st h = some (aMapL b r) := by
  unfold aDup at hE ⊢
  try simp only [Bool.cond_eq_ite] at hE ⊢
  repeat' split at hE
  all_goals first | (cases hE; done) | (simp only [*, if_true, if_false, ite_true, ite_false, reduceIte]; exact mGo hE) | exact mGo hE | (simp_all; exact mGo hE)
theorem p_Dup2 (hE : aDup2 pc a st h = some r) : aDup2 pc b st h = some (aMapL b r) := by
  unfold aDup2 at hE ⊢
  try simp only [Bool.cond_eq_ite] at hE ⊢
  repeat' split at hE
  all_goals first | (cases hE; done) | (simp only [*, if_true, if_false, ite_true, ite_false, reduceIte]; exact mGo hE) | exact mGo hE | (simp_all; exact mGo hE)
theorem p_Nul {t f : Nat} (hE : aNul t f a st h = some r) : aNul t f b st h = some (aMapL b r) := by
  unfold aNul at hE ⊢
  try simp only [Bool.cond_eq_ite] at hE ⊢
  repeat' split at hE
  all_goals first | (cases hE; done) | (simp only [*, if_true, if_false, ite_true, ite_false, reduceIte]; exact mGo hE) | exact mGo hE | (simp_all; exact mGo hE)
theorem p_Obj {ci nf : Nat} (hE : aObj ci nf pc a st h = some r) : aObj ci nf pc b st h = some (aMapL b r) := by
  unfold aObj at hE ⊢
  try simp only [Bool.cond_eq_ite] at hE ⊢
  repeat' split at hE
  all_goals first | (cases hE; done) | (simp only [*, if_true, if_false, ite_true, ite_false, reduceIte]; exact mGo hE) | exact mGo hE | (simp_all; exact mGo hE)
theorem p_I2L (hE : aI2L pc a st h = some r) : aI2L pc b st h = some (aMapL b r) := by
  unfold aI2L at hE ⊢
  try simp only [Bool.cond_eq_ite] at hE ⊢
  repeat' split at hE
  all_goals first | (cases hE; done) | (simp only [*, if_true, if_false, ite_true, ite_false, reduceIte]; exact mGo hE) | exact mGo hE | (simp_all; exact mGo hE)
theorem p_L2I (hE : aL2I pc a st h = some r) : aL2I pc b st h = some (aMapL b r) := by
  unfold aL2I at hE ⊢
  try simp only [Bool.cond_eq_ite] at hE ⊢
  repeat' split at hE
  all_goals first | (cases hE; done) | (simp only [*, if_true, if_false, ite_true, ite_false, reduceIte]; exact mGo hE) | exact mGo hE | (simp_all; exact mGo hE)
theorem p_Neg (hE : aNeg pc a st h = some r) : aNeg pc b st h = some (aMapL b r) := by
  unfold aNeg at hE ⊢
  try simp only [Bool.cond_eq_ite] at hE ⊢
  repeat' split at hE
  all_goals first | (cases hE; done) | (simp only [*, if_true, if_false, ite_true, ite_false, reduceIte]; exact mGo hE) | exact mGo hE | (simp_all; exact mGo hE)
theorem p_Lcmp (hE : aLcmp pc a st h = some r) : aLcmp pc b st h = some (aMapL b r) := by
  unfold aLcmp at hE ⊢
  try simp only [Bool.cond_eq_ite] at hE ⊢
  repeat' split at hE
  all_goals first | (cases hE; done) | (simp only [*, if_true, if_false, ite_true, ite_false, reduceIte]; exact mGo hE) | exact mGo hE | (simp_all; exact mGo hE)
theorem lLe_ld {v : Value} (hl : lLe a b) (h1 : aLd a i = some v) : aLd b i = some v := by
  have h2 := hl.2 i v (aLd_at h1)
  unfold aLd
  rw [h2]
theorem aKill_out {j : Nat} {w : Value} (h1 : b[j]? = some (some w)) (h2 : ¬ (j + 1 = i ∧ w.category = 2)) : (aKill b i)[j]? = some (some w) := by
  unfold aKill
  split
  · exact h1
  · rename_i k
    split
    · rename_i x hx
      by_cases hjk : k = j
      · subst hjk
        rw [h1] at hx
        cases hx
        exact absurd ⟨rfl, rfl⟩ h2
      · rw [List.getElem?_set_ne hjk]
        exact h1
    · rename_i x hx
      by_cases hjk : k = j
      · subst hjk
        rw [h1] at hx
        cases hx
        exact absurd ⟨rfl, rfl⟩ h2
      · rw [List.getElem?_set_ne hjk]
        exact h1
    · exact h1
theorem lLe_kill (hl : lLe a b) : lLe (aKill a i) (aKill b i) := by
  refine ⟨by rw [aKill_len, aKill_len]; exact hl.1, fun j w hj => ?_⟩
  obtain ⟨h1, h2⟩ := aKill_in hj
  exact aKill_out (hl.2 j w h1) h2
theorem lLe_set {v : Option Value} (hl : lLe a b) : lLe (a.set i v) (b.set i v) := by
  refine ⟨by rw [List.length_set, List.length_set]; exact hl.1, fun j w hj => ?_⟩
  by_cases hji : i = j
  · subst hji
    have hlt : i < a.length := by
      have := (List.getElem?_eq_some_iff.mp hj).1
      rwa [List.length_set] at this
    rw [List.getElem?_set_self hlt] at hj
    rw [List.getElem?_set_self (by rw [← hl.1]; exact hlt)]
    exact hj
  · rw [List.getElem?_set_ne hji] at hj ⊢
    exact hl.2 j w hj
theorem lLe_st {v : Value} (hl : lLe a b) : lLe (aSt a i v) (aSt b i v) := by
  cases v with
  | long x => exact lLe_set (lLe_set (lLe_kill hl))
  | _ => exact lLe_set (lLe_kill hl)
/-- the other locals' outcome -/
def aOut (b : List (Option Value)) (r r' : aRes) : Prop := match r, r' with
  | .inl q, .inl q' => q'.1 = q.1 ∧ q'.2.2 = q.2.2 ∧ lLe q.2.1 q'.2.1
  | .inr x, .inr y => x = y
  | _, _ => False
theorem mOut (hl : lLe a b) (hq : ∀ q, r = .inl q → q.2.1 = a) : aOut b r (aMapL b r) := by
  cases r with
  | inl q => exact ⟨rfl, rfl, by rw [hq q rfl]; exact hl⟩
  | inr x => rfl
theorem sOut {i n : Nat} (hl : lLe a b) (hE : aStoreI (pc + n) i a st h = some r) : ∃ r', aStoreI (pc + n) i b st h = some r' ∧ aOut b r r' := by
  unfold aStoreI at hE ⊢
  split at hE
  · rename_i x rr
    rw [← hl.1]
    cases hb : Nat.blt i a.length with
    | false => rw [hb, cond_false] at hE; cases hE
    | true =>
      rw [hb, cond_true] at hE
      cases hE
      exact ⟨_, rfl, rfl, rfl, by dsimp only; exact lLe_st hl⟩
  · cases hE
theorem sOutJ {i n : Nat} (hl : lLe a b) (hE : aStoreJ (pc + n) i a st h = some r) : ∃ r', aStoreJ (pc + n) i b st h = some r' ∧ aOut b r r' := by
  unfold aStoreJ at hE ⊢
  split at hE
  · rename_i x rr
    rw [← hl.1]
    cases hb : Nat.blt (i + 1) a.length with
    | false => rw [hb, cond_false] at hE; cases hE
    | true =>
      rw [hb, cond_true] at hE
      cases hE
      exact ⟨_, rfl, rfl, rfl, by dsimp only; exact lLe_st hl⟩
  · cases hE
theorem sOutA {i n : Nat} (hl : lLe a b) (hE : aStoreA (pc + n) i a st h = some r) : ∃ r', aStoreA (pc + n) i b st h = some r' ∧ aOut b r r' := by
  unfold aStoreA at hE ⊢
  split at hE
  · rename_i x rr
    rw [← hl.1]
    cases hb : Nat.blt i a.length with
    | false => rw [hb, cond_false] at hE; cases hE
    | true =>
      rw [hb, cond_true] at hE
      cases hE
      exact ⟨_, rfl, rfl, rfl, by dsimp only; exact lLe_st hl⟩
  · rename_i rr
    rw [← hl.1]
    cases hb : Nat.blt i a.length with
    | false => rw [hb, cond_false] at hE; cases hE
    | true =>
      rw [hb, cond_true] at hE
      cases hE
      exact ⟨_, rfl, rfl, rfl, by dsimp only; exact lLe_st hl⟩
  · cases hE
theorem lOutI {i n : Nat} (hl : lLe a b) (hE : aLoadI (pc + n) i a st h = some r) : ∃ r', aLoadI (pc + n) i b st h = some r' ∧ aOut b r r' := by
  unfold aLoadI at hE ⊢
  split at hE
  · rename_i x hx
    rw [lLe_ld hl hx]
    cases hE
    exact ⟨_, rfl, rfl, rfl, hl⟩
  · cases hE
theorem lOutJ {i n : Nat} (hl : lLe a b) (hE : aLoadJ (pc + n) i a st h = some r) : ∃ r', aLoadJ (pc + n) i b st h = some r' ∧ aOut b r r' := by
  unfold aLoadJ at hE ⊢
  split at hE
  · rename_i x hx
    rw [lLe_ld hl hx]
    cases hE
    exact ⟨_, rfl, rfl, rfl, hl⟩
  · cases hE
theorem lOutA {i n : Nat} (hl : lLe a b) (hE : aLoadA (pc + n) i a st h = some r) : ∃ r', aLoadA (pc + n) i b st h = some r' ∧ aOut b r r' := by
  unfold aLoadA at hE ⊢
  split at hE
  · rename_i x hx
    rw [lLe_ld hl hx]
    cases hE
    exact ⟨_, rfl, rfl, rfl, hl⟩
  · rename_i hx
    rw [lLe_ld hl hx]
    cases hE
    exact ⟨_, rfl, rfl, rfl, hl⟩
  · cases hE
theorem iOut {i : Nat} {n : Int} (hl : lLe a b) (hE : aInc pc i n a st h = some r) : ∃ r', aInc pc i n b st h = some r' ∧ aOut b r r' := by
  unfold aInc at hE ⊢
  split at hE
  · rename_i x hx
    rw [lLe_ld hl hx]
    dsimp only
    rw [← hl.1]
    cases hb : Nat.blt i a.length with
    | false => rw [hb, cond_false] at hE; cases hE
    | true =>
      rw [hb, cond_true] at hE
      cases hE
      exact ⟨_, rfl, rfl, rfl, by dsimp only; exact lLe_st hl⟩
  · cases hE
/-- an outcome whose locals are those it began with -/
def aSame (a : List (Option Value)) (r : aRes) : Prop := ∀ q, r = .inl q → q.2.1 = a
theorem qGo {st' : List Value} {h' : aHp} (hE : aGo pc a st' h' = some r) : aSame a r := by
  cases hE
  intro q hq
  cases hq
  rfl
theorem q_Op2I {f : Int32 → Int32 → Int32} (hE : aOp2I f pc a st h = some r) : aSame a r := by
  unfold aOp2I at hE
  try simp only [Bool.cond_eq_ite] at hE
  repeat' split at hE
  all_goals first | exact qGo hE | (cases hE; done)
theorem q_Op2J {f : Int64 → Int64 → Int64} (hE : aOp2J f pc a st h = some r) : aSame a r := by
  unfold aOp2J at hE
  try simp only [Bool.cond_eq_ite] at hE
  repeat' split at hE
  all_goals first | exact qGo hE | (cases hE; done)
theorem q_DivI {f : Int32 → Int32 → Int32} (hE : aDivI f pc a st h = some r) : aSame a r := by
  unfold aDivI at hE
  try simp only [Bool.cond_eq_ite] at hE
  repeat' split at hE
  all_goals first | exact qGo hE | (cases hE; done)
theorem q_DivJ {f : Int64 → Int64 → Int64} (hE : aDivJ f pc a st h = some r) : aSame a r := by
  unfold aDivJ at hE
  try simp only [Bool.cond_eq_ite] at hE
  repeat' split at hE
  all_goals first | exact qGo hE | (cases hE; done)
theorem q_If1 {c : Int32 → Prop} [DecidablePred c] (hE : aIf1 c pc i a st h = some r) : aSame a r := by
  unfold aIf1 at hE
  try simp only [Bool.cond_eq_ite] at hE
  repeat' split at hE
  all_goals first | exact qGo hE | (cases hE; done)
theorem q_If2 {c : Int32 → Int32 → Prop} [∀ x y, Decidable (c x y)] (hE : aIf2 c pc i a st h = some r) : aSame a r := by
  unfold aIf2 at hE
  try simp only [Bool.cond_eq_ite] at hE
  repeat' split at hE
  all_goals first | exact qGo hE | (cases hE; done)
theorem q_Fld {ty : Int} {ci k : Nat} (hE : aFld ty pc ci k a st h = some r) : aSame a r := by
  unfold aFld at hE
  try simp only [Bool.cond_eq_ite] at hE
  repeat' split at hE
  all_goals first | exact qGo hE | (cases hE; done)
theorem q_Put {ty : Int} {ci k : Nat} (hE : aPut ty pc ci k a st h = some r) : aSame a r := by
  unfold aPut at hE
  try simp only [Bool.cond_eq_ite] at hE
  repeat' split at hE
  all_goals first | exact qGo hE | (cases hE; done)
theorem q_Iald (hE : aIald pc a st h = some r) : aSame a r := by
  unfold aIald at hE
  try simp only [Bool.cond_eq_ite] at hE
  repeat' split at hE
  all_goals first | exact qGo hE | (cases hE; done)
theorem q_Cald (hE : aCald pc a st h = some r) : aSame a r := by
  unfold aCald at hE
  try simp only [Bool.cond_eq_ite] at hE
  repeat' split at hE
  all_goals first | exact qGo hE | (cases hE; done)
theorem q_Lald (hE : aLald pc a st h = some r) : aSame a r := by
  unfold aLald at hE
  try simp only [Bool.cond_eq_ite] at hE
  repeat' split at hE
  all_goals first | exact qGo hE | (cases hE; done)
theorem q_Aald (hE : aAald pc a st h = some r) : aSame a r := by
  unfold aAald at hE
  try simp only [Bool.cond_eq_ite] at hE
  repeat' split at hE
  all_goals first | exact qGo hE | (cases hE; done)
theorem q_Iast (hE : aIast pc a st h = some r) : aSame a r := by
  unfold aIast at hE
  try simp only [Bool.cond_eq_ite] at hE
  repeat' split at hE
  all_goals first | exact qGo hE | (cases hE; done)
theorem q_Cast (hE : aCast pc a st h = some r) : aSame a r := by
  unfold aCast at hE
  try simp only [Bool.cond_eq_ite] at hE
  repeat' split at hE
  all_goals first | exact qGo hE | (cases hE; done)
theorem q_Last (hE : aLast pc a st h = some r) : aSame a r := by
  unfold aLast at hE
  try simp only [Bool.cond_eq_ite] at hE
  repeat' split at hE
  all_goals first | exact qGo hE | (cases hE; done)
theorem q_Aast (hE : aAast pc a st h = some r) : aSame a r := by
  unfold aAast at hE
  try simp only [Bool.cond_eq_ite] at hE
  repeat' split at hE
  all_goals first | exact qGo hE | (cases hE; done)
theorem q_Alen (hE : aAlen pc a st h = some r) : aSame a r := by
  unfold aAlen at hE
  try simp only [Bool.cond_eq_ite] at hE
  repeat' split at hE
  all_goals first | exact qGo hE | (cases hE; done)
theorem q_Newa {k y : Nat} (hE : aNewa k y pc a st h = some r) : aSame a r := by
  unfold aNewa at hE
  try simp only [Bool.cond_eq_ite] at hE
  repeat' split at hE
  all_goals first | exact qGo hE | (cases hE; done)
theorem q_Slen {ss : List (List Int32)} {d : Nat} (hE : aSlen ss d pc a st h = some r) : aSame a r := by
  unfold aSlen at hE
  try simp only [Bool.cond_eq_ite] at hE
  repeat' split at hE
  all_goals first | exact qGo hE | (cases hE; done)
theorem q_Sat {ss : List (List Int32)} {d : Nat} (hE : aSat ss d pc a st h = some r) : aSame a r := by
  unfold aSat at hE
  try simp only [Bool.cond_eq_ite] at hE
  repeat' split at hE
  all_goals first | exact qGo hE | (cases hE; done)
theorem q_Copy {d : Nat} (hE : aCopy d pc a st h = some r) : aSame a r := by
  unfold aCopy at hE
  try simp only [Bool.cond_eq_ite] at hE
  repeat' split at hE
  all_goals first | exact qGo hE | (cases hE; done)
theorem q_Init {d : Nat} (hE : aInit d pc a st h = some r) : aSame a r := by
  unfold aInit at hE
  try simp only [Bool.cond_eq_ite] at hE
  repeat' split at hE
  all_goals first | exact qGo hE | (cases hE; done)
theorem q_Sw {x y z : Int} {o : Array Int} (hE : aSw x y z o pc a st h = some r) : aSame a r := by
  unfold aSw at hE
  try simp only [Bool.cond_eq_ite] at hE
  repeat' split at hE
  all_goals first | exact qGo hE | (cases hE; done)
theorem q_Pop1 (hE : aPop1 pc a st h = some r) : aSame a r := by
  unfold aPop1 at hE
  try simp only [Bool.cond_eq_ite] at hE
  repeat' split at hE
  all_goals first | exact qGo hE | (cases hE; done)
theorem q_Dup (hE : aDup pc a st h = some r) : aSame a r := by
  unfold aDup at hE
  try simp only [Bool.cond_eq_ite] at hE
  repeat' split at hE
  all_goals first | exact qGo hE | (cases hE; done)
theorem q_Dup2 (hE : aDup2 pc a st h = some r) : aSame a r := by
  unfold aDup2 at hE
  try simp only [Bool.cond_eq_ite] at hE
  repeat' split at hE
  all_goals first | exact qGo hE | (cases hE; done)
theorem q_Nul {t f : Nat} (hE : aNul t f a st h = some r) : aSame a r := by
  unfold aNul at hE
  try simp only [Bool.cond_eq_ite] at hE
  repeat' split at hE
  all_goals first | exact qGo hE | (cases hE; done)
theorem q_Obj {ci nf : Nat} (hE : aObj ci nf pc a st h = some r) : aSame a r := by
  unfold aObj at hE
  try simp only [Bool.cond_eq_ite] at hE
  repeat' split at hE
  all_goals first | exact qGo hE | (cases hE; done)
theorem q_I2L (hE : aI2L pc a st h = some r) : aSame a r := by
  unfold aI2L at hE
  try simp only [Bool.cond_eq_ite] at hE
  repeat' split at hE
  all_goals first | exact qGo hE | (cases hE; done)
theorem q_L2I (hE : aL2I pc a st h = some r) : aSame a r := by
  unfold aL2I at hE
  try simp only [Bool.cond_eq_ite] at hE
  repeat' split at hE
  all_goals first | exact qGo hE | (cases hE; done)
theorem q_Neg (hE : aNeg pc a st h = some r) : aSame a r := by
  unfold aNeg at hE
  try simp only [Bool.cond_eq_ite] at hE
  repeat' split at hE
  all_goals first | exact qGo hE | (cases hE; done)
theorem q_Lcmp (hE : aLcmp pc a st h = some r) : aSame a r := by
  unfold aLcmp at hE
  try simp only [Bool.cond_eq_ite] at hE
  repeat' split at hE
  all_goals first | exact qGo hE | (cases hE; done)
set_option maxHeartbeats 4000000 in
theorem aExec_weak {ss : List (List Int32)} {rt d : Nat} {ins : Instr} {lk : aLk} (hl : lLe a b) (hE : aExec ss rt d pc ins lk a st h = some r) : ∃ r', aExec ss rt d pc ins lk b st h = some r' ∧ aOut b r r' := by
  cases ins
  case iconst => exact ⟨_, mGo hE, mOut hl (qGo hE)⟩
  case bipush => exact ⟨_, mGo hE, mOut hl (qGo hE)⟩
  case sipush => exact ⟨_, mGo hE, mOut hl (qGo hE)⟩
  case lconst => exact ⟨_, mGo hE, mOut hl (qGo hE)⟩
  case aconst_null => exact ⟨_, mGo hE, mOut hl (qGo hE)⟩
  case ldc2_w => exact ⟨_, mGo hE, mOut hl (qGo hE)⟩
  case goto => exact ⟨_, mGo hE, mOut hl (qGo hE)⟩
  case lcmp => exact ⟨_, p_Lcmp hE, mOut hl (q_Lcmp hE)⟩
  case i2l => exact ⟨_, p_I2L hE, mOut hl (q_I2L hE)⟩
  case l2i => exact ⟨_, p_L2I hE, mOut hl (q_L2I hE)⟩
  case dup => exact ⟨_, p_Dup hE, mOut hl (q_Dup hE)⟩
  case dup2 => exact ⟨_, p_Dup2 hE, mOut hl (q_Dup2 hE)⟩
  case pop => exact ⟨_, p_Pop1 hE, mOut hl (q_Pop1 hE)⟩
  case ifnull => exact ⟨_, p_Nul hE, mOut hl (q_Nul hE)⟩
  case ifnonnull => exact ⟨_, p_Nul hE, mOut hl (q_Nul hE)⟩
  case tableswitch => exact ⟨_, p_Sw hE, mOut hl (q_Sw hE)⟩
  case getfield => exact ⟨_, p_Fld hE, mOut hl (q_Fld hE)⟩
  case putfield => exact ⟨_, p_Put hE, mOut hl (q_Put hE)⟩
  case iaload => exact ⟨_, p_Iald hE, mOut hl (q_Iald hE)⟩
  case caload => exact ⟨_, p_Cald hE, mOut hl (q_Cald hE)⟩
  case laload => exact ⟨_, p_Lald hE, mOut hl (q_Lald hE)⟩
  case aaload => exact ⟨_, p_Aald hE, mOut hl (q_Aald hE)⟩
  case iastore => exact ⟨_, p_Iast hE, mOut hl (q_Iast hE)⟩
  case castore => exact ⟨_, p_Cast hE, mOut hl (q_Cast hE)⟩
  case lastore => exact ⟨_, p_Last hE, mOut hl (q_Last hE)⟩
  case aastore => exact ⟨_, p_Aast hE, mOut hl (q_Aast hE)⟩
  case arraylength => exact ⟨_, p_Alen hE, mOut hl (q_Alen hE)⟩
  case anewarray => exact ⟨_, p_Newa hE, mOut hl (q_Newa hE)⟩
  case new => exact ⟨_, p_Obj hE, mOut hl (q_Obj hE)⟩
  case ineg => exact ⟨_, p_Neg hE, mOut hl (q_Neg hE)⟩
  case iadd => exact ⟨_, p_Op2I hE, mOut hl (q_Op2I hE)⟩
  case isub => exact ⟨_, p_Op2I hE, mOut hl (q_Op2I hE)⟩
  case imul => exact ⟨_, p_Op2I hE, mOut hl (q_Op2I hE)⟩
  case iand => exact ⟨_, p_Op2I hE, mOut hl (q_Op2I hE)⟩
  case ior => exact ⟨_, p_Op2I hE, mOut hl (q_Op2I hE)⟩
  case ixor => exact ⟨_, p_Op2I hE, mOut hl (q_Op2I hE)⟩
  case ishl => exact ⟨_, p_Op2I hE, mOut hl (q_Op2I hE)⟩
  case ishr => exact ⟨_, p_Op2I hE, mOut hl (q_Op2I hE)⟩
  case iushr => exact ⟨_, p_Op2I hE, mOut hl (q_Op2I hE)⟩
  case idiv => exact ⟨_, p_DivI hE, mOut hl (q_DivI hE)⟩
  case irem => exact ⟨_, p_DivI hE, mOut hl (q_DivI hE)⟩
  case ladd => exact ⟨_, p_Op2J hE, mOut hl (q_Op2J hE)⟩
  case lsub => exact ⟨_, p_Op2J hE, mOut hl (q_Op2J hE)⟩
  case lmul => exact ⟨_, p_Op2J hE, mOut hl (q_Op2J hE)⟩
  case land => exact ⟨_, p_Op2J hE, mOut hl (q_Op2J hE)⟩
  case ldiv => exact ⟨_, p_DivJ hE, mOut hl (q_DivJ hE)⟩
  case lrem => exact ⟨_, p_DivJ hE, mOut hl (q_DivJ hE)⟩
  case iload_n => exact lOutI hl hE
  case iload => exact lOutI hl hE
  case lload_n => exact lOutJ hl hE
  case lload => exact lOutJ hl hE
  case aload_n => exact lOutA hl hE
  case istore_n => exact sOut hl hE
  case istore => exact sOut hl hE
  case lstore_n => exact sOutJ hl hE
  case lstore => exact sOutJ hl hE
  case astore_n => exact sOutA hl hE
  case iinc => exact iOut hl hE
  case ldc ix =>
    have hE : (bif Nat.beq lk.1 0 then aGo (pc + 2) a (.int (Int32.ofInt lk.2.2) :: st) h else aGo (pc + 2) a (.ref (aSa + lk.2.1) :: st) h) = some r := hE
    show ∃ r', (bif Nat.beq lk.1 0 then aGo (pc + 2) b (.int (Int32.ofInt lk.2.2) :: st) h else aGo (pc + 2) b (.ref (aSa + lk.2.1) :: st) h) = some r' ∧ _
    cases hz : Nat.beq lk.1 0 with
    | true => rw [hz, cond_true] at hE; rw [cond_true]; exact ⟨_, mGo hE, mOut hl (qGo hE)⟩
    | false => rw [hz, cond_false] at hE; rw [cond_false]; exact ⟨_, mGo hE, mOut hl (qGo hE)⟩
  case ifCond cnd off => cases cnd <;> exact ⟨_, p_If1 hE, mOut hl (q_If1 hE)⟩
  case if_icmp cnd off => cases cnd <;> exact ⟨_, p_If2 hE, mOut hl (q_If2 hE)⟩
  case newarray t => cases t <;> first | exact ⟨_, p_Newa hE, mOut hl (q_Newa hE)⟩ | (exact absurd hE (by intro z; cases z))
  case ireturn =>
    obtain ⟨x, h1, h2, h3⟩ := aRetI_ok (hE : aRetI rt st = some r)
    exact ⟨r, hE, by rw [h2]; rfl⟩
  case lreturn =>
    obtain ⟨x, h1, h2, h3⟩ := aRetJ_ok (hE : aRetJ rt st = some r)
    exact ⟨r, hE, by rw [h2]; rfl⟩
  case return_ =>
    obtain ⟨h1, h2, h3⟩ := aRetV_ok (hE : aRetV rt st = some r)
    exact ⟨r, hE, by rw [h2]; rfl⟩
  case invokevirtual ix =>
    have hE : (match lk.2.2 with
      | 1 => aSlen ss d pc a st h
      | 2 => aSat ss d pc a st h
      | _ => aCall lk.2.1 lk.1 st) = some r := hE
    show ∃ r', (match lk.2.2 with
      | 1 => aSlen ss d pc b st h
      | 2 => aSat ss d pc b st h
      | _ => aCall lk.2.1 lk.1 st) = some r' ∧ _
    split at hE
    · exact ⟨_, p_Slen hE, mOut hl (q_Slen hE)⟩
    · exact ⟨_, p_Sat hE, mOut hl (q_Sat hE)⟩
    · obtain ⟨as, rr, e1, e2, e3⟩ := aCall_not hE
      exact ⟨r, hE, by rw [e3]; rfl⟩
  case invokespecial ix =>
    have hE : (match lk.2.2 with
      | 4 => aInit d pc a st h
      | _ => aCall lk.2.1 lk.1 st) = some r := hE
    show ∃ r', (match lk.2.2 with
      | 4 => aInit d pc b st h
      | _ => aCall lk.2.1 lk.1 st) = some r' ∧ _
    split at hE
    · exact ⟨_, p_Init hE, mOut hl (q_Init hE)⟩
    · obtain ⟨as, rr, e1, e2, e3⟩ := aCall_not hE
      exact ⟨r, hE, by rw [e3]; rfl⟩
  case invokestatic ix =>
    have hE : (match lk.2.2 with
      | 3 => aCopy d pc a st h
      | _ => aCall lk.2.1 lk.1 st) = some r := hE
    show ∃ r', (match lk.2.2 with
      | 3 => aCopy d pc b st h
      | _ => aCall lk.2.1 lk.1 st) = some r' ∧ _
    split at hE
    · exact ⟨_, p_Copy hE, mOut hl (q_Copy hE)⟩
    · obtain ⟨as, rr, e1, e2, e3⟩ := aCall_not hE
      exact ⟨r, hE, by rw [e3]; rfl⟩
  all_goals exact absurd hE (by intro z; cases z)
theorem aRun_weak {ms : Nat → Option aMd} {ss : List (List Int32)} : ∀ (n : Nat) {d m pc : Nat} {a b : List (Option Value)} {st : List Value} {h : aHp} {r : Option Value × aHp}, lLe a b → aRun ms ss n d m pc a st h = some r → aRun ms ss n d m pc b st h = some r := by
  intro n
  induction n with
  | zero => intro d m pc a b st h r _ hr; cases hr
  | succ n ih =>
    intro d m pc a b st h r hl hr
    unfold aRun at hr ⊢
    split at hr
    · cases hr
    rename_i md hmd
    try rw [hmd]
    try dsimp only
    split at hr
    · cases hr
    rename_i e he
    try rw [he]
    try dsimp only
    split at hr
    · cases hr
    · rename_i q hE
      obtain ⟨r', h1, h2⟩ := aExec_weak hl hE
      rw [h1]
      cases r' with
      | inl q' =>
        obtain ⟨g1, g2, g3⟩ := h2
        show aRun ms ss n d m q'.1 q'.2.1 q'.2.2.1 q'.2.2.2 = some r
        rw [g1, g2]
        exact ih g3 hr
      | inr x => exact h2.elim
    · rename_i v hE
      obtain ⟨r', h1, h2⟩ := aExec_weak hl hE
      rw [h1]
      cases r' with
      | inl q' => exact h2.elim
      | inr x =>
        have h2 : Sum.inl v = x := h2
        subst h2
        exact hr
    · rename_i q hE
      obtain ⟨r', h1, h2⟩ := aExec_weak hl hE
      rw [h1]
      cases r' with
      | inl q' => exact h2.elim
      | inr x =>
        have h2 : Sum.inr q = x := h2
        subst h2
        dsimp only
        split at hr
        · cases hr
        rename_i d0
        try dsimp only
        split at hr
        · cases hr
        rename_i mq hmq
        try rw [hmq]
        try dsimp only
        cases hc : Nat.ble (aLoc q.2.1).length mq.2.2.2.1 && aRcv e.1 mq.1 h q.2.1 with
        | false => rw [hc, cond_false] at hr; cases hr
        | true =>
          rw [hc, cond_true] at hr
          rw [cond_true]
          split at hr
          · cases hr
          rename_i v1 h1' hcall
          try rw [hcall]
          exact ih hl hr
end AWeak
theorem w_weak {d m pc : Nat} {a b : List (Option Value)} {st : List Value} {h : aHp} {Q : Option Value → aHp → Prop} (hl : lLe a b) (K : Wp d m pc a st h Q) : Wp d m pc b st h Q := by
  obtain ⟨n, v, h', h1, h2⟩ := K
  exact ⟨n, v, h', aRun_weak n hl h1, h2⟩
theorem lLe_nil : lLe [] [] := ⟨rfl, fun i v h => by simp at h⟩
theorem lLe_n {a b : List (Option Value)} {x : Option Value} (h : lLe a b) : lLe (none :: a) (x :: b) := by
  refine ⟨by simp [h.1], fun i v hi => ?_⟩
  cases i with
  | zero => simp at hi
  | succ i => simpa using h.2 i v (by simpa using hi)
theorem lLe_s {a b : List (Option Value)} {x : Value} (h : lLe a b) : lLe (some x :: a) (some x :: b) := by
  refine ⟨by simp [h.1], fun i v hi => ?_⟩
  cases i with
  | zero => simpa using hi
  | succ i => simpa using h.2 i v (by simpa using hi)
