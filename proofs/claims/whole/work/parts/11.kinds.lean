/-! ===== what kinds of outcome an instruction has ===== -/
/-- it goes on, the heap grows or stays, the script stays -/
def aOkR (h : aHp) (r : aRes) : Prop := ∃ q : Nat × List (Option Value) × List Value × aHp, r = .inl q ∧ aN h ≤ aN q.2.2.2 ∧ aSl h ≤ aSl q.2.2.2 ∧ aXn q.2.2.2 = aXn h ∧ aX q.2.2.2 = aX h
section AKinds
variable {pc i : Nat} {l : List (Option Value)} {st : List Value} {h : aHp} {r : aRes}
theorem gGo {l' : List (Option Value)} {st' : List Value} (hE : aGo pc l' st' h = some r) : aOkR h r := ⟨_, (Option.some.inj hE).symm, Nat.le_refl _, Nat.le_refl _, rfl, rfl⟩
theorem gGo2 {l' : List (Option Value)} {st' : List Value} {h' : aHp} (hE : aGo pc l' st' h' = some r) (h1 : aN h ≤ aN h') (h2 : aSl h ≤ aSl h') (h3 : aXn h' = aXn h) (h4 : aX h' = aX h) : aOkR h r := ⟨_, (Option.some.inj hE).symm, h1, h2, h3, h4⟩
theorem g_LoadI (hE : aLoadI pc i l st h = some r) : aOkR h r := by
  unfold aLoadI at hE
  try simp only [Bool.cond_eq_ite] at hE
  repeat' split at hE
  all_goals first | exact gGo hE | exact gGo2 hE (Nat.le_refl _) (Nat.le_refl _) rfl rfl | exact gGo2 hE (Nat.le_succ _) (Nat.le_add_right _ _) rfl rfl | cases hE
theorem g_LoadJ (hE : aLoadJ pc i l st h = some r) : aOkR h r := by
  unfold aLoadJ at hE
  try simp only [Bool.cond_eq_ite] at hE
  repeat' split at hE
  all_goals first | exact gGo hE | exact gGo2 hE (Nat.le_refl _) (Nat.le_refl _) rfl rfl | exact gGo2 hE (Nat.le_succ _) (Nat.le_add_right _ _) rfl rfl | cases hE
theorem g_LoadA (hE : aLoadA pc i l st h = some r) : aOkR h r := by
  unfold aLoadA at hE
  try simp only [Bool.cond_eq_ite] at hE
  repeat' split at hE
  all_goals first | exact gGo hE | exact gGo2 hE (Nat.le_refl _) (Nat.le_refl _) rfl rfl | exact gGo2 hE (Nat.le_succ _) (Nat.le_add_right _ _) rfl rfl | cases hE
theorem g_StoreI (hE : aStoreI pc i l st h = some r) : aOkR h r := by
  unfold aStoreI at hE
  try simp only [Bool.cond_eq_ite] at hE
  repeat' split at hE
  all_goals first | exact gGo hE | exact gGo2 hE (Nat.le_refl _) (Nat.le_refl _) rfl rfl | exact gGo2 hE (Nat.le_succ _) (Nat.le_add_right _ _) rfl rfl | cases hE
theorem g_StoreJ (hE : aStoreJ pc i l st h = some r) : aOkR h r := by
  unfold aStoreJ at hE
  try simp only [Bool.cond_eq_ite] at hE
  repeat' split at hE
  all_goals first | exact gGo hE | exact gGo2 hE (Nat.le_refl _) (Nat.le_refl _) rfl rfl | exact gGo2 hE (Nat.le_succ _) (Nat.le_add_right _ _) rfl rfl | cases hE
theorem g_StoreA (hE : aStoreA pc i l st h = some r) : aOkR h r := by
  unfold aStoreA at hE
  try simp only [Bool.cond_eq_ite] at hE
  repeat' split at hE
  all_goals first | exact gGo hE | exact gGo2 hE (Nat.le_refl _) (Nat.le_refl _) rfl rfl | exact gGo2 hE (Nat.le_succ _) (Nat.le_add_right _ _) rfl rfl | cases hE
theorem g_Op2I {f : Int32 → Int32 → Int32} (hE : aOp2I f pc l st h = some r) : aOkR h r := by
  unfold aOp2I at hE
  try simp only [Bool.cond_eq_ite] at hE
  repeat' split at hE
  all_goals first | exact gGo hE | exact gGo2 hE (Nat.le_refl _) (Nat.le_refl _) rfl rfl | exact gGo2 hE (Nat.le_succ _) (Nat.le_add_right _ _) rfl rfl | cases hE
theorem g_Op2J {f : Int64 → Int64 → Int64} (hE : aOp2J f pc l st h = some r) : aOkR h r := by
  unfold aOp2J at hE
  try simp only [Bool.cond_eq_ite] at hE
  repeat' split at hE
  all_goals first | exact gGo hE | exact gGo2 hE (Nat.le_refl _) (Nat.le_refl _) rfl rfl | exact gGo2 hE (Nat.le_succ _) (Nat.le_add_right _ _) rfl rfl | cases hE
theorem g_DivI {f : Int32 → Int32 → Int32} (hE : aDivI f pc l st h = some r) : aOkR h r := by
  unfold aDivI at hE
  try simp only [Bool.cond_eq_ite] at hE
  repeat' split at hE
  all_goals first | exact gGo hE | exact gGo2 hE (Nat.le_refl _) (Nat.le_refl _) rfl rfl | exact gGo2 hE (Nat.le_succ _) (Nat.le_add_right _ _) rfl rfl | cases hE
theorem g_DivJ {f : Int64 → Int64 → Int64} (hE : aDivJ f pc l st h = some r) : aOkR h r := by
  unfold aDivJ at hE
  try simp only [Bool.cond_eq_ite] at hE
  repeat' split at hE
  all_goals first | exact gGo hE | exact gGo2 hE (Nat.le_refl _) (Nat.le_refl _) rfl rfl | exact gGo2 hE (Nat.le_succ _) (Nat.le_add_right _ _) rfl rfl | cases hE
theorem g_If1 {c : Int32 → Prop} [DecidablePred c] (hE : aIf1 c pc i l st h = some r) : aOkR h r := by
  unfold aIf1 at hE
  try simp only [Bool.cond_eq_ite] at hE
  repeat' split at hE
  all_goals first | exact gGo hE | exact gGo2 hE (Nat.le_refl _) (Nat.le_refl _) rfl rfl | exact gGo2 hE (Nat.le_succ _) (Nat.le_add_right _ _) rfl rfl | cases hE
theorem g_If2 {c : Int32 → Int32 → Prop} [∀ x y, Decidable (c x y)] (hE : aIf2 c pc i l st h = some r) : aOkR h r := by
  unfold aIf2 at hE
  try simp only [Bool.cond_eq_ite] at hE
  repeat' split at hE
  all_goals first | exact gGo hE | exact gGo2 hE (Nat.le_refl _) (Nat.le_refl _) rfl rfl | exact gGo2 hE (Nat.le_succ _) (Nat.le_add_right _ _) rfl rfl | cases hE
theorem g_Fld {ty : Int} {ci k : Nat} (hE : aFld ty pc ci k l st h = some r) : aOkR h r := by
  unfold aFld at hE
  try simp only [Bool.cond_eq_ite] at hE
  repeat' split at hE
  all_goals first | exact gGo hE | exact gGo2 hE (Nat.le_refl _) (Nat.le_refl _) rfl rfl | exact gGo2 hE (Nat.le_succ _) (Nat.le_add_right _ _) rfl rfl | cases hE
theorem g_Put {ty : Int} {ci k : Nat} (hE : aPut ty pc ci k l st h = some r) : aOkR h r := by
  unfold aPut at hE
  try simp only [Bool.cond_eq_ite] at hE
  repeat' split at hE
  all_goals first | exact gGo hE | exact gGo2 hE (Nat.le_refl _) (Nat.le_refl _) rfl rfl | exact gGo2 hE (Nat.le_succ _) (Nat.le_add_right _ _) rfl rfl | cases hE
theorem g_Iald (hE : aIald pc l st h = some r) : aOkR h r := by
  unfold aIald at hE
  try simp only [Bool.cond_eq_ite] at hE
  repeat' split at hE
  all_goals first | exact gGo hE | exact gGo2 hE (Nat.le_refl _) (Nat.le_refl _) rfl rfl | exact gGo2 hE (Nat.le_succ _) (Nat.le_add_right _ _) rfl rfl | cases hE
theorem g_Cald (hE : aCald pc l st h = some r) : aOkR h r := by
  unfold aCald at hE
  try simp only [Bool.cond_eq_ite] at hE
  repeat' split at hE
  all_goals first | exact gGo hE | exact gGo2 hE (Nat.le_refl _) (Nat.le_refl _) rfl rfl | exact gGo2 hE (Nat.le_succ _) (Nat.le_add_right _ _) rfl rfl | cases hE
theorem g_Lald (hE : aLald pc l st h = some r) : aOkR h r := by
  unfold aLald at hE
  try simp only [Bool.cond_eq_ite] at hE
  repeat' split at hE
  all_goals first | exact gGo hE | exact gGo2 hE (Nat.le_refl _) (Nat.le_refl _) rfl rfl | exact gGo2 hE (Nat.le_succ _) (Nat.le_add_right _ _) rfl rfl | cases hE
theorem g_Aald (hE : aAald pc l st h = some r) : aOkR h r := by
  unfold aAald at hE
  try simp only [Bool.cond_eq_ite] at hE
  repeat' split at hE
  all_goals first | exact gGo hE | exact gGo2 hE (Nat.le_refl _) (Nat.le_refl _) rfl rfl | exact gGo2 hE (Nat.le_succ _) (Nat.le_add_right _ _) rfl rfl | cases hE
theorem g_Iast (hE : aIast pc l st h = some r) : aOkR h r := by
  unfold aIast at hE
  try simp only [Bool.cond_eq_ite] at hE
  repeat' split at hE
  all_goals first | exact gGo hE | exact gGo2 hE (Nat.le_refl _) (Nat.le_refl _) rfl rfl | exact gGo2 hE (Nat.le_succ _) (Nat.le_add_right _ _) rfl rfl | cases hE
theorem g_Cast (hE : aCast pc l st h = some r) : aOkR h r := by
  unfold aCast at hE
  try simp only [Bool.cond_eq_ite] at hE
  repeat' split at hE
  all_goals first | exact gGo hE | exact gGo2 hE (Nat.le_refl _) (Nat.le_refl _) rfl rfl | exact gGo2 hE (Nat.le_succ _) (Nat.le_add_right _ _) rfl rfl | cases hE
theorem g_Last (hE : aLast pc l st h = some r) : aOkR h r := by
  unfold aLast at hE
  try simp only [Bool.cond_eq_ite] at hE
  repeat' split at hE
  all_goals first | exact gGo hE | exact gGo2 hE (Nat.le_refl _) (Nat.le_refl _) rfl rfl | exact gGo2 hE (Nat.le_succ _) (Nat.le_add_right _ _) rfl rfl | cases hE
theorem g_Aast (hE : aAast pc l st h = some r) : aOkR h r := by
  unfold aAast at hE
  try simp only [Bool.cond_eq_ite] at hE
  repeat' split at hE
  all_goals first | exact gGo hE | exact gGo2 hE (Nat.le_refl _) (Nat.le_refl _) rfl rfl | exact gGo2 hE (Nat.le_succ _) (Nat.le_add_right _ _) rfl rfl | cases hE
theorem g_Alen (hE : aAlen pc l st h = some r) : aOkR h r := by
  unfold aAlen at hE
  try simp only [Bool.cond_eq_ite] at hE
  repeat' split at hE
  all_goals first | exact gGo hE | exact gGo2 hE (Nat.le_refl _) (Nat.le_refl _) rfl rfl | exact gGo2 hE (Nat.le_succ _) (Nat.le_add_right _ _) rfl rfl | cases hE
theorem g_Newa {k y : Nat} (hE : aNewa k y pc l st h = some r) : aOkR h r := by
  unfold aNewa at hE
  try simp only [Bool.cond_eq_ite] at hE
  repeat' split at hE
  all_goals first | exact gGo hE | exact gGo2 hE (Nat.le_refl _) (Nat.le_refl _) rfl rfl | exact gGo2 hE (Nat.le_succ _) (Nat.le_add_right _ _) rfl rfl | cases hE
theorem g_Slen {ss : List (List Int32)} {d : Nat} (hE : aSlen ss d pc l st h = some r) : aOkR h r := by
  unfold aSlen at hE
  try simp only [Bool.cond_eq_ite] at hE
  repeat' split at hE
  all_goals first | exact gGo hE | exact gGo2 hE (Nat.le_refl _) (Nat.le_refl _) rfl rfl | exact gGo2 hE (Nat.le_succ _) (Nat.le_add_right _ _) rfl rfl | cases hE
theorem g_Sat {ss : List (List Int32)} {d : Nat} (hE : aSat ss d pc l st h = some r) : aOkR h r := by
  unfold aSat at hE
  try simp only [Bool.cond_eq_ite] at hE
  repeat' split at hE
  all_goals first | exact gGo hE | exact gGo2 hE (Nat.le_refl _) (Nat.le_refl _) rfl rfl | exact gGo2 hE (Nat.le_succ _) (Nat.le_add_right _ _) rfl rfl | cases hE
theorem g_Copy {d : Nat} (hE : aCopy d pc l st h = some r) : aOkR h r := by
  unfold aCopy at hE
  try simp only [Bool.cond_eq_ite] at hE
  repeat' split at hE
  all_goals first | exact gGo hE | exact gGo2 hE (Nat.le_refl _) (Nat.le_refl _) rfl rfl | exact gGo2 hE (Nat.le_succ _) (Nat.le_add_right _ _) rfl rfl | cases hE
theorem g_Init {d : Nat} (hE : aInit d pc l st h = some r) : aOkR h r := by
  unfold aInit at hE
  try simp only [Bool.cond_eq_ite] at hE
  repeat' split at hE
  all_goals first | exact gGo hE | exact gGo2 hE (Nat.le_refl _) (Nat.le_refl _) rfl rfl | exact gGo2 hE (Nat.le_succ _) (Nat.le_add_right _ _) rfl rfl | cases hE
theorem g_Sw {a b c : Int} {o : Array Int} (hE : aSw a b c o pc l st h = some r) : aOkR h r := by
  unfold aSw at hE
  try simp only [Bool.cond_eq_ite] at hE
  repeat' split at hE
  all_goals first | exact gGo hE | exact gGo2 hE (Nat.le_refl _) (Nat.le_refl _) rfl rfl | exact gGo2 hE (Nat.le_succ _) (Nat.le_add_right _ _) rfl rfl | cases hE
theorem g_Lsw {a : Int} {o : Array (Int × Int)} (hE : aLsw a o pc l st h = some r) : aOkR h r := by
  unfold aLsw at hE
  try simp only [Bool.cond_eq_ite] at hE
  repeat' split at hE
  all_goals first | exact gGo hE | exact gGo2 hE (Nat.le_refl _) (Nat.le_refl _) rfl rfl | exact gGo2 hE (Nat.le_succ _) (Nat.le_add_right _ _) rfl rfl | cases hE
theorem g_Pop1 (hE : aPop1 pc l st h = some r) : aOkR h r := by
  unfold aPop1 at hE
  try simp only [Bool.cond_eq_ite] at hE
  repeat' split at hE
  all_goals first | exact gGo hE | exact gGo2 hE (Nat.le_refl _) (Nat.le_refl _) rfl rfl | exact gGo2 hE (Nat.le_succ _) (Nat.le_add_right _ _) rfl rfl | cases hE
theorem g_Dup (hE : aDup pc l st h = some r) : aOkR h r := by
  unfold aDup at hE
  try simp only [Bool.cond_eq_ite] at hE
  repeat' split at hE
  all_goals first | exact gGo hE | exact gGo2 hE (Nat.le_refl _) (Nat.le_refl _) rfl rfl | exact gGo2 hE (Nat.le_succ _) (Nat.le_add_right _ _) rfl rfl | cases hE
theorem g_Dup2 (hE : aDup2 pc l st h = some r) : aOkR h r := by
  unfold aDup2 at hE
  try simp only [Bool.cond_eq_ite] at hE
  repeat' split at hE
  all_goals first | exact gGo hE | exact gGo2 hE (Nat.le_refl _) (Nat.le_refl _) rfl rfl | exact gGo2 hE (Nat.le_succ _) (Nat.le_add_right _ _) rfl rfl | cases hE
theorem g_Nul {t f : Nat} (hE : aNul t f l st h = some r) : aOkR h r := by
  unfold aNul at hE
  try simp only [Bool.cond_eq_ite] at hE
  repeat' split at hE
  all_goals first | exact gGo hE | exact gGo2 hE (Nat.le_refl _) (Nat.le_refl _) rfl rfl | exact gGo2 hE (Nat.le_succ _) (Nat.le_add_right _ _) rfl rfl | cases hE
theorem g_Obj {ci nf : Nat} (hE : aObj ci nf pc l st h = some r) : aOkR h r := by
  unfold aObj at hE
  try simp only [Bool.cond_eq_ite] at hE
  repeat' split at hE
  all_goals first | exact gGo hE | exact gGo2 hE (Nat.le_refl _) (Nat.le_refl _) rfl rfl | exact gGo2 hE (Nat.le_succ _) (Nat.le_add_right _ _) rfl rfl | cases hE
theorem g_Inc {n : Int} (hE : aInc pc i n l st h = some r) : aOkR h r := by
  unfold aInc at hE
  try simp only [Bool.cond_eq_ite] at hE
  repeat' split at hE
  all_goals first | exact gGo hE | exact gGo2 hE (Nat.le_refl _) (Nat.le_refl _) rfl rfl | exact gGo2 hE (Nat.le_succ _) (Nat.le_add_right _ _) rfl rfl | cases hE
theorem g_I2L (hE : aI2L pc l st h = some r) : aOkR h r := by
  unfold aI2L at hE
  try simp only [Bool.cond_eq_ite] at hE
  repeat' split at hE
  all_goals first | exact gGo hE | exact gGo2 hE (Nat.le_refl _) (Nat.le_refl _) rfl rfl | exact gGo2 hE (Nat.le_succ _) (Nat.le_add_right _ _) rfl rfl | cases hE
theorem g_L2I (hE : aL2I pc l st h = some r) : aOkR h r := by
  unfold aL2I at hE
  try simp only [Bool.cond_eq_ite] at hE
  repeat' split at hE
  all_goals first | exact gGo hE | exact gGo2 hE (Nat.le_refl _) (Nat.le_refl _) rfl rfl | exact gGo2 hE (Nat.le_succ _) (Nat.le_add_right _ _) rfl rfl | cases hE
theorem g_Neg (hE : aNeg pc l st h = some r) : aOkR h r := by
  unfold aNeg at hE
  try simp only [Bool.cond_eq_ite] at hE
  repeat' split at hE
  all_goals first | exact gGo hE | exact gGo2 hE (Nat.le_refl _) (Nat.le_refl _) rfl rfl | exact gGo2 hE (Nat.le_succ _) (Nat.le_add_right _ _) rfl rfl | cases hE
theorem g_Lcmp (hE : aLcmp pc l st h = some r) : aOkR h r := by
  unfold aLcmp at hE
  try simp only [Bool.cond_eq_ite] at hE
  repeat' split at hE
  all_goals first | exact gGo hE | exact gGo2 hE (Nat.le_refl _) (Nat.le_refl _) rfl rfl | exact gGo2 hE (Nat.le_succ _) (Nat.le_add_right _ _) rfl rfl | cases hE
theorem aCall_not {n m : Nat} (hE : aCall n m st = some r) : ∃ as rr, aPop n st [] = some (as, rr) ∧ aW8 rr = true ∧ r = .inr (.inr (m, as, rr)) := by
  unfold aCall at hE
  split at hE
  · rename_i as rr hp
    simp only [Bool.cond_eq_ite] at hE
    split at hE
    · rename_i hw
      exact ⟨as, rr, hp, hw, (Option.some.inj hE).symm⟩
    · cases hE
  · cases hE
/-- what a return answers -/
def aRetOk (bytes : ByteArray) (rt pc : Nat) (v : Option Value) : Prop :=
  (v = none ∧ rt = 0 ∧ decode bytes pc = .ok (.return_, 1)) ∨ (∃ x, v = some (.int x) ∧ (rt = 1 ∨ (rt = 4 ∧ (x = 0 ∨ x = 1))) ∧ decode bytes pc = .ok (.ireturn, 1)) ∨ (∃ x, v = some (.long x) ∧ rt = 2 ∧ decode bytes pc = .ok (.lreturn, 1))
theorem aRetI_ok {rt : Nat} (hE : aRetI rt st = some r) : ∃ x, st = [.int x] ∧ r = .inr (.inl (some (.int x))) ∧ (rt = 1 ∨ (rt = 4 ∧ (x = 0 ∨ x = 1))) := by
  unfold aRetI at hE
  split at hE
  · rename_i x
    simp only [Bool.cond_eq_ite] at hE
    split at hE
    · rename_i h1
      exact ⟨x, rfl, (Option.some.inj hE).symm, Or.inl (Nat.eq_of_beq_eq_true h1)⟩
    · split at hE
      · rename_i h1
        split at hE
        · rename_i h2
          exact ⟨x, rfl, (Option.some.inj hE).symm, Or.inr ⟨Nat.eq_of_beq_eq_true h1, h2⟩⟩
        · cases hE
      · cases hE
  · cases hE
theorem aRetJ_ok {rt : Nat} (hE : aRetJ rt st = some r) : ∃ x, st = [.long x] ∧ r = .inr (.inl (some (.long x))) ∧ rt = 2 := by
  unfold aRetJ at hE
  split at hE
  · rename_i x
    simp only [Bool.cond_eq_ite] at hE
    split at hE
    · rename_i h1
      exact ⟨x, rfl, (Option.some.inj hE).symm, Nat.eq_of_beq_eq_true h1⟩
    · cases hE
  · cases hE
theorem aRetV_ok {rt : Nat} (hE : aRetV rt st = some r) : st = [] ∧ r = .inr (.inl none) ∧ rt = 0 := by
  unfold aRetV at hE
  split at hE
  · simp only [Bool.cond_eq_ite] at hE
    split at hE
    · rename_i h1
      exact ⟨rfl, (Option.some.inj hE).symm, Nat.eq_of_beq_eq_true h1⟩
    · cases hE
  · cases hE
/-- the three kinds -/
def aKind (ss : List (List Int32)) (rt d pc : Nat) (ins : Instr) (lk : aLk) (l : List (Option Value)) (st : List Value) (h : aHp) (r : aRes) : Prop :=
  aOkR h r ∨ (∃ v, r = .inr (.inl v) ∧ st = v.toList ∧ ((ins = .return_ ∧ v = none ∧ rt = 0) ∨ (ins = .ireturn ∧ ∃ x, v = some (.int x) ∧ (rt = 1 ∨ (rt = 4 ∧ (x = 0 ∨ x = 1)))) ∨ (ins = .lreturn ∧ ∃ x, v = some (.long x) ∧ rt = 2))) ∨ (∃ as rr, aPop lk.2.1 st [] = some (as, rr) ∧ aW8 rr = true ∧ r = .inr (.inr (lk.1, as, rr)) ∧ ((∃ ix, ins = .invokevirtual ix ∧ lk.2.2 ≠ 1 ∧ lk.2.2 ≠ 2) ∨ (∃ ix, ins = .invokespecial ix ∧ lk.2.2 ≠ 4) ∨ (∃ ix, ins = .invokestatic ix ∧ lk.2.2 ≠ 3)))
set_option maxHeartbeats 4000000 in
theorem aExec_kind {ss : List (List Int32)} {rt d : Nat} {ins : Instr} {lk : aLk} (hE : aExec ss rt d pc ins lk l st h = some r) : aKind ss rt d pc ins lk l st h r := by
  cases ins
  case iconst => exact Or.inl (gGo hE)
  case bipush => exact Or.inl (gGo hE)
  case sipush => exact Or.inl (gGo hE)
  case lconst => exact Or.inl (gGo hE)
  case aconst_null => exact Or.inl (gGo hE)
  case ldc2_w => exact Or.inl (gGo hE)
  case goto => exact Or.inl (gGo hE)
  case iload_n => exact Or.inl (g_LoadI hE)
  case iload => exact Or.inl (g_LoadI hE)
  case lload_n => exact Or.inl (g_LoadJ hE)
  case lload => exact Or.inl (g_LoadJ hE)
  case aload_n => exact Or.inl (g_LoadA hE)
  case istore_n => exact Or.inl (g_StoreI hE)
  case istore => exact Or.inl (g_StoreI hE)
  case lstore_n => exact Or.inl (g_StoreJ hE)
  case lstore => exact Or.inl (g_StoreJ hE)
  case astore_n => exact Or.inl (g_StoreA hE)
  case iinc => exact Or.inl (g_Inc hE)
  case lcmp => exact Or.inl (g_Lcmp hE)
  case i2l => exact Or.inl (g_I2L hE)
  case l2i => exact Or.inl (g_L2I hE)
  case dup => exact Or.inl (g_Dup hE)
  case dup2 => exact Or.inl (g_Dup2 hE)
  case pop => exact Or.inl (g_Pop1 hE)
  case ifnull => exact Or.inl (g_Nul hE)
  case ifnonnull => exact Or.inl (g_Nul hE)
  case tableswitch => exact Or.inl (g_Sw hE)
  case lookupswitch => exact Or.inl (g_Lsw hE)
  case getfield => exact Or.inl (g_Fld hE)
  case putfield => exact Or.inl (g_Put hE)
  case iaload => exact Or.inl (g_Iald hE)
  case caload => exact Or.inl (g_Cald hE)
  case laload => exact Or.inl (g_Lald hE)
  case aaload => exact Or.inl (g_Aald hE)
  case iastore => exact Or.inl (g_Iast hE)
  case castore => exact Or.inl (g_Cast hE)
  case lastore => exact Or.inl (g_Last hE)
  case aastore => exact Or.inl (g_Aast hE)
  case arraylength => exact Or.inl (g_Alen hE)
  case anewarray => exact Or.inl (g_Newa hE)
  case new => exact Or.inl (g_Obj hE)
  case ineg => exact Or.inl (g_Neg hE)
  case iadd => exact Or.inl (g_Op2I hE)
  case isub => exact Or.inl (g_Op2I hE)
  case imul => exact Or.inl (g_Op2I hE)
  case iand => exact Or.inl (g_Op2I hE)
  case ior => exact Or.inl (g_Op2I hE)
  case ixor => exact Or.inl (g_Op2I hE)
  case ishl => exact Or.inl (g_Op2I hE)
  case ishr => exact Or.inl (g_Op2I hE)
  case iushr => exact Or.inl (g_Op2I hE)
  case idiv => exact Or.inl (g_DivI hE)
  case irem => exact Or.inl (g_DivI hE)
  case ladd => exact Or.inl (g_Op2J hE)
  case lsub => exact Or.inl (g_Op2J hE)
  case lmul => exact Or.inl (g_Op2J hE)
  case land => exact Or.inl (g_Op2J hE)
  case ldiv => exact Or.inl (g_DivJ hE)
  case lrem => exact Or.inl (g_DivJ hE)
  case ldc ix =>
    refine Or.inl ?_
    have hE : (bif Nat.beq lk.1 0 then aGo (pc + 2) l (.int (Int32.ofInt lk.2.2) :: st) h else aGo (pc + 2) l (.ref (aSa + lk.2.1) :: st) h) = some r := hE
    simp only [Bool.cond_eq_ite] at hE
    split at hE
    · exact gGo hE
    · exact gGo hE
  case ifCond cnd off => cases cnd <;> exact Or.inl (g_If1 hE)
  case if_icmp cnd off => cases cnd <;> exact Or.inl (g_If2 hE)
  case newarray t => cases t <;> first | exact Or.inl (g_Newa hE) | (exact absurd hE (by intro z; cases z))
  case ireturn =>
    obtain ⟨x, h1, h2, h3⟩ := aRetI_ok (hE : aRetI rt st = some r)
    exact Or.inr (Or.inl ⟨some (.int x), h2, h1, Or.inr (Or.inl ⟨rfl, x, rfl, h3⟩)⟩)
  case lreturn =>
    obtain ⟨x, h1, h2, h3⟩ := aRetJ_ok (hE : aRetJ rt st = some r)
    exact Or.inr (Or.inl ⟨some (.long x), h2, h1, Or.inr (Or.inr ⟨rfl, x, rfl, h3⟩)⟩)
  case return_ =>
    obtain ⟨h1, h2, h3⟩ := aRetV_ok (hE : aRetV rt st = some r)
    exact Or.inr (Or.inl ⟨none, h2, h1, Or.inl ⟨rfl, rfl, h3⟩⟩)
  case invokevirtual ix =>
    have hE : (match lk.2.2 with
      | 1 => aSlen ss d pc l st h
      | 2 => aSat ss d pc l st h
      | _ => aCall lk.2.1 lk.1 st) = some r := hE
    split at hE
    · exact Or.inl (g_Slen hE)
    · exact Or.inl (g_Sat hE)
    · rename_i h1 h2
      obtain ⟨as, rr, e1, e2, e3⟩ := aCall_not hE
      exact Or.inr (Or.inr ⟨as, rr, e1, e2, e3, Or.inl ⟨ix, rfl, h1, h2⟩⟩)
  case invokespecial ix =>
    have hE : (match lk.2.2 with
      | 4 => aInit d pc l st h
      | _ => aCall lk.2.1 lk.1 st) = some r := hE
    split at hE
    · exact Or.inl (g_Init hE)
    · rename_i h1
      obtain ⟨as, rr, e1, e2, e3⟩ := aCall_not hE
      exact Or.inr (Or.inr ⟨as, rr, e1, e2, e3, Or.inr (Or.inl ⟨ix, rfl, h1⟩)⟩)
  case invokestatic ix =>
    have hE : (match lk.2.2 with
      | 3 => aCopy d pc l st h
      | _ => aCall lk.2.1 lk.1 st) = some r := hE
    split at hE
    · exact Or.inl (g_Copy hE)
    · rename_i h1
      obtain ⟨as, rr, e1, e2, e3⟩ := aCall_not hE
      exact Or.inr (Or.inr ⟨as, rr, e1, e2, e3, Or.inr (Or.inr ⟨ix, rfl, h1⟩)⟩)
  all_goals exact absurd hE (by intro z; cases z)
/-- a run's heap grows or stays, the script stays -/
theorem aRun_mono {ms : Nat → Option aMd} {ss : List (List Int32)} : ∀ (n : Nat) {d m pc : Nat} {l : List (Option Value)} {st : List Value} {h : aHp} {v : Option Value} {h' : aHp}, aRun ms ss n d m pc l st h = some (v, h') → aN h ≤ aN h' ∧ aSl h ≤ aSl h' ∧ aXn h' = aXn h ∧ aX h' = aX h := by
  intro n
  induction n with
  | zero => intro d m pc l st h v h' hr; cases hr
  | succ n ih =>
    intro d m pc l st h v h' hr
    unfold aRun at hr
    split at hr
    · cases hr
    split at hr
    · cases hr
    rename_i md hmd e he
    split at hr
    · cases hr
    · rename_i q hq
      rcases aExec_kind hq with ⟨q', e1, h1, h2, h3, h4⟩ | ⟨v', e1, -⟩ | ⟨as, rr, -, -, e1, -⟩
      · cases e1
        obtain ⟨g1, g2, g3, g4⟩ := ih hr
        exact ⟨Nat.le_trans h1 g1, Nat.le_trans h2 g2, g3.trans h3, g4.trans h4⟩
      · cases e1
      · cases e1
    · cases hr
      exact ⟨Nat.le_refl _, Nat.le_refl _, rfl, rfl⟩
    · split at hr
      · cases hr
      split at hr
      · cases hr
      simp only [Bool.cond_eq_ite] at hr
      split at hr
      · split at hr
        · cases hr
        · rename_i h1 hh
          obtain ⟨a1, a2, a3, a4⟩ := ih hh
          obtain ⟨g1, g2, g3, g4⟩ := ih hr
          exact ⟨Nat.le_trans a1 g1, Nat.le_trans a2 g2, g3.trans a3, g4.trans a4⟩
      · cases hr
end AKinds
