/-! ===== the constructors: a run that doesn't look at the script ===== -/
def aWx (h : aHp) (n : Nat) (x : Nat → Int32) : aHp := (aN h, aSl h, aK h, aL h, aI h, aJ h, aR h, n, x)
def rX (n : Nat) (x : Nat → Int32) : aRes → aRes
  | .inl q => .inl (q.1, q.2.1, q.2.2.1, aWx q.2.2.2 n x)
  | .inr q => .inr q
def cIald (pc : Nat) (l : List (Option Value)) (st : List Value) (h : aHp) : Option aRes := match st with
  | .int _ :: .ref a :: _ => bif Nat.beq a aXa then none else aIald pc l st h
  | _ => none
def cAlen (pc : Nat) (l : List (Option Value)) (st : List Value) (h : aHp) : Option aRes := match st with
  | .ref a :: _ => bif Nat.beq a aXa then none else aAlen pc l st h
  | _ => none
def cEx (ss : List (List Int32)) (rt d pc : Nat) (ins : Instr) (lk : aLk) (l : List (Option Value)) (st : List Value) (h : aHp) : Option aRes := match ins with
  | .iaload => cIald pc l st h
  | .arraylength => cAlen pc l st h
  | _ => aExec ss rt d pc ins lk l st h
section AX
variable {n pc : Nat} {x : Nat → Int32} {l : List (Option Value)} {st : List Value} {h : aHp} {r : aRes}
theorem xGo {l' : List (Option Value)} {st' : List Value} (hE : aGo pc l' st' h = some r) : aGo pc l' st' (aWx h n x) = some (rX n x r) := by cases hE; rfl
theorem xI {l' : List (Option Value)} {st' : List Value} {i : Nat → Nat → Int32} (hE : aGo pc l' st' (aSetI h i) = some r) : aGo pc l' st' (aSetI (aWx h n x) i) = some (rX n x r) := by cases hE; rfl
theorem xJ {l' : List (Option Value)} {st' : List Value} {i : Nat → Nat → Int64} (hE : aGo pc l' st' (aSetJ h i) = some r) : aGo pc l' st' (aSetJ (aWx h n x) i) = some (rX n x r) := by cases hE; rfl
theorem xR {l' : List (Option Value)} {st' : List Value} {i : Nat → Nat → Option Nat} (hE : aGo pc l' st' (aSetR h i) = some r) : aGo pc l' st' (aSetR (aWx h n x) i) = some (rX n x r) := by cases hE; rfl
theorem xN {l' : List (Option Value)} {st' : List Value} {k m s : Nat} (hE : aGo pc l' st' (aNew h k m s) = some r) : aGo pc l' st' (aNew (aWx h n x) k m s) = some (rX n x r) := by cases hE; rfl
theorem x_LoadI {i : Nat} (hE : aLoadI pc i l st h = some r) : aLoadI pc i l st (aWx h n x) = some (rX n x r) := by
  unfold aLoadI at hE ⊢
  try simp only [Bool.cond_eq_ite] at hE ⊢
  repeat' split at hE
  all_goals first | (cases hE; done) | exact xGo hE | exact xI hE | exact xJ hE | exact xR hE | exact xN hE | (simp only [*, if_true, if_false, ite_true, ite_false, reduceIte]; first | exact xGo hE | exact xI hE | exact xJ hE | exact xR hE | exact xN hE) | (simp_all; first | exact xGo hE | exact xI hE | exact xJ hE | exact xR hE | exact xN hE)
theorem x_LoadJ {i : Nat} (hE : aLoadJ pc i l st h = some r) : aLoadJ pc i l st (aWx h n x) = some (rX n x r) := by
  unfold aLoadJ at hE ⊢
  try simp only [Bool.cond_eq_ite] at hE ⊢
  repeat' split at hE
  all_goals first | (cases hE; done) | exact xGo hE | exact xI hE | exact xJ hE | exact xR hE | exact xN hE | (simp only [*, if_true, if_false, ite_true, ite_false, reduceIte]; first | exact xGo hE | exact xI hE | exact xJ hE | exact xR hE | exact xN hE) | (simp_all; first | exact xGo hE | exact xI hE | exact xJ hE | exact xR hE | exact xN hE)
theorem x_LoadA {i : Nat} (hE : aLoadA pc i l st h = some r) : aLoadA pc i l st (aWx h n x) = some (rX n x r) := by
  unfold aLoadA at hE ⊢
  try simp only [Bool.cond_eq_ite] at hE ⊢
  repeat' split at hE
  all_goals first | (cases hE; done) | exact xGo hE | exact xI hE | exact xJ hE | exact xR hE | exact xN hE | (simp only [*, if_true, if_false, ite_true, ite_false, reduceIte]; first | exact xGo hE | exact xI hE | exact xJ hE | exact xR hE | exact xN hE) | (simp_all; first | exact xGo hE | exact xI hE | exact xJ hE | exact xR hE | exact xN hE)
theorem x_StoreI {i : Nat} (hE : aStoreI pc i l st h = some r) : aStoreI pc i l st (aWx h n x) = some (rX n x r) := by
  unfold aStoreI at hE ⊢
  try simp only [Bool.cond_eq_ite] at hE ⊢
  repeat' split at hE
  all_goals first | (cases hE; done) | exact xGo hE | exact xI hE | exact xJ hE | exact xR hE | exact xN hE | (simp only [*, if_true, if_false, ite_true, ite_false, reduceIte]; first | exact xGo hE | exact xI hE | exact xJ hE | exact xR hE | exact xN hE) | (simp_all; first | exact xGo hE | exact xI hE | exact xJ hE | exact xR hE | exact xN hE)
theorem x_StoreJ {i : Nat} (hE : aStoreJ pc i l st h = some r) : aStoreJ pc i l st (aWx h n x) = some (rX n x r) := by
  unfold aStoreJ at hE ⊢
  try simp only [Bool.cond_eq_ite] at hE ⊢
  repeat' split at hE
  all_goals first | (cases hE; done) | exact xGo hE | exact xI hE | exact xJ hE | exact xR hE | exact xN hE | (simp only [*, if_true, if_false, ite_true, ite_false, reduceIte]; first | exact xGo hE | exact xI hE | exact xJ hE | exact xR hE | exact xN hE) | (simp_all; first | exact xGo hE | exact xI hE | exact xJ hE | exact xR hE | exact xN hE)
theorem x_StoreA {i : Nat} (hE : aStoreA pc i l st h = some r) : aStoreA pc i l st (aWx h n x) = some (rX n x r) := by
  unfold aStoreA at hE ⊢
  try simp only [Bool.cond_eq_ite] at hE ⊢
  repeat' split at hE
  all_goals first | (cases hE; done) | exact xGo hE | exact xI hE | exact xJ hE | exact xR hE | exact xN hE | (simp only [*, if_true, if_false, ite_true, ite_false, reduceIte]; first | exact xGo hE | exact xI hE | exact xJ hE | exact xR hE | exact xN hE) | (simp_all; first | exact xGo hE | exact xI hE | exact xJ hE | exact xR hE | exact xN hE)
theorem x_Op2I {f : Int32 → Int32 → Int32} (hE : aOp2I f pc l st h = some r) : aOp2I f pc l st (aWx h n x) = some (rX n x r) := by
  unfold aOp2I at hE ⊢
  try simp only [Bool.cond_eq_ite] at hE ⊢
  repeat' split at hE
  all_goals first | (cases hE; done) | exact xGo hE | exact xI hE | exact xJ hE | exact xR hE | exact xN hE | (simp only [*, if_true, if_false, ite_true, ite_false, reduceIte]; first | exact xGo hE | exact xI hE | exact xJ hE | exact xR hE | exact xN hE) | (simp_all; first | exact xGo hE | exact xI hE | exact xJ hE | exact xR hE | exact xN hE)
theorem x_DivI {f : Int32 → Int32 → Int32} (hE : aDivI f pc l st h = some r) : aDivI f pc l st (aWx h n x) = some (rX n x r) := by
  unfold aDivI at hE ⊢
  try simp only [Bool.cond_eq_ite] at hE ⊢
  repeat' split at hE
  all_goals first | (cases hE; done) | exact xGo hE | exact xI hE | exact xJ hE | exact xR hE | exact xN hE | (simp only [*, if_true, if_false, ite_true, ite_false, reduceIte]; first | exact xGo hE | exact xI hE | exact xJ hE | exact xR hE | exact xN hE) | (simp_all; first | exact xGo hE | exact xI hE | exact xJ hE | exact xR hE | exact xN hE)
theorem x_Op2J {f : Int64 → Int64 → Int64} (hE : aOp2J f pc l st h = some r) : aOp2J f pc l st (aWx h n x) = some (rX n x r) := by
  unfold aOp2J at hE ⊢
  try simp only [Bool.cond_eq_ite] at hE ⊢
  repeat' split at hE
  all_goals first | (cases hE; done) | exact xGo hE | exact xI hE | exact xJ hE | exact xR hE | exact xN hE | (simp only [*, if_true, if_false, ite_true, ite_false, reduceIte]; first | exact xGo hE | exact xI hE | exact xJ hE | exact xR hE | exact xN hE) | (simp_all; first | exact xGo hE | exact xI hE | exact xJ hE | exact xR hE | exact xN hE)
theorem x_DivJ {f : Int64 → Int64 → Int64} (hE : aDivJ f pc l st h = some r) : aDivJ f pc l st (aWx h n x) = some (rX n x r) := by
  unfold aDivJ at hE ⊢
  try simp only [Bool.cond_eq_ite] at hE ⊢
  repeat' split at hE
  all_goals first | (cases hE; done) | exact xGo hE | exact xI hE | exact xJ hE | exact xR hE | exact xN hE | (simp only [*, if_true, if_false, ite_true, ite_false, reduceIte]; first | exact xGo hE | exact xI hE | exact xJ hE | exact xR hE | exact xN hE) | (simp_all; first | exact xGo hE | exact xI hE | exact xJ hE | exact xR hE | exact xN hE)
theorem x_If1 {c : Int32 → Prop} [DecidablePred c] {t : Nat} (hE : aIf1 c pc t l st h = some r) : aIf1 c pc t l st (aWx h n x) = some (rX n x r) := by
  unfold aIf1 at hE ⊢
  try simp only [Bool.cond_eq_ite] at hE ⊢
  repeat' split at hE
  all_goals first | (cases hE; done) | exact xGo hE | exact xI hE | exact xJ hE | exact xR hE | exact xN hE | (simp only [*, if_true, if_false, ite_true, ite_false, reduceIte]; first | exact xGo hE | exact xI hE | exact xJ hE | exact xR hE | exact xN hE) | (simp_all; first | exact xGo hE | exact xI hE | exact xJ hE | exact xR hE | exact xN hE)
theorem x_If2 {c : Int32 → Int32 → Prop} [∀ x y, Decidable (c x y)] {t : Nat} (hE : aIf2 c pc t l st h = some r) : aIf2 c pc t l st (aWx h n x) = some (rX n x r) := by
  unfold aIf2 at hE ⊢
  try simp only [Bool.cond_eq_ite] at hE ⊢
  repeat' split at hE
  all_goals first | (cases hE; done) | exact xGo hE | exact xI hE | exact xJ hE | exact xR hE | exact xN hE | (simp only [*, if_true, if_false, ite_true, ite_false, reduceIte]; first | exact xGo hE | exact xI hE | exact xJ hE | exact xR hE | exact xN hE) | (simp_all; first | exact xGo hE | exact xI hE | exact xJ hE | exact xR hE | exact xN hE)
theorem x_Cald  (hE : aCald pc l st h = some r) : aCald pc l st (aWx h n x) = some (rX n x r) := by
  unfold aCald at hE ⊢
  try simp only [Bool.cond_eq_ite] at hE ⊢
  repeat' split at hE
  all_goals first | (cases hE; done) | exact xGo hE | exact xI hE | exact xJ hE | exact xR hE | exact xN hE | (simp only [*, if_true, if_false, ite_true, ite_false, reduceIte]; first | exact xGo hE | exact xI hE | exact xJ hE | exact xR hE | exact xN hE) | (simp_all; first | exact xGo hE | exact xI hE | exact xJ hE | exact xR hE | exact xN hE)
theorem x_Lald  (hE : aLald pc l st h = some r) : aLald pc l st (aWx h n x) = some (rX n x r) := by
  unfold aLald at hE ⊢
  try simp only [Bool.cond_eq_ite] at hE ⊢
  repeat' split at hE
  all_goals first | (cases hE; done) | exact xGo hE | exact xI hE | exact xJ hE | exact xR hE | exact xN hE | (simp only [*, if_true, if_false, ite_true, ite_false, reduceIte]; first | exact xGo hE | exact xI hE | exact xJ hE | exact xR hE | exact xN hE) | (simp_all; first | exact xGo hE | exact xI hE | exact xJ hE | exact xR hE | exact xN hE)
theorem x_Aald  (hE : aAald pc l st h = some r) : aAald pc l st (aWx h n x) = some (rX n x r) := by
  unfold aAald at hE ⊢
  try simp only [Bool.cond_eq_ite] at hE ⊢
  repeat' split at hE
  all_goals first | (cases hE; done) | exact xGo hE | exact xI hE | exact xJ hE | exact xR hE | exact xN hE | (simp only [*, if_true, if_false, ite_true, ite_false, reduceIte]; first | exact xGo hE | exact xI hE | exact xJ hE | exact xR hE | exact xN hE) | (simp_all; first | exact xGo hE | exact xI hE | exact xJ hE | exact xR hE | exact xN hE)
theorem x_Iast  (hE : aIast pc l st h = some r) : aIast pc l st (aWx h n x) = some (rX n x r) := by
  unfold aIast at hE ⊢
  try simp only [Bool.cond_eq_ite] at hE ⊢
  repeat' split at hE
  all_goals first | (cases hE; done) | exact xGo hE | exact xI hE | exact xJ hE | exact xR hE | exact xN hE | (simp only [*, if_true, if_false, ite_true, ite_false, reduceIte]; first | exact xGo hE | exact xI hE | exact xJ hE | exact xR hE | exact xN hE) | (simp_all; first | exact xGo hE | exact xI hE | exact xJ hE | exact xR hE | exact xN hE)
theorem x_Cast  (hE : aCast pc l st h = some r) : aCast pc l st (aWx h n x) = some (rX n x r) := by
  unfold aCast at hE ⊢
  try simp only [Bool.cond_eq_ite] at hE ⊢
  repeat' split at hE
  all_goals first | (cases hE; done) | exact xGo hE | exact xI hE | exact xJ hE | exact xR hE | exact xN hE | (simp only [*, if_true, if_false, ite_true, ite_false, reduceIte]; first | exact xGo hE | exact xI hE | exact xJ hE | exact xR hE | exact xN hE) | (simp_all; first | exact xGo hE | exact xI hE | exact xJ hE | exact xR hE | exact xN hE)
theorem x_Last  (hE : aLast pc l st h = some r) : aLast pc l st (aWx h n x) = some (rX n x r) := by
  unfold aLast at hE ⊢
  try simp only [Bool.cond_eq_ite] at hE ⊢
  repeat' split at hE
  all_goals first | (cases hE; done) | exact xGo hE | exact xI hE | exact xJ hE | exact xR hE | exact xN hE | (simp only [*, if_true, if_false, ite_true, ite_false, reduceIte]; first | exact xGo hE | exact xI hE | exact xJ hE | exact xR hE | exact xN hE) | (simp_all; first | exact xGo hE | exact xI hE | exact xJ hE | exact xR hE | exact xN hE)
theorem x_Aast  (hE : aAast pc l st h = some r) : aAast pc l st (aWx h n x) = some (rX n x r) := by
  unfold aAast at hE ⊢
  try simp only [Bool.cond_eq_ite] at hE ⊢
  repeat' split at hE
  all_goals first | (cases hE; done) | exact xGo hE | exact xI hE | exact xJ hE | exact xR hE | exact xN hE | (simp only [*, if_true, if_false, ite_true, ite_false, reduceIte]; first | exact xGo hE | exact xI hE | exact xJ hE | exact xR hE | exact xN hE) | (simp_all; first | exact xGo hE | exact xI hE | exact xJ hE | exact xR hE | exact xN hE)
theorem x_Newa {kd b : Nat} (hE : aNewa kd b pc l st h = some r) : aNewa kd b pc l st (aWx h n x) = some (rX n x r) := by
  unfold aNewa at hE ⊢
  try simp only [Bool.cond_eq_ite] at hE ⊢
  repeat' split at hE
  all_goals first | (cases hE; done) | exact xGo hE | exact xI hE | exact xJ hE | exact xR hE | exact xN hE | (simp only [*, if_true, if_false, ite_true, ite_false, reduceIte]; first | exact xGo hE | exact xI hE | exact xJ hE | exact xR hE | exact xN hE) | (simp_all; first | exact xGo hE | exact xI hE | exact xJ hE | exact xR hE | exact xN hE)
theorem x_Slen {ss : List (List Int32)} {d : Nat} (hE : aSlen ss d pc l st h = some r) : aSlen ss d pc l st (aWx h n x) = some (rX n x r) := by
  unfold aSlen at hE ⊢
  try simp only [Bool.cond_eq_ite] at hE ⊢
  repeat' split at hE
  all_goals first | (cases hE; done) | exact xGo hE | exact xI hE | exact xJ hE | exact xR hE | exact xN hE | (simp only [*, if_true, if_false, ite_true, ite_false, reduceIte]; first | exact xGo hE | exact xI hE | exact xJ hE | exact xR hE | exact xN hE) | (simp_all; first | exact xGo hE | exact xI hE | exact xJ hE | exact xR hE | exact xN hE)
theorem x_Sat {ss : List (List Int32)} {d : Nat} (hE : aSat ss d pc l st h = some r) : aSat ss d pc l st (aWx h n x) = some (rX n x r) := by
  unfold aSat at hE ⊢
  try simp only [Bool.cond_eq_ite] at hE ⊢
  repeat' split at hE
  all_goals first | (cases hE; done) | exact xGo hE | exact xI hE | exact xJ hE | exact xR hE | exact xN hE | (simp only [*, if_true, if_false, ite_true, ite_false, reduceIte]; first | exact xGo hE | exact xI hE | exact xJ hE | exact xR hE | exact xN hE) | (simp_all; first | exact xGo hE | exact xI hE | exact xJ hE | exact xR hE | exact xN hE)
theorem x_Copy {d : Nat} (hE : aCopy d pc l st h = some r) : aCopy d pc l st (aWx h n x) = some (rX n x r) := by
  unfold aCopy at hE ⊢
  try simp only [Bool.cond_eq_ite] at hE ⊢
  repeat' split at hE
  all_goals first | (cases hE; done) | exact xGo hE | exact xI hE | exact xJ hE | exact xR hE | exact xN hE | (simp only [*, if_true, if_false, ite_true, ite_false, reduceIte]; first | exact xGo hE | exact xI hE | exact xJ hE | exact xR hE | exact xN hE) | (simp_all; first | exact xGo hE | exact xI hE | exact xJ hE | exact xR hE | exact xN hE)
theorem x_Init {d : Nat} (hE : aInit d pc l st h = some r) : aInit d pc l st (aWx h n x) = some (rX n x r) := by
  unfold aInit at hE ⊢
  try simp only [Bool.cond_eq_ite] at hE ⊢
  repeat' split at hE
  all_goals first | (cases hE; done) | exact xGo hE | exact xI hE | exact xJ hE | exact xR hE | exact xN hE | (simp only [*, if_true, if_false, ite_true, ite_false, reduceIte]; first | exact xGo hE | exact xI hE | exact xJ hE | exact xR hE | exact xN hE) | (simp_all; first | exact xGo hE | exact xI hE | exact xJ hE | exact xR hE | exact xN hE)
theorem x_Sw {a b c : Int} {o : Array Int} (hE : aSw a b c o pc l st h = some r) : aSw a b c o pc l st (aWx h n x) = some (rX n x r) := by
  unfold aSw at hE ⊢
  try simp only [Bool.cond_eq_ite] at hE ⊢
  repeat' split at hE
  all_goals first | (cases hE; done) | exact xGo hE | exact xI hE | exact xJ hE | exact xR hE | exact xN hE | (simp only [*, if_true, if_false, ite_true, ite_false, reduceIte]; first | exact xGo hE | exact xI hE | exact xJ hE | exact xR hE | exact xN hE) | (simp_all; first | exact xGo hE | exact xI hE | exact xJ hE | exact xR hE | exact xN hE)
theorem x_Lsw {a : Int} {o : Array (Int × Int)} (hE : aLsw a o pc l st h = some r) : aLsw a o pc l st (aWx h n x) = some (rX n x r) := by
  unfold aLsw at hE ⊢
  try simp only [Bool.cond_eq_ite] at hE ⊢
  repeat' split at hE
  all_goals first | (cases hE; done) | exact xGo hE | exact xI hE | exact xJ hE | exact xR hE | exact xN hE | (simp only [*, if_true, if_false, ite_true, ite_false, reduceIte]; first | exact xGo hE | exact xI hE | exact xJ hE | exact xR hE | exact xN hE) | (simp_all; first | exact xGo hE | exact xI hE | exact xJ hE | exact xR hE | exact xN hE)
theorem x_Pop1  (hE : aPop1 pc l st h = some r) : aPop1 pc l st (aWx h n x) = some (rX n x r) := by
  unfold aPop1 at hE ⊢
  try simp only [Bool.cond_eq_ite] at hE ⊢
  repeat' split at hE
  all_goals first | (cases hE; done) | exact xGo hE | exact xI hE | exact xJ hE | exact xR hE | exact xN hE | (simp only [*, if_true, if_false, ite_true, ite_false, reduceIte]; first | exact xGo hE | exact xI hE | exact xJ hE | exact xR hE | exact xN hE) | (simp_all; first | exact xGo hE | exact xI hE | exact xJ hE | exact xR hE | exact xN hE)
theorem x_Dup  (hE : aDup pc l st h = some r) : aDup pc l st (aWx h n x) = some (rX n x r) := by
  unfold aDup at hE ⊢
  try simp only [Bool.cond_eq_ite] at hE ⊢
  repeat' split at hE
  all_goals first | (cases hE; done) | exact xGo hE | exact xI hE | exact xJ hE | exact xR hE | exact xN hE | (simp only [*, if_true, if_false, ite_true, ite_false, reduceIte]; first | exact xGo hE | exact xI hE | exact xJ hE | exact xR hE | exact xN hE) | (simp_all; first | exact xGo hE | exact xI hE | exact xJ hE | exact xR hE | exact xN hE)
theorem x_Dup2  (hE : aDup2 pc l st h = some r) : aDup2 pc l st (aWx h n x) = some (rX n x r) := by
  unfold aDup2 at hE ⊢
  try simp only [Bool.cond_eq_ite] at hE ⊢
  repeat' split at hE
  all_goals first | (cases hE; done) | exact xGo hE | exact xI hE | exact xJ hE | exact xR hE | exact xN hE | (simp only [*, if_true, if_false, ite_true, ite_false, reduceIte]; first | exact xGo hE | exact xI hE | exact xJ hE | exact xR hE | exact xN hE) | (simp_all; first | exact xGo hE | exact xI hE | exact xJ hE | exact xR hE | exact xN hE)
theorem x_Nul {t f : Nat} (hE : aNul t f l st h = some r) : aNul t f l st (aWx h n x) = some (rX n x r) := by
  unfold aNul at hE ⊢
  try simp only [Bool.cond_eq_ite] at hE ⊢
  repeat' split at hE
  all_goals first | (cases hE; done) | exact xGo hE | exact xI hE | exact xJ hE | exact xR hE | exact xN hE | (simp only [*, if_true, if_false, ite_true, ite_false, reduceIte]; first | exact xGo hE | exact xI hE | exact xJ hE | exact xR hE | exact xN hE) | (simp_all; first | exact xGo hE | exact xI hE | exact xJ hE | exact xR hE | exact xN hE)
theorem x_Obj {ci nf : Nat} (hE : aObj ci nf pc l st h = some r) : aObj ci nf pc l st (aWx h n x) = some (rX n x r) := by
  unfold aObj at hE ⊢
  try simp only [Bool.cond_eq_ite] at hE ⊢
  repeat' split at hE
  all_goals first | (cases hE; done) | exact xGo hE | exact xI hE | exact xJ hE | exact xR hE | exact xN hE | (simp only [*, if_true, if_false, ite_true, ite_false, reduceIte]; first | exact xGo hE | exact xI hE | exact xJ hE | exact xR hE | exact xN hE) | (simp_all; first | exact xGo hE | exact xI hE | exact xJ hE | exact xR hE | exact xN hE)
theorem x_Inc {i : Nat} {m : Int} (hE : aInc pc i m l st h = some r) : aInc pc i m l st (aWx h n x) = some (rX n x r) := by
  unfold aInc at hE ⊢
  try simp only [Bool.cond_eq_ite] at hE ⊢
  repeat' split at hE
  all_goals first | (cases hE; done) | exact xGo hE | exact xI hE | exact xJ hE | exact xR hE | exact xN hE | (simp only [*, if_true, if_false, ite_true, ite_false, reduceIte]; first | exact xGo hE | exact xI hE | exact xJ hE | exact xR hE | exact xN hE) | (simp_all; first | exact xGo hE | exact xI hE | exact xJ hE | exact xR hE | exact xN hE)
theorem x_I2L  (hE : aI2L pc l st h = some r) : aI2L pc l st (aWx h n x) = some (rX n x r) := by
  unfold aI2L at hE ⊢
  try simp only [Bool.cond_eq_ite] at hE ⊢
  repeat' split at hE
  all_goals first | (cases hE; done) | exact xGo hE | exact xI hE | exact xJ hE | exact xR hE | exact xN hE | (simp only [*, if_true, if_false, ite_true, ite_false, reduceIte]; first | exact xGo hE | exact xI hE | exact xJ hE | exact xR hE | exact xN hE) | (simp_all; first | exact xGo hE | exact xI hE | exact xJ hE | exact xR hE | exact xN hE)
theorem x_L2I  (hE : aL2I pc l st h = some r) : aL2I pc l st (aWx h n x) = some (rX n x r) := by
  unfold aL2I at hE ⊢
  try simp only [Bool.cond_eq_ite] at hE ⊢
  repeat' split at hE
  all_goals first | (cases hE; done) | exact xGo hE | exact xI hE | exact xJ hE | exact xR hE | exact xN hE | (simp only [*, if_true, if_false, ite_true, ite_false, reduceIte]; first | exact xGo hE | exact xI hE | exact xJ hE | exact xR hE | exact xN hE) | (simp_all; first | exact xGo hE | exact xI hE | exact xJ hE | exact xR hE | exact xN hE)
theorem x_Neg  (hE : aNeg pc l st h = some r) : aNeg pc l st (aWx h n x) = some (rX n x r) := by
  unfold aNeg at hE ⊢
  try simp only [Bool.cond_eq_ite] at hE ⊢
  repeat' split at hE
  all_goals first | (cases hE; done) | exact xGo hE | exact xI hE | exact xJ hE | exact xR hE | exact xN hE | (simp only [*, if_true, if_false, ite_true, ite_false, reduceIte]; first | exact xGo hE | exact xI hE | exact xJ hE | exact xR hE | exact xN hE) | (simp_all; first | exact xGo hE | exact xI hE | exact xJ hE | exact xR hE | exact xN hE)
theorem x_Lcmp  (hE : aLcmp pc l st h = some r) : aLcmp pc l st (aWx h n x) = some (rX n x r) := by
  unfold aLcmp at hE ⊢
  try simp only [Bool.cond_eq_ite] at hE ⊢
  repeat' split at hE
  all_goals first | (cases hE; done) | exact xGo hE | exact xI hE | exact xJ hE | exact xR hE | exact xN hE | (simp only [*, if_true, if_false, ite_true, ite_false, reduceIte]; first | exact xGo hE | exact xI hE | exact xJ hE | exact xR hE | exact xN hE) | (simp_all; first | exact xGo hE | exact xI hE | exact xJ hE | exact xR hE | exact xN hE)
theorem x_Fld {ty : Int} {ci k : Nat} (hE : aFld ty pc ci k l st h = some r) : aFld ty pc ci k l st (aWx h n x) = some (rX n x r) := by
  unfold aFld at hE ⊢
  try simp only [Bool.cond_eq_ite] at hE ⊢
  repeat' split at hE
  all_goals first | (cases hE; done) | exact xGo hE | exact xI hE | exact xJ hE | exact xR hE | exact xN hE | (simp only [*, if_true, if_false, ite_true, ite_false, reduceIte]; first | exact xGo hE | exact xI hE | exact xJ hE | exact xR hE | exact xN hE) | (simp_all; first | exact xGo hE | exact xI hE | exact xJ hE | exact xR hE | exact xN hE)
theorem x_Put {ty : Int} {ci k : Nat} (hE : aPut ty pc ci k l st h = some r) : aPut ty pc ci k l st (aWx h n x) = some (rX n x r) := by
  unfold aPut at hE ⊢
  try simp only [Bool.cond_eq_ite] at hE ⊢
  repeat' split at hE
  all_goals first | (cases hE; done) | exact xGo hE | exact xI hE | exact xJ hE | exact xR hE | exact xN hE | (simp only [*, if_true, if_false, ite_true, ite_false, reduceIte]; first | exact xGo hE | exact xI hE | exact xJ hE | exact xR hE | exact xN hE) | (simp_all; first | exact xGo hE | exact xI hE | exact xJ hE | exact xR hE | exact xN hE)
theorem x_Iald (hE : cIald pc l st h = some r) : aIald pc l st (aWx h n x) = some (rX n x r) := by
  unfold cIald at hE
  split at hE
  · rename_i i a r'
    cases ha : Nat.beq a aXa with
    | true => rw [ha] at hE; cases hE
    | false =>
      rw [ha] at hE
      replace hE : aIald pc l (.int i :: .ref a :: r') h = some r := hE
      unfold aIald at hE ⊢
      replace hE : (bif Nat.beq a aXa then (if i < 0 ∨ aXn h ≤ i.toNatClampNeg then none else aGo (pc + 1) l (.int (aX h i.toNatClampNeg) :: r') h) else bif aInHp h a && Nat.beq (aK h a) 100 then (if i < 0 ∨ aL h a ≤ i.toNatClampNeg then none else aGo (pc + 1) l (.int (aI h a i.toNatClampNeg) :: r') h) else none) = some r := hE
      show (bif Nat.beq a aXa then (if i < 0 ∨ aXn (aWx h n x) ≤ i.toNatClampNeg then none else aGo (pc + 1) l (.int (aX (aWx h n x) i.toNatClampNeg) :: r') (aWx h n x)) else bif aInHp h a && Nat.beq (aK h a) 100 then (if i < 0 ∨ aL h a ≤ i.toNatClampNeg then none else aGo (pc + 1) l (.int (aI h a i.toNatClampNeg) :: r') (aWx h n x)) else none) = _
      rw [ha, cond_false] at hE ⊢
      cases hb : aInHp h a && Nat.beq (aK h a) 100 with
      | false => rw [hb] at hE; cases hE
      | true =>
        rw [hb, cond_true] at hE
        rw [cond_true]
        split at hE
        · cases hE
        · rename_i hc; rw [if_neg hc]; exact xGo hE
  · cases hE
theorem x_Alen (hE : cAlen pc l st h = some r) : aAlen pc l st (aWx h n x) = some (rX n x r) := by
  unfold cAlen at hE
  split at hE
  · rename_i a r'
    cases ha : Nat.beq a aXa with
    | true => rw [ha] at hE; cases hE
    | false =>
      rw [ha] at hE
      replace hE : aAlen pc l (.ref a :: r') h = some r := hE
      unfold aAlen at hE ⊢
      replace hE : (bif Nat.beq a aXa then aGo (pc + 1) l (.int (Int32.ofNat (aXn h)) :: r') h else bif aInHp h a && Nat.ble 100 (aK h a) && Nat.ble (aK h a) 103 then aGo (pc + 1) l (.int (Int32.ofNat (aL h a)) :: r') h else none) = some r := hE
      show (bif Nat.beq a aXa then aGo (pc + 1) l (.int (Int32.ofNat (aXn (aWx h n x))) :: r') (aWx h n x) else bif aInHp h a && Nat.ble 100 (aK h a) && Nat.ble (aK h a) 103 then aGo (pc + 1) l (.int (Int32.ofNat (aL h a)) :: r') (aWx h n x) else none) = _
      rw [ha, cond_false] at hE ⊢
      cases hb : aInHp h a && Nat.ble 100 (aK h a) && Nat.ble (aK h a) 103 with
      | false => rw [hb] at hE; cases hE
      | true =>
        rw [hb, cond_true] at hE
        rw [cond_true]
        exact xGo hE
  · cases hE
theorem xRet {o : Option aRes} (hE : o = some r) (hr : ∀ q, r ≠ .inl q) : o = some (rX n x r) := by
  cases r with
  | inl q => exact absurd rfl (hr q)
  | inr q => exact hE
theorem x_Call {k m : Nat} (hE : aCall k m st = some r) : aCall k m st = some (rX n x r) := by
  refine xRet hE (fun q hq => ?_)
  subst hq
  unfold aCall at hE
  simp only [Bool.cond_eq_ite] at hE
  repeat' split at hE
  all_goals cases hE
theorem cEx_ok {ss : List (List Int32)} {rt d : Nat} {ins : Instr} {lk : aLk} (hE : cEx ss rt d pc ins lk l st h = some r) : aExec ss rt d pc ins lk l st (aWx h n x) = some (rX n x r) := by
  cases ins
  case iaload => exact x_Iald hE
  case arraylength => exact x_Alen hE
  case iload_n => exact x_LoadI hE
  case iload => exact x_LoadI hE
  case lload_n => exact x_LoadJ hE
  case lload => exact x_LoadJ hE
  case aload_n => exact x_LoadA hE
  case istore_n => exact x_StoreI hE
  case istore => exact x_StoreI hE
  case lstore_n => exact x_StoreJ hE
  case lstore => exact x_StoreJ hE
  case astore_n => exact x_StoreA hE
  case iinc => exact x_Inc hE
  case iadd => exact x_Op2I hE
  case isub => exact x_Op2I hE
  case imul => exact x_Op2I hE
  case iand => exact x_Op2I hE
  case ior => exact x_Op2I hE
  case ixor => exact x_Op2I hE
  case ishl => exact x_Op2I hE
  case ishr => exact x_Op2I hE
  case iushr => exact x_Op2I hE
  case idiv => exact x_DivI hE
  case irem => exact x_DivI hE
  case ineg => exact x_Neg hE
  case ladd => exact x_Op2J hE
  case lsub => exact x_Op2J hE
  case lmul => exact x_Op2J hE
  case land => exact x_Op2J hE
  case ldiv => exact x_DivJ hE
  case lrem => exact x_DivJ hE
  case lcmp => exact x_Lcmp hE
  case i2l => exact x_I2L hE
  case l2i => exact x_L2I hE
  case dup => exact x_Dup hE
  case dup2 => exact x_Dup2 hE
  case pop => exact x_Pop1 hE
  case ifnull => exact x_Nul hE
  case ifnonnull => exact x_Nul hE
  case tableswitch => exact x_Sw hE
  case lookupswitch => exact x_Lsw hE
  case getfield => exact x_Fld hE
  case putfield => exact x_Put hE
  case caload => exact x_Cald hE
  case laload => exact x_Lald hE
  case aaload => exact x_Aald hE
  case iastore => exact x_Iast hE
  case castore => exact x_Cast hE
  case lastore => exact x_Last hE
  case aastore => exact x_Aast hE
  case anewarray => exact x_Newa hE
  case new => exact x_Obj hE
  case iconst => exact xGo hE
  case bipush => exact xGo hE
  case sipush => exact xGo hE
  case lconst => exact xGo hE
  case aconst_null => exact xGo hE
  case ldc2_w => exact xGo hE
  case goto => exact xGo hE
  case ldc ix =>
    replace hE : (bif Nat.beq lk.1 0 then aGo (pc + 2) l (.int (Int32.ofInt lk.2.2) :: st) h else aGo (pc + 2) l (.ref (aSa + lk.2.1) :: st) h) = some r := hE
    show (bif Nat.beq lk.1 0 then aGo (pc + 2) l (.int (Int32.ofInt lk.2.2) :: st) (aWx h n x) else aGo (pc + 2) l (.ref (aSa + lk.2.1) :: st) (aWx h n x)) = _
    cases hz : Nat.beq lk.1 0 with
    | true => rw [hz, cond_true] at hE; rw [cond_true]; exact xGo hE
    | false => rw [hz, cond_false] at hE; rw [cond_false]; exact xGo hE
  case ifCond cnd off => cases cnd <;> exact x_If1 hE
  case if_icmp cnd off => cases cnd <;> exact x_If2 hE
  case newarray t => cases t <;> first | exact x_Newa hE | (exact absurd hE (by intro z; cases z))
  case ireturn =>
    obtain ⟨y, h1, h2, h3⟩ := aRetI_ok (hE : aRetI rt st = some r)
    subst h2
    exact (hE : aRetI rt st = _)
  case lreturn =>
    obtain ⟨y, h1, h2, h3⟩ := aRetJ_ok (hE : aRetJ rt st = some r)
    subst h2
    exact (hE : aRetJ rt st = _)
  case return_ =>
    obtain ⟨h1, h2, h3⟩ := aRetV_ok (hE : aRetV rt st = some r)
    subst h2
    exact (hE : aRetV rt st = _)
  case invokevirtual ix =>
    replace hE : (match lk.2.2 with
      | 1 => aSlen ss d pc l st h
      | 2 => aSat ss d pc l st h
      | _ => aCall lk.2.1 lk.1 st) = some r := hE
    show (match lk.2.2 with
      | 1 => aSlen ss d pc l st (aWx h n x)
      | 2 => aSat ss d pc l st (aWx h n x)
      | _ => aCall lk.2.1 lk.1 st) = _
    split at hE
    · exact x_Slen hE
    · exact x_Sat hE
    · exact x_Call hE
  case invokespecial ix =>
    replace hE : (match lk.2.2 with
      | 4 => aInit d pc l st h
      | _ => aCall lk.2.1 lk.1 st) = some r := hE
    show (match lk.2.2 with
      | 4 => aInit d pc l st (aWx h n x)
      | _ => aCall lk.2.1 lk.1 st) = _
    split at hE
    · exact x_Init hE
    · exact x_Call hE
  case invokestatic ix =>
    replace hE : (match lk.2.2 with
      | 3 => aCopy d pc l st h
      | _ => aCall lk.2.1 lk.1 st) = some r := hE
    show (match lk.2.2 with
      | 3 => aCopy d pc l st (aWx h n x)
      | _ => aCall lk.2.1 lk.1 st) = _
    split at hE
    · exact x_Copy hE
    · exact x_Call hE
  all_goals exact absurd hE (by intro z; cases z)
end AX
def cRun (ms : Nat → Option aMd) (ss : List (List Int32)) : Nat → Nat → Nat → Nat → List (Option Value) → List Value → aHp → Option (Option Value × aHp)
  | 0, _, _, _, _, _, _ => none
  | n + 1, d, m, pc, l, st, h => match ms m with
    | none => none
    | some md => match aFind md.2.2.2.2.2 pc with
      | none => none
      | some e => match cEx ss md.2.2.2.2.1 d pc e.1 e.2.2 l st h with
        | none => none
        | some (.inl q) => cRun ms ss n d m q.1 q.2.1 q.2.2.1 q.2.2.2
        | some (.inr (.inl v)) => some (v, h)
        | some (.inr (.inr q)) => match d with
          | 0 => none
          | d' + 1 => match ms q.1 with
            | none => none
            | some mq => bif Nat.ble (aLoc q.2.1).length mq.2.2.2.1 && aRcv e.1 mq.1 h q.2.1 then (match cRun ms ss n d' q.1 0 (aEnter mq.2.2.2.1 q.2.1) [] h with
              | none => none
              | some (v, h') => cRun ms ss n d m (pc + 3) l (v.toList ++ q.2.2) h') else none
theorem cRun_ok {ms : Nat → Option aMd} {ss : List (List Int32)} {xn : Nat} {x : Nat → Int32} : ∀ (n : Nat) {d m pc : Nat} {l : List (Option Value)} {st : List Value} {h : aHp} {v : Option Value} {h' : aHp}, cRun ms ss n d m pc l st h = some (v, h') → aRun ms ss n d m pc l st (aWx h xn x) = some (v, aWx h' xn x) := by
  intro n
  induction n with
  | zero => intro d m pc l st h v h' hr; cases hr
  | succ n ih =>
    intro d m pc l st h v h' hr
    unfold cRun at hr
    unfold aRun
    split at hr
    · cases hr
    rename_i md hmd
    try rw [hmd]
    try dsimp only
    split at hr
    · cases hr
    rename_i e he
    try rw [he]
    try dsimp only
    split at hr
    · cases hr
    · rename_i q hE
      rw [cEx_ok (n := xn) (x := x) hE]
      exact ih hr
    · rename_i v1 hE
      rw [cEx_ok (n := xn) (x := x) hE]
      cases hr
      rfl
    · rename_i q hE
      rw [cEx_ok (n := xn) (x := x) hE]
      dsimp only [rX]
      split at hr
      · cases hr
      rename_i d0
      try dsimp only
      split at hr
      · cases hr
      rename_i mq hmq
      try rw [hmq]
      try dsimp only
      have er : aRcv e.1 mq.1 (aWx h xn x) q.2.1 = aRcv e.1 mq.1 h q.2.1 := rfl
      rw [er]
      cases hc : Nat.ble (aLoc q.2.1).length mq.2.2.2.1 && aRcv e.1 mq.1 h q.2.1 with
      | false => rw [hc, cond_false] at hr; cases hr
      | true =>
        rw [hc, cond_true] at hr
        rw [cond_true]
        split at hr
        · cases hr
        rename_i v1 h1 hcall
        rw [ih hcall]
        exact ih hr
/-- to a place of the method -/
def cTo (ms : Nat → Option aMd) (ss : List (List Int32)) (t : Nat) : Nat → Nat → Nat → Nat → List (Option Value) → List Value → aHp → Option (List (Option Value) × List Value × aHp)
  | 0, _, _, _, _, _, _ => none
  | n + 1, d, m, pc, l, st, h => bif Nat.beq pc t then some (l, st, h) else match ms m with
    | none => none
    | some md => match aFind md.2.2.2.2.2 pc with
      | none => none
      | some e => match cEx ss md.2.2.2.2.1 d pc e.1 e.2.2 l st h with
        | none => none
        | some (.inl q) => cTo ms ss t n d m q.1 q.2.1 q.2.2.1 q.2.2.2
        | some (.inr (.inl _)) => none
        | some (.inr (.inr q)) => match d with
          | 0 => none
          | d' + 1 => match ms q.1 with
            | none => none
            | some mq => bif Nat.ble (aLoc q.2.1).length mq.2.2.2.1 && aRcv e.1 mq.1 h q.2.1 then (match cRun ms ss n d' q.1 0 (aEnter mq.2.2.2.1 q.2.1) [] h with
              | none => none
              | some (v, h') => cTo ms ss t n d m (pc + 3) l (v.toList ++ q.2.2) h') else none
theorem cTo_ok {t xn : Nat} {x : Nat → Int32} {Q : Option Value → aHp → Prop} : ∀ (n : Nat) {d m pc : Nat} {l : List (Option Value)} {st : List Value} {h : aHp} {l' : List (Option Value)} {st' : List Value} {h' : aHp}, cTo aMs aSS t n d m pc l st h = some (l', st', h') → Wp d m t l' st' (aWx h' xn x) Q → Wp d m pc l st (aWx h xn x) Q := by
  intro n
  induction n with
  | zero => intro d m pc l st h l' st' h' hr; cases hr
  | succ n ih =>
    intro d m pc l st h l' st' h' hr K
    unfold cTo at hr
    cases hb : Nat.beq pc t with
    | true =>
      rw [hb, cond_true] at hr
      cases hr
      have : pc = t := Nat.eq_of_beq_eq_true hb
      rw [this]
      exact K
    | false =>
      rw [hb, cond_false] at hr
      split at hr
      · cases hr
      rename_i md hmd
      split at hr
      · cases hr
      rename_i e he
      have hi : aAtI m pc = some (md.2.2.2.2.1, e.1, e.2.2) := zAt hmd (ins := e.1) (ln := e.2.1) (lk := e.2.2) he
      split at hr
      · cases hr
      · rename_i q hE
        exact w_go (q := (q.1, q.2.1, q.2.2.1, aWx q.2.2.2 xn x)) hi (cEx_ok hE) (ih hr K)
      · cases hr
      · rename_i q hE
        split at hr
        · cases hr
        rename_i d0
        split at hr
        · cases hr
        rename_i mq hmq
        cases hc : Nat.ble (aLoc q.2.1).length mq.2.2.2.1 && aRcv e.1 mq.1 h q.2.1 with
        | false => rw [hc, cond_false] at hr; cases hr
        | true =>
          rw [hc, cond_true] at hr
          simp only [Bool.and_eq_true] at hc
          split at hr
          · cases hr
          rename_i v1 h1 hcall
          exact w_call (m' := q.1) (as := q.2.1) (rr := q.2.2) (v1 := v1) (h1 := aWx h1 xn x) hi (cEx_ok hE) hmq hc.1 hc.2 rfl ⟨n, v1, aWx h1 xn x, cRun_ok n hcall, rfl, rfl⟩ (ih hr K)
