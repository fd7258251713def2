/-! ===== the abstract machine: typed cells at numbered places, methods by their numbers ===== -/
/-- cells made, slots made, kind of each, length of each, ints, longs, references, the script's length, the script -/
abbrev aHp : Type := Nat × Nat × (Nat → Nat) × (Nat → Nat) × (Nat → Nat → Int32) × (Nat → Nat → Int64) × (Nat → Nat → Option Nat) × Nat × (Nat → Int32)
abbrev aN (h : aHp) : Nat := h.1
abbrev aSl (h : aHp) : Nat := h.2.1
abbrev aK (h : aHp) : Nat → Nat := h.2.2.1
abbrev aL (h : aHp) : Nat → Nat := h.2.2.2.1
abbrev aI (h : aHp) : Nat → Nat → Int32 := h.2.2.2.2.1
abbrev aJ (h : aHp) : Nat → Nat → Int64 := h.2.2.2.2.2.1
abbrev aR (h : aHp) : Nat → Nat → Option Nat := h.2.2.2.2.2.2.1
abbrev aXn (h : aHp) : Nat := h.2.2.2.2.2.2.2.1
abbrev aX (h : aHp) : Nat → Int32 := h.2.2.2.2.2.2.2.2
def aU {α : Type} (f : Nat → Nat → α) (a k : Nat) (x : α) : Nat → Nat → α := fun a' k' => bif (Nat.beq a' a && Nat.beq k' k) then x else f a' k'
def aRow {α : Type} (f : Nat → α) (a : Nat) (g : α) : Nat → α := fun a' => bif Nat.beq a' a then g else f a'
abbrev aSetI (h : aHp) (i : Nat → Nat → Int32) : aHp := (aN h, aSl h, aK h, aL h, i, aJ h, aR h, aXn h, aX h)
abbrev aSetJ (h : aHp) (j : Nat → Nat → Int64) : aHp := (aN h, aSl h, aK h, aL h, aI h, j, aR h, aXn h, aX h)
abbrev aSetR (h : aHp) (r : Nat → Nat → Option Nat) : aHp := (aN h, aSl h, aK h, aL h, aI h, aJ h, r, aXn h, aX h)
/-- a new cell of a kind, a length, so many slots -/
abbrev aNew (h : aHp) (k n s : Nat) : aHp := (aN h + 1, aSl h + s, aRow (aK h) (aN h) k, aRow (aL h) (aN h) n, aRow (aI h) (aN h) (fun _ => 0), aRow (aJ h) (aN h) (fun _ => 0), aRow (aR h) (aN h) (fun _ => none), aXn h, aX h)
def aLd (l : List (Option Value)) (i : Nat) : Option Value := match l[i]? with
  | some (some v) => some v
  | _ => none
def aKill (l : List (Option Value)) (i : Nat) : List (Option Value) := match i with
  | 0 => l
  | j + 1 => match l[j]? with
    | some (some (.long _)) => l.set j none
    | some (some (.double _)) => l.set j none
    | _ => l
def aSt (l : List (Option Value)) (i : Nat) (v : Value) : List (Option Value) := match v with
  | .long _ => ((aKill l i).set i (some v)).set (i + 1) none
  | _ => (aKill l i).set i (some v)
abbrev aRes : Type := (Nat × List (Option Value) × List Value × aHp) ⊕ (Option Value) ⊕ (Nat × List Value × List Value)
abbrev aLk : Type := Nat × Nat × Int
def aGo (pc : Nat) (l : List (Option Value)) (st : List Value) (h : aHp) : Option aRes := some (.inl (pc, l, st, h))
/-- loads -/
def aLoadI (pc i : Nat) (l : List (Option Value)) (st : List Value) (h : aHp) : Option aRes := match aLd l i with
  | some (.int x) => aGo pc l (.int x :: st) h
  | _ => none
def aLoadJ (pc i : Nat) (l : List (Option Value)) (st : List Value) (h : aHp) : Option aRes := match aLd l i with
  | some (.long x) => aGo pc l (.long x :: st) h
  | _ => none
def aLoadA (pc i : Nat) (l : List (Option Value)) (st : List Value) (h : aHp) : Option aRes := match aLd l i with
  | some (.ref x) => aGo pc l (.ref x :: st) h
  | some .null => aGo pc l (.null :: st) h
  | _ => none
def aStoreI (pc i : Nat) (l : List (Option Value)) (st : List Value) (h : aHp) : Option aRes := match st with
  | .int x :: r => bif Nat.blt i l.length then aGo pc (aSt l i (.int x)) r h else none
  | _ => none
def aStoreJ (pc i : Nat) (l : List (Option Value)) (st : List Value) (h : aHp) : Option aRes := match st with
  | .long x :: r => bif Nat.blt (i + 1) l.length then aGo pc (aSt l i (.long x)) r h else none
  | _ => none
def aStoreA (pc i : Nat) (l : List (Option Value)) (st : List Value) (h : aHp) : Option aRes := match st with
  | .ref x :: r => bif Nat.blt i l.length then aGo pc (aSt l i (.ref x)) r h else none
  | .null :: r => bif Nat.blt i l.length then aGo pc (aSt l i .null) r h else none
  | _ => none
def aOp2I (f : Int32 → Int32 → Int32) (pc : Nat) (l : List (Option Value)) (st : List Value) (h : aHp) : Option aRes := match st with
  | .int y :: .int x :: r => aGo (pc + 1) l (.int (f x y) :: r) h
  | _ => none
def aOp2J (f : Int64 → Int64 → Int64) (pc : Nat) (l : List (Option Value)) (st : List Value) (h : aHp) : Option aRes := match st with
  | .long y :: .long x :: r => aGo (pc + 1) l (.long (f x y) :: r) h
  | _ => none
def aDivI (f : Int32 → Int32 → Int32) (pc : Nat) (l : List (Option Value)) (st : List Value) (h : aHp) : Option aRes := match st with
  | .int y :: .int x :: r => if y = 0 then none else aGo (pc + 1) l (.int (f x y) :: r) h
  | _ => none
def aDivJ (f : Int64 → Int64 → Int64) (pc : Nat) (l : List (Option Value)) (st : List Value) (h : aHp) : Option aRes := match st with
  | .long y :: .long x :: r => if y = 0 then none else aGo (pc + 1) l (.long (f x y) :: r) h
  | _ => none
def aIf1 (c : Int32 → Prop) [DecidablePred c] (pc t : Nat) (l : List (Option Value)) (st : List Value) (h : aHp) : Option aRes := match st with
  | .int x :: r => if c x then aGo t l r h else aGo (pc + 3) l r h
  | _ => none
def aIf2 (c : Int32 → Int32 → Prop) [∀ x y, Decidable (c x y)] (pc t : Nat) (l : List (Option Value)) (st : List Value) (h : aHp) : Option aRes := match st with
  | .int y :: .int x :: r => if c x y then aGo t l r h else aGo (pc + 3) l r h
  | _ => none
/-- a string constant's number -/
abbrev aSa : Nat := 1000000
abbrev aXa : Nat := 2000000
/-- the heap's cells have numbers below this -/
def aInHp (h : aHp) (a : Nat) : Bool := Nat.blt a (aN h)
def aFld (ty : Int) (pc : Nat) (ci k : Nat) (l : List (Option Value)) (st : List Value) (h : aHp) : Option aRes := match st with
  | .ref a :: r => bif aInHp h a && Nat.beq (aK h a) ci then (match ty with
    | 0 => aGo (pc + 3) l (.int (aI h a k) :: r) h
    | 1 => aGo (pc + 3) l (.int (aI h a k) :: r) h
    | 2 => aGo (pc + 3) l (.long (aJ h a k) :: r) h
    | 3 => aGo (pc + 3) l (va_rf (aR h a k) :: r) h
    | _ => none) else none
  | _ => none
def aPut (ty : Int) (pc : Nat) (ci k : Nat) (l : List (Option Value)) (st : List Value) (h : aHp) : Option aRes := match st with
  | v :: .ref a :: r => bif aInHp h a && Nat.beq (aK h a) ci then (match ty, v with
    | 0, .int x => aGo (pc + 3) l r (aSetI h (aU (aI h) a k x))
    | 1, .int x => if x = 0 ∨ x = 1 then aGo (pc + 3) l r (aSetI h (aU (aI h) a k x)) else none
    | 2, .long x => aGo (pc + 3) l r (aSetJ h (aU (aJ h) a k x))
    | 3, .ref x => aGo (pc + 3) l r (aSetR h (aU (aR h) a k (some x)))
    | 3, .null => aGo (pc + 3) l r (aSetR h (aU (aR h) a k none))
    | _, _ => none) else none
  | _ => none
def aIn (i : Int32) (n : Nat) : Prop := ¬ (i < 0 ∨ n ≤ i.toNatClampNeg)
def aIald (pc : Nat) (l : List (Option Value)) (st : List Value) (h : aHp) : Option aRes := match st with
  | .int i :: .ref a :: r => bif Nat.beq a aXa then (if i < 0 ∨ aXn h ≤ i.toNatClampNeg then none else aGo (pc + 1) l (.int (aX h i.toNatClampNeg) :: r) h)
    else bif aInHp h a && Nat.beq (aK h a) 100 then (if i < 0 ∨ aL h a ≤ i.toNatClampNeg then none else aGo (pc + 1) l (.int (aI h a i.toNatClampNeg) :: r) h) else none
  | _ => none
def aCald (pc : Nat) (l : List (Option Value)) (st : List Value) (h : aHp) : Option aRes := match st with
  | .int i :: .ref a :: r => bif aInHp h a && Nat.beq (aK h a) 101 then (if i < 0 ∨ aL h a ≤ i.toNatClampNeg then none else aGo (pc + 1) l (.int (aI h a i.toNatClampNeg) :: r) h) else none
  | _ => none
def aLald (pc : Nat) (l : List (Option Value)) (st : List Value) (h : aHp) : Option aRes := match st with
  | .int i :: .ref a :: r => bif aInHp h a && Nat.beq (aK h a) 102 then (if i < 0 ∨ aL h a ≤ i.toNatClampNeg then none else aGo (pc + 1) l (.long (aJ h a i.toNatClampNeg) :: r) h) else none
  | _ => none
def aAald (pc : Nat) (l : List (Option Value)) (st : List Value) (h : aHp) : Option aRes := match st with
  | .int i :: .ref a :: r => bif aInHp h a && Nat.beq (aK h a) 103 then (if i < 0 ∨ aL h a ≤ i.toNatClampNeg then none else aGo (pc + 1) l (va_rf (aR h a i.toNatClampNeg) :: r) h) else none
  | _ => none
def aIast (pc : Nat) (l : List (Option Value)) (st : List Value) (h : aHp) : Option aRes := match st with
  | .int x :: .int i :: .ref a :: r => bif aInHp h a && Nat.beq (aK h a) 100 then (if i < 0 ∨ aL h a ≤ i.toNatClampNeg then none else aGo (pc + 1) l r (aSetI h (aU (aI h) a i.toNatClampNeg x))) else none
  | _ => none
def aCast (pc : Nat) (l : List (Option Value)) (st : List Value) (h : aHp) : Option aRes := match st with
  | .int x :: .int i :: .ref a :: r => bif aInHp h a && Nat.beq (aK h a) 101 then (if i < 0 ∨ aL h a ≤ i.toNatClampNeg then none else aGo (pc + 1) l r (aSetI h (aU (aI h) a i.toNatClampNeg (vp_nar .char x)))) else none
  | _ => none
def aLast (pc : Nat) (l : List (Option Value)) (st : List Value) (h : aHp) : Option aRes := match st with
  | .long x :: .int i :: .ref a :: r => bif aInHp h a && Nat.beq (aK h a) 102 then (if i < 0 ∨ aL h a ≤ i.toNatClampNeg then none else aGo (pc + 1) l r (aSetJ h (aU (aJ h) a i.toNatClampNeg x))) else none
  | _ => none
/-- a State into a row of States (kind 7) -/
def aAast (pc : Nat) (l : List (Option Value)) (st : List Value) (h : aHp) : Option aRes := match st with
  | .ref x :: .int i :: .ref a :: r => bif aInHp h a && Nat.beq (aK h a) 103 && (aInHp h x && Nat.beq (aK h x) 7) then (if i < 0 ∨ aL h a ≤ i.toNatClampNeg then none else aGo (pc + 1) l r (aSetR h (aU (aR h) a i.toNatClampNeg (some x)))) else none
  | _ => none
def aAlen (pc : Nat) (l : List (Option Value)) (st : List Value) (h : aHp) : Option aRes := match st with
  | .ref a :: r => bif Nat.beq a aXa then aGo (pc + 1) l (.int (Int32.ofNat (aXn h)) :: r) h
    else bif aInHp h a && Nat.ble 100 (aK h a) && Nat.ble (aK h a) 103 then aGo (pc + 1) l (.int (Int32.ofNat (aL h a)) :: r) h else none
  | _ => none
def aNewa (kd by_ : Nat) (pc : Nat) (l : List (Option Value)) (st : List Value) (h : aHp) : Option aRes := match st with
  | .int n :: r => if n < 0 ∨ 60000000 < n.toNatClampNeg ∨ 900000 < aN h then none else aGo (pc + by_) l (.ref (aN h) :: r) (aNew h kd n.toNatClampNeg n.toNatClampNeg)
  | _ => none
/-- so many arguments off the stack: the rest, the arguments in their order -/
def aPop : Nat → List Value → List Value → Option (List Value × List Value)
  | 0, st, acc => some (acc, st)
  | n + 1, v :: st, acc => aPop n st (v :: acc)
  | _ + 1, [], _ => none
def aW8 (st : List Value) : Bool := Nat.ble (st.map fun v => v.category).sum 8
/-- a call: 0 of a method with a receiver, 5 of a static one -/
def aCall (n m : Nat) (st : List Value) : Option aRes := match aPop n st [] with
  | some (as, r) => bif aW8 r then some (.inr (.inr (m, as, r))) else none
  | none => none
/-- String.length, String.charAt by the constants' texts; strings: their bytes -/
def aSlen (ss : List (List Int32)) (d pc : Nat) (l : List (Option Value)) (st : List Value) (h : aHp) : Option aRes := match st with
  | .ref a :: r => bif Nat.ble aSa a && Nat.blt a aXa && Nat.ble 5 d && aW8 r then (match ss[a - aSa]? with
    | some t => aGo (pc + 3) l (.int (Int32.ofNat t.length) :: r) h
    | none => none) else none
  | _ => none
def aSat (ss : List (List Int32)) (d pc : Nat) (l : List (Option Value)) (st : List Value) (h : aHp) : Option aRes := match st with
  | .int i :: .ref a :: r => bif Nat.ble aSa a && Nat.blt a aXa && Nat.ble 5 d && aW8 r then (match ss[a - aSa]? with
    | some t => if i < 0 ∨ t.length ≤ i.toNatClampNeg then none else aGo (pc + 3) l (.int (t.getD i.toNatClampNeg 0) :: r) h
    | none => none) else none
  | _ => none
def aCopy (d pc : Nat) (l : List (Option Value)) (st : List Value) (h : aHp) : Option aRes := match st with
  | .int n :: .int dp :: .ref b :: .int sp :: .ref a :: r => bif aInHp h a && aInHp h b && Nat.beq (aK h a) 100 && Nat.beq (aK h b) 100 && Nat.ble 5 d && aW8 r then
      (if sp < 0 ∨ dp < 0 ∨ n < 0 ∨ aL h a < sp.toNatClampNeg + n.toNatClampNeg ∨ aL h b < dp.toNatClampNeg + n.toNatClampNeg then none else aGo (pc + 3) l r (aSetI h (aRow (aI h) b (va_cpy (aI h a) (aI h b) sp.toNatClampNeg dp.toNatClampNeg n.toNatClampNeg)))) else none
  | _ => none
def aInit (d pc : Nat) (l : List (Option Value)) (st : List Value) (h : aHp) : Option aRes := match st with
  | .ref _ :: r => bif Nat.ble 5 d && aW8 r then aGo (pc + 3) l r h else none
  | _ => none
def aSw (dflt lo hi : Int) (offs : Array Int) (pc : Nat) (l : List (Option Value)) (st : List Value) (h : aHp) : Option aRes := match st with
  | .int x :: r => if x.toInt < lo ∨ hi < x.toInt then aGo (Int.toNat (pc + dflt)) l r h else (match offs[(x.toInt - lo).toNat]? with
    | some off => aGo (Int.toNat (pc + off)) l r h
    | none => none)
  | _ => none
/-- a switch without cases -/
def aLsw (dflt : Int) (ps : Array (Int × Int)) (pc : Nat) (l : List (Option Value)) (st : List Value) (h : aHp) : Option aRes := match st with
  | .int _ :: r => if ps.toList = [] then aGo (Int.toNat (pc + dflt)) l r h else none
  | _ => none
def aRetI (rt : Nat) (st : List Value) : Option aRes := match st with
  | [.int x] => bif Nat.beq rt 1 then some (.inr (.inl (some (.int x)))) else bif Nat.beq rt 4 then (if x = 0 ∨ x = 1 then some (.inr (.inl (some (.int x)))) else none) else none
  | _ => none
def aRetJ (rt : Nat) (st : List Value) : Option aRes := match st with
  | [.long x] => bif Nat.beq rt 2 then some (.inr (.inl (some (.long x)))) else none
  | _ => none
def aRetV (rt : Nat) (st : List Value) : Option aRes := match st with
  | [] => bif Nat.beq rt 0 then some (.inr (.inl none)) else none
  | _ => none
def aPop1 (pc : Nat) (l : List (Option Value)) (st : List Value) (h : aHp) : Option aRes := match st with
  | .int _ :: r => aGo (pc + 1) l r h
  | .ref _ :: r => aGo (pc + 1) l r h
  | .null :: r => aGo (pc + 1) l r h
  | _ => none
def aDup (pc : Nat) (l : List (Option Value)) (st : List Value) (h : aHp) : Option aRes := match st with
  | .int x :: r => aGo (pc + 1) l (.int x :: .int x :: r) h
  | .ref x :: r => aGo (pc + 1) l (.ref x :: .ref x :: r) h
  | _ => none
def aDup2 (pc : Nat) (l : List (Option Value)) (st : List Value) (h : aHp) : Option aRes := match st with
  | .long x :: r => aGo (pc + 1) l (.long x :: .long x :: r) h
  | .int x :: .ref y :: r => aGo (pc + 1) l (.int x :: .ref y :: .int x :: .ref y :: r) h
  | _ => none
def aNul (t f : Nat) (l : List (Option Value)) (st : List Value) (h : aHp) : Option aRes := match st with
  | .null :: r => aGo t l r h
  | .ref _ :: r => aGo f l r h
  | _ => none
def aObj (ci nf : Nat) (pc : Nat) (l : List (Option Value)) (st : List Value) (h : aHp) : Option aRes :=
  bif Nat.ble (aN h) 900000 then aGo (pc + 3) l (.ref (aN h) :: st) (aNew h ci 0 nf) else none
def aInc (pc i : Nat) (n : Int) (l : List (Option Value)) (st : List Value) (h : aHp) : Option aRes := match aLd l i with
  | some (.int x) => bif Nat.blt i l.length then aGo (pc + 3) (aSt l i (.int (x + Int32.ofInt n))) st h else none
  | _ => none
def aI2L (pc : Nat) (l : List (Option Value)) (st : List Value) (h : aHp) : Option aRes := match st with
  | .int x :: r => aGo (pc + 1) l (.long x.toInt64 :: r) h
  | _ => none
def aL2I (pc : Nat) (l : List (Option Value)) (st : List Value) (h : aHp) : Option aRes := match st with
  | .long x :: r => aGo (pc + 1) l (.int x.toInt32 :: r) h
  | _ => none
def aNeg (pc : Nat) (l : List (Option Value)) (st : List Value) (h : aHp) : Option aRes := match st with
  | .int x :: r => aGo (pc + 1) l (.int (-x) :: r) h
  | _ => none
def aLcmp (pc : Nat) (l : List (Option Value)) (st : List Value) (h : aHp) : Option aRes := match st with
  | .long y :: .long x :: r => aGo (pc + 1) l (.int (lg_cmp x y) :: r) h
  | _ => none
/-- one instruction: ss the string constants, rt what the method returns, d how deep calls may go -/
def aExec (ss : List (List Int32)) (rt d pc : Nat) (ins : Instr) (lk : aLk) (l : List (Option Value)) (st : List Value) (h : aHp) : Option aRes := match ins with
  | .iconst n => aGo (pc + 1) l (.int (Int32.ofInt n) :: st) h
  | .bipush n => aGo (pc + 2) l (.int (Int8.ofInt n).toInt32 :: st) h
  | .sipush n => aGo (pc + 3) l (.int (Int16.ofInt n).toInt32 :: st) h
  | .lconst n => aGo (pc + 1) l (.long (Int64.ofNat n) :: st) h
  | .aconst_null => aGo (pc + 1) l (.null :: st) h
  | .ldc _ => bif Nat.beq lk.1 0 then aGo (pc + 2) l (.int (Int32.ofInt lk.2.2) :: st) h else aGo (pc + 2) l (.ref (aSa + lk.2.1) :: st) h
  | .ldc2_w _ => aGo (pc + 3) l (.long (Int64.ofInt lk.2.2) :: st) h
  | .iload_n k => aLoadI (pc + 1) k l st h
  | .iload i => aLoadI (pc + 2) i l st h
  | .lload_n k => aLoadJ (pc + 1) k l st h
  | .lload i => aLoadJ (pc + 2) i l st h
  | .aload_n k => aLoadA (pc + 1) k l st h
  | .istore_n k => aStoreI (pc + 1) k l st h
  | .istore i => aStoreI (pc + 2) i l st h
  | .lstore_n k => aStoreJ (pc + 1) k l st h
  | .lstore i => aStoreJ (pc + 2) i l st h
  | .astore_n k => aStoreA (pc + 1) k l st h
  | .iinc i n => aInc pc i n l st h
  | .iadd => aOp2I (fun x y => x + y) pc l st h
  | .isub => aOp2I (fun x y => x - y) pc l st h
  | .imul => aOp2I (fun x y => x * y) pc l st h
  | .iand => aOp2I (fun x y => x &&& y) pc l st h
  | .ior => aOp2I (fun x y => x ||| y) pc l st h
  | .ixor => aOp2I (fun x y => x ^^^ y) pc l st h
  | .ishl => aOp2I (fun x y => x <<< (y &&& 31)) pc l st h
  | .ishr => aOp2I (fun x y => x >>> (y &&& 31)) pc l st h
  | .iushr => aOp2I (fun x y => (x.toUInt32 >>> (y.toUInt32 &&& Int32.toUInt32 31)).toInt32) pc l st h
  | .idiv => aDivI (fun x y => x / y) pc l st h
  | .irem => aDivI (fun x y => x - x / y * y) pc l st h
  | .ineg => aNeg pc l st h
  | .ladd => aOp2J (fun x y => x + y) pc l st h
  | .lsub => aOp2J (fun x y => x - y) pc l st h
  | .lmul => aOp2J (fun x y => x * y) pc l st h
  | .land => aOp2J (fun x y => x &&& y) pc l st h
  | .ldiv => aDivJ (fun x y => x / y) pc l st h
  | .lrem => aDivJ (fun x y => x - x / y * y) pc l st h
  | .lcmp => aLcmp pc l st h
  | .i2l => aI2L pc l st h
  | .l2i => aL2I pc l st h
  | .dup => aDup pc l st h
  | .dup2 => aDup2 pc l st h
  | .pop => aPop1 pc l st h
  | .ifCond .eq _ => aIf1 (fun x => x = 0) pc lk.1 l st h
  | .ifCond .ne _ => aIf1 (fun x => ¬ x = 0) pc lk.1 l st h
  | .ifCond .lt _ => aIf1 (fun x => x < 0) pc lk.1 l st h
  | .ifCond .ge _ => aIf1 (fun x => 0 ≤ x) pc lk.1 l st h
  | .ifCond .gt _ => aIf1 (fun x => 0 < x) pc lk.1 l st h
  | .ifCond .le _ => aIf1 (fun x => x ≤ 0) pc lk.1 l st h
  | .if_icmp .eq _ => aIf2 (fun x y => x = y) pc lk.1 l st h
  | .if_icmp .ne _ => aIf2 (fun x y => ¬ x = y) pc lk.1 l st h
  | .if_icmp .lt _ => aIf2 (fun x y => x < y) pc lk.1 l st h
  | .if_icmp .ge _ => aIf2 (fun x y => y ≤ x) pc lk.1 l st h
  | .if_icmp .gt _ => aIf2 (fun x y => y < x) pc lk.1 l st h
  | .if_icmp .le _ => aIf2 (fun x y => x ≤ y) pc lk.1 l st h
  | .ifnull _ => aNul lk.1 (pc + 3) l st h
  | .ifnonnull _ => aNul (pc + 3) lk.1 l st h
  | .goto _ => aGo lk.1 l st h
  | .tableswitch dflt lo hi offs => aSw dflt lo hi offs pc l st h
  | .lookupswitch dflt ps => aLsw dflt ps pc l st h
  | .getfield _ => aFld lk.2.2 pc lk.1 lk.2.1 l st h
  | .putfield _ => aPut lk.2.2 pc lk.1 lk.2.1 l st h
  | .iaload => aIald pc l st h
  | .caload => aCald pc l st h
  | .laload => aLald pc l st h
  | .aaload => aAald pc l st h
  | .iastore => aIast pc l st h
  | .castore => aCast pc l st h
  | .lastore => aLast pc l st h
  | .aastore => aAast pc l st h
  | .arraylength => aAlen pc l st h
  | .newarray .int => aNewa 100 2 pc l st h
  | .newarray .char => aNewa 101 2 pc l st h
  | .newarray .long => aNewa 102 2 pc l st h
  | .anewarray _ => aNewa 103 3 pc l st h
  | .new _ => aObj lk.1 lk.2.1 pc l st h
  | .invokevirtual _ => (match lk.2.2 with
    | 1 => aSlen ss d pc l st h
    | 2 => aSat ss d pc l st h
    | _ => aCall lk.2.1 lk.1 st)
  | .invokespecial _ => (match lk.2.2 with
    | 4 => aInit d pc l st h
    | _ => aCall lk.2.1 lk.1 st)
  | .invokestatic _ => (match lk.2.2 with
    | 3 => aCopy d pc l st h
    | _ => aCall lk.2.1 lk.1 st)
  | .ireturn => aRetI rt st
  | .lreturn => aRetJ rt st
  | .return_ => aRetV rt st
  | _ => none
/-- a method: its class's number, its name, its bytes, its locals, what it returns (0 none, 1 int, 2 long, 4 boolean), its instructions by their places -/
abbrev aMd : Type := Nat × MethodName × ByteArray × Nat × Nat × List (Nat × Instr × Nat × aLk)
def aFind : List (Nat × Instr × Nat × aLk) → Nat → Option (Instr × Nat × aLk)
  | [], _ => none
  | e :: r, pc => bif Nat.beq e.1 pc then some e.2 else aFind r pc
def aLoc (vs : List Value) : List (Option Value) := vs.flatMap fun v => match v with
  | .long _ => [some v, none]
  | .double _ => [some v, none]
  | _ => [some v]
def aEnter (n : Nat) (vs : List Value) : List (Option Value) := aLoc vs ++ List.replicate (n - (aLoc vs).length) none
/-- the receiver is there, and of the method's class -/
def aRcv (ins : Instr) (ci : Nat) (h : aHp) (as : List Value) : Bool := match ins, as with
  | .invokevirtual _, .ref a :: _ => aInHp h a && Nat.beq (aK h a) ci
  | .invokespecial _, .ref _ :: _ => true
  | .invokestatic _, _ => true
  | _, _ => false
/-- a run: fuel, depth, method, place, locals, stack, heap -/
def aRun (ms : Nat → Option aMd) (ss : List (List Int32)) : Nat → Nat → Nat → Nat → List (Option Value) → List Value → aHp → Option (Option Value × aHp)
  | 0, _, _, _, _, _, _ => none
  | n + 1, d, m, pc, l, st, h => match ms m with
    | none => none
    | some md => match aFind md.2.2.2.2.2 pc with
      | none => none
      | some e => match aExec ss md.2.2.2.2.1 d pc e.1 e.2.2 l st h with
        | none => none
        | some (.inl q) => aRun ms ss n d m q.1 q.2.1 q.2.2.1 q.2.2.2
        | some (.inr (.inl v)) => some (v, h)
        | some (.inr (.inr q)) => match d with
          | 0 => none
          | d' + 1 => match ms q.1 with
            | none => none
            | some mq => bif Nat.ble (aLoc q.2.1).length mq.2.2.2.1 && aRcv e.1 mq.1 h q.2.1 then (match aRun ms ss n d' q.1 0 (aEnter mq.2.2.2.1 q.2.1) [] h with
              | none => none
              | some (v, h') => aRun ms ss n d m (pc + 3) l (v.toList ++ q.2.2) h') else none
