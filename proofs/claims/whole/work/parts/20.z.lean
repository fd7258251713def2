/-! ===== the abstract machine over whole numbers ===== -/
/-- values: an int, a long, a reference (kind, length, address), null (0) or a text (its number and 1) -/
abbrev zV : Type := Int ⊕ (Int ⊕ ((Nat × Nat × Nat) ⊕ Nat))
abbrev zi (x : Int) : zV := .inl x
abbrev zj (x : Int) : zV := .inr (.inl x)
abbrev zr (k n a : Nat) : zV := .inr (.inr (.inl (k, n, a)))
abbrev zt (k : Nat) : zV := .inr (.inr (.inr k))
def cv : zV → Value
  | .inl x => .int (Int32.ofInt x)
  | .inr (.inl x) => .long (Int64.ofInt x)
  | .inr (.inr (.inl q)) => .ref q.2.2
  | .inr (.inr (.inr 0)) => .null
  | .inr (.inr (.inr (k + 1))) => .ref (aSa + k)
abbrev zL (l : List (Option zV)) : List (Option Value) := l.map (Option.map cv)
/-- ints, longs, the four references that change -/
abbrev zS : Type := (Nat → Int → Int) × (Nat → Int → Int) × (Nat → Nat)
def zU (f : Nat → Int → Int) (a : Nat) (k x : Int) : Nat → Int → Int := fun a' k' => if a' = a ∧ k' = k then x else f a' k'
def sI (s : zS) (a : Nat) (k x : Int) : zS := (zU s.1 a k x, s.2.1, s.2.2)
def sJ (s : zS) (a : Nat) (k x : Int) : zS := (s.1, zU s.2.1 a k x, s.2.2)
def sM (s : zS) (q x : Nat) : zS := (s.1, s.2.1, fun q' => if q' = q then x else s.2.2 q')
/-- n of a row from sp on into another one from dp on -/
def sC (s : zS) (a b : Nat) (sp dp n : Int) : zS := (fun a' k => if a' = b ∧ dp ≤ k ∧ k < dp + n then s.1 a (sp + (k - dp)) else s.1 a' k, s.2.1, s.2.2)
def zMut (a k : Nat) : Nat := match a, k with
  | 0, 13 => 1
  | 0, 14 => 2
  | 10, 1 => 3
  | 8, 1 => 4
  | _, _ => 0
def zRf (G : aHp) (s : zS) (a k : Nat) : Option Nat := match zMut a k with
  | 0 => aR G a k
  | q + 1 => match s.2.2 (q + 1) with
    | 0 => none
    | x + 1 => some (x + 1)
abbrev wS (G : aHp) (s : zS) : aHp := (aN G, aSl G, aK G, aL G, fun a k => Int32.ofInt (s.1 a (k : Int)), fun a k => Int64.ofInt (s.2.1 a (k : Int)), zRf G s, aXn G, aX G)
abbrev zR (x : Int) : Prop := -2147483648 ≤ x ∧ x ≤ 2147483647
abbrev zRJ (x : Int) : Prop := -9223372036854775808 ≤ x ∧ x ≤ 9223372036854775807
def zOk (G : aHp) : zV → Prop
  | .inl x => zR x
  | .inr (.inl x) => zRJ x
  | .inr (.inr (.inl q)) => (q.1 = 104 ∧ q.2.2 = aXa ∧ aXn G = q.2.1) ∨ (q.1 ≠ 104 ∧ q.2.2 < aN G ∧ aK G q.2.2 = q.1 ∧ aL G q.2.2 = q.2.1)
  | .inr (.inr (.inr k)) => k ≤ 40
def zOkL (G : aHp) (l : List (Option zV)) : Prop := ∀ x, some x ∈ l → zOk G x
def zOkS (G : aHp) (st : List zV) : Prop := ∀ x, x ∈ st → zOk G x
def zInv (G : aHp) (s : zS) : Prop := (∀ a k, zR (s.1 a k)) ∧ (∀ a k, zRJ (s.2.1 a k)) ∧ (∀ q, q = 1 ∨ q = 2 ∨ q = 3 → zOk G (zr 5 0 (s.2.2 q))) ∧ (s.2.2 4 = 0 ∨ zOk G (zr 3 0 (s.2.2 4)))
/-- what a reference that stays holds -/
def zGF (G : aHp) (ci k a : Nat) (q : Nat × Nat × Nat) : Prop := a < aN G → aK G a = ci → zMut a k = 0 ∧ aR G a k = some q.2.2 ∧ zOk G (.inr (.inr (.inl q)))
def Zp (G : aHp) (d m pc : Nat) (l : List (Option zV)) (st : List zV) (s : zS) (P : Option zV → zS → Prop) : Prop :=
  zInv G s → zOkL G l → zOkS G st → Wp d m pc (zL l) (st.map cv) (wS G s) (fun v h => ∃ v' s', v = v'.map cv ∧ h = wS G s' ∧ zInv G s' ∧ (∀ x, v' = some x → zOk G x) ∧ P v' s')
def zRet (v : Option zV) (s : zS) : Option zV → zS → Prop := fun v' s' => v' = v ∧ s' = s
/-- a long's first half is lost when its second is written -/
def zKd (o : Option zV) : Option zV := match o with
  | some (.inr (.inl _)) => none
  | o => o
def zKill (l : List (Option zV)) (i : Nat) : List (Option zV) := match i with
  | 0 => l
  | j + 1 => match l[j]? with
    | some o => l.set j (zKd o)
    | none => l
def zSt (l : List (Option zV)) (i : Nat) (v : zV) : List (Option zV) := match v with
  | .inr (.inl x) => ((zKill l i).set i (some (.inr (.inl x)))).set (i + 1) none
  | v => (zKill l i).set i (some v)
def zPop : Nat → List zV → List zV → Option (List zV × List zV)
  | 0, st, acc => some (acc, st)
  | n + 1, v :: st, acc => zPop n st (v :: acc)
  | _ + 1, [], _ => none
def zCat : zV → Nat
  | .inr (.inl _) => 2
  | _ => 1
def zW8 (st : List zV) : Bool := Nat.ble (st.map zCat).sum 8
def zLoc (vs : List zV) : List (Option zV) := vs.flatMap fun v => match v with
  | .inr (.inl x) => [some (.inr (.inl x)), none]
  | v => [some v]
def zEnter (n : Nat) (vs : List zV) : List (Option zV) := zLoc vs ++ List.replicate (n - (zLoc vs).length) none
def zRb : Int → Bool
  | .ofNat n => Nat.ble n 2147483647
  | .negSucc n => Nat.ble n 2147483647
def zRb8 : Int → Bool
  | .ofNat n => Nat.ble n 127
  | .negSucc n => Nat.ble n 127
def zRb16 : Int → Bool
  | .ofNat n => Nat.ble n 32767
  | .negSucc n => Nat.ble n 32767
def zRbJ : Int → Bool
  | .ofNat n => Nat.ble n 9223372036854775807
  | .negSucc n => Nat.ble n 9223372036854775807
theorem zRb_ok {x : Int} (h : zRb x = true) : zR x := by
  cases x with
  | ofNat n => have := Nat.le_of_ble_eq_true h; exact ⟨show (-2147483648 : Int) ≤ (n : Int) by omega, show (n : Int) ≤ (2147483647 : Int) by omega⟩
  | negSucc n => have := Nat.le_of_ble_eq_true h; exact ⟨by omega, by omega⟩
theorem zRb8_ok {x : Int} (h : zRb8 x = true) : -128 ≤ x ∧ x ≤ 127 := by
  cases x with
  | ofNat n => have := Nat.le_of_ble_eq_true h; exact ⟨show (-128 : Int) ≤ (n : Int) by omega, show (n : Int) ≤ (127 : Int) by omega⟩
  | negSucc n => have := Nat.le_of_ble_eq_true h; exact ⟨by omega, by omega⟩
theorem zRb16_ok {x : Int} (h : zRb16 x = true) : -32768 ≤ x ∧ x ≤ 32767 := by
  cases x with
  | ofNat n => have := Nat.le_of_ble_eq_true h; exact ⟨show (-32768 : Int) ≤ (n : Int) by omega, show (n : Int) ≤ (32767 : Int) by omega⟩
  | negSucc n => have := Nat.le_of_ble_eq_true h; exact ⟨by omega, by omega⟩
theorem zRbJ_ok {x : Int} (h : zRbJ x = true) : zRJ x := by
  cases x with
  | ofNat n => have := Nat.le_of_ble_eq_true h; exact ⟨show (-9223372036854775808 : Int) ≤ (n : Int) by omega, show (n : Int) ≤ (9223372036854775807 : Int) by omega⟩
  | negSucc n => have := Nat.le_of_ble_eq_true h; exact ⟨by omega, by omega⟩
theorem zTo {x : Int} (h : zR x) : (Int32.ofInt x).toInt = x := Int32.toInt_ofInt_of_le (by omega) (by omega)
theorem zToJ {x : Int} (h : zRJ x) : (Int64.ofInt x).toInt = x := Int64.toInt_ofInt_of_le (by omega) (by omega)
theorem z32 (x : Int32) : zR x.toInt := by
  have h1 := x.le_toInt
  have h2 := x.toInt_lt
  exact ⟨by omega, by omega⟩
theorem z64 (x : Int64) : zRJ x.toInt := by
  have h1 := x.le_toInt
  have h2 := x.toInt_lt
  exact ⟨by omega, by omega⟩
theorem zNat {x : Int} (h : zR x) : (Int32.ofInt x).toNatClampNeg = x.toNat := Int32.toNatClampNeg_ofInt_of_le (by omega) (by omega)
theorem zEq {x y : Int} (hx : zR x) (hy : zR y) : Int32.ofInt x = Int32.ofInt y ↔ x = y := by
  rw [← Int32.toInt_inj, zTo hx, zTo hy]
theorem zLt {x y : Int} (hx : zR x) (hy : zR y) : Int32.ofInt x < Int32.ofInt y ↔ x < y := by
  rw [Int32.lt_iff_toInt_lt, zTo hx, zTo hy]
theorem zLe {x y : Int} (hx : zR x) (hy : zR y) : Int32.ofInt x ≤ Int32.ofInt y ↔ x ≤ y := by
  rw [Int32.le_iff_toInt_le, zTo hx, zTo hy]
theorem z0R : zR 0 := ⟨by omega, by omega⟩
theorem z0J : zRJ 0 := ⟨by omega, by omega⟩
theorem zEq0 {x : Int} (hx : zR x) : Int32.ofInt x = 0 ↔ x = 0 := zEq hx z0R
theorem zLt0 {x : Int} (hx : zR x) : Int32.ofInt x < 0 ↔ x < 0 := zLt hx z0R
theorem z0Lt {x : Int} (hx : zR x) : 0 < Int32.ofInt x ↔ 0 < x := zLt z0R hx
theorem zLe0 {x : Int} (hx : zR x) : Int32.ofInt x ≤ 0 ↔ x ≤ 0 := zLe hx z0R
theorem z0Le {x : Int} (hx : zR x) : 0 ≤ Int32.ofInt x ↔ 0 ≤ x := zLe z0R hx
theorem zEqJ {x y : Int} (hx : zRJ x) (hy : zRJ y) : Int64.ofInt x = Int64.ofInt y ↔ x = y := by
  rw [← Int64.toInt_inj, zToJ hx, zToJ hy]
theorem zLtJ {x y : Int} (hx : zRJ x) (hy : zRJ y) : Int64.ofInt x < Int64.ofInt y ↔ x < y := by
  rw [Int64.lt_iff_toInt_lt, zToJ hx, zToJ hy]
theorem zEqJ0 {x : Int} (hx : zRJ x) : Int64.ofInt x = 0 ↔ x = 0 := zEqJ hx z0J
/-- bits -/
def zAnd (x y : Int) : Int := (Int32.ofInt x &&& Int32.ofInt y).toInt
def zOr (x y : Int) : Int := (Int32.ofInt x ||| Int32.ofInt y).toInt
def zXor (x y : Int) : Int := (Int32.ofInt x ^^^ Int32.ofInt y).toInt
def zShl (x y : Int) : Int := (Int32.ofInt x <<< (Int32.ofInt y &&& 31)).toInt
def zShr (x y : Int) : Int := (Int32.ofInt x >>> (Int32.ofInt y &&& 31)).toInt
def zUshr (x y : Int) : Int := ((Int32.ofInt x).toUInt32 >>> ((Int32.ofInt y).toUInt32 &&& Int32.toUInt32 31)).toInt32.toInt
def zAndJ (x y : Int) : Int := (Int64.ofInt x &&& Int64.ofInt y).toInt
def zCmp (x y : Int) : Int := if y < x then 1 else if x = y then 0 else -1
section AOpz
variable {α β : Type}
def oZ (x : Int) (k : Int → Option α) : Option α := if zR x then k x else none
def oJ (x : Int) (k : Int → Option α) : Option α := if zRJ x then k x else none
def oX (i : Int) (n : Nat) (k : Option α) : Option α := if 0 ≤ i ∧ i < (n : Int) then k else none
def oW (i n : Int) (k : Option α) : Option α := if 0 ≤ i ∧ i < n then k else none
def oV (x : β) (k : β → Option α) : Option α := k x
def oN (y : Int) (k : Option α) : Option α := if y = 0 then none else k
def oD (x : Int) (k : Option α) : Option α := if x = 0 ∨ x = 1 then k else none
def oC (x : Option (Int × zS)) (k : Int → zS → Option α) : Option α := match x with
  | some q => k q.1 q.2
  | none => none
/-- a copy's bounds -/
def oY (n1 n2 : Nat) (sp dp n : Int) (k : Option α) : Option α := if 0 ≤ sp ∧ 0 ≤ dp ∧ 0 ≤ n ∧ sp + n ≤ (n1 : Int) ∧ dp + n ≤ (n2 : Int) then k else none
theorem o_z {x : Int} {k : Int → Option α} {r : α} (h : oZ x k = some r) : ∃ z, z = x ∧ zR z ∧ k z = some r := by
  unfold oZ at h
  split at h
  · rename_i h1; exact ⟨x, rfl, h1, h⟩
  · cases h
theorem o_j {x : Int} {k : Int → Option α} {r : α} (h : oJ x k = some r) : ∃ z, z = x ∧ zRJ z ∧ k z = some r := by
  unfold oJ at h
  split at h
  · rename_i h1; exact ⟨x, rfl, h1, h⟩
  · cases h
theorem o_x {i : Int} {n : Nat} {k : Option α} {r : α} (h : oX i n k = some r) : (0 ≤ i ∧ i < (n : Int)) ∧ k = some r := by
  unfold oX at h
  split at h
  · rename_i h1; exact ⟨h1, h⟩
  · cases h
theorem o_w {i n : Int} {k : Option α} {r : α} (h : oW i n k = some r) : (0 ≤ i ∧ i < n) ∧ k = some r := by
  unfold oW at h
  split at h
  · rename_i h1; exact ⟨h1, h⟩
  · cases h
theorem o_v {x : β} {k : β → Option α} {r : α} (h : oV x k = some r) : ∃ y, y = x ∧ k y = some r := ⟨x, rfl, h⟩
theorem o_n {y : Int} {k : Option α} {r : α} (h : oN y k = some r) : ¬ y = 0 ∧ k = some r := by
  unfold oN at h
  split at h
  · cases h
  · rename_i h1; exact ⟨h1, h⟩
theorem o_d {x : Int} {k : Option α} {r : α} (h : oD x k = some r) : (x = 0 ∨ x = 1) ∧ k = some r := by
  unfold oD at h
  split at h
  · rename_i h1; exact ⟨h1, h⟩
  · cases h
theorem o_c {x : Option (Int × zS)} {k : Int → zS → Option α} {r : α} (h : oC x k = some r) : ∃ b s, x = some (b, s) ∧ k b s = some r := by
  unfold oC at h
  split at h
  · rename_i q; exact ⟨q.1, q.2, rfl, h⟩
  · cases h
theorem o_y {n1 n2 : Nat} {sp dp n : Int} {k : Option α} {r : α} (h : oY n1 n2 sp dp n k = some r) : (0 ≤ sp ∧ 0 ≤ dp ∧ 0 ≤ n ∧ sp + n ≤ (n1 : Int) ∧ dp + n ≤ (n2 : Int)) ∧ k = some r := by
  unfold oY at h
  split at h
  · rename_i h1; exact ⟨h1, h⟩
  · cases h
theorem o_t {c : Prop} [Decidable c] {x y : Option α} {r : α} (h : (if c then x else y) = some r) (hc : c) : x = some r := by
  rw [if_pos hc] at h; exact h
theorem o_f {c : Prop} [Decidable c] {x y : Option α} {r : α} (h : (if c then x else y) = some r) (hc : ¬ c) : y = some r := by
  rw [if_neg hc] at h; exact h
end AOpz
/-- loops' fuel -/
def zFu : Nat := 1000000
