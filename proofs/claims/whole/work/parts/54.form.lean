/-! ===== formulas: what codes tell ===== -/
def clip (v : Int) : Int := if 1000000 < v then 1000000 else if v < -1000000 then -1000000 else v
def fdv (a b : Int) : Int := if b = 0 then 0 else if Int.tmod a b ≠ 0 ∧ ¬ (a < 0 ↔ b < 0) then Int.tdiv a b - 1 else Int.tdiv a b
def jn (r a b : Int) : Int := if r = 1 then clip (a + b) else if r = 2 then clip (a - b) else if r = 3 then clip (a * b) else if r = 4 then fdv a b else if r = 5 then (if a < b then a else b) else if r = 6 then (if b < a then a else b) else if r = 7 then (if a < b then 1 else 0) else if r = 8 then (if b < a then 1 else 0) else if r = 9 then (if a = b then 1 else 0) else if r = 10 then a * b else (if 0 < a + b then 1 else 0)
abbrev inM (v : Int) : Prop := -1000000 ≤ v ∧ v ≤ 1000000
abbrev bl (v : Int) : Prop := v = 0 ∨ v = 1
section
variable {a b r x y : Int} {s : zS}
theorem clip_in : inM (clip a) := by unfold clip; repeat' split
                                     all_goals omega
theorem mul_in (ha : inM a) (hb : inM b) : -1000000000000 ≤ a * b ∧ a * b ≤ 1000000000000 := by
  have h1 : (a * b).natAbs = a.natAbs * b.natAbs := Int.natAbs_mul a b
  have h2 : a.natAbs * b.natAbs ≤ 1000000 * 1000000 := Nat.mul_le_mul (by omega) (by omega)
  omega
theorem fdv_in (ha : inM a) : inM (fdv a b) := by
  unfold fdv
  split
  · omega
  rename_i hb
  have h1 : (a.tdiv b).natAbs ≤ a.natAbs := Int.natAbs_tdiv_le_natAbs a b
  split
  · rename_i h
    have h2 : (a.tdiv b).natAbs = a.natAbs / b.natAbs := Int.natAbs_tdiv a b
    have h3 : (a.tmod b).natAbs = a.natAbs % b.natAbs := Int.natAbs_tmod a b
    have h4 := Nat.div_add_mod a.natAbs b.natAbs
    have h5 : 1 * (a.natAbs / b.natAbs) ≤ b.natAbs * (a.natAbs / b.natAbs) := Nat.mul_le_mul_right _ (by omega)
    have h6 : a.tmod b ≠ 0 := h.1
    omega
  · omega
theorem jn_in (h1 : 1 ≤ r) (h2 : r ≤ 9) (ha : inM a) (hb : inM b) : inM (jn r a b) := by
  have hc : ∀ v, inM (clip v) := fun _ => clip_in
  have hf := fdv_in (b := b) ha
  unfold jn
  repeat' split
  all_goals first | exact hc _ | exact hf | omega
theorem jn_bl (h1 : 7 ≤ r) (h2 : r ≤ 11) (ha : 10 ≤ r → bl a ∧ bl b) : bl (jn r a b) := by
  unfold jn
  rw [if_neg (by omega), if_neg (by omega), if_neg (by omega), if_neg (by omega), if_neg (by omega), if_neg (by omega)]
  repeat' split
  all_goals first | (left; rfl) | (right; rfl) | skip
  obtain ⟨q1, q2⟩ := ha (by omega)
  rcases q1 with rfl | rfl <;> rcases q2 with rfl | rfl <;> first | exact Or.inl rfl | exact Or.inr rfl
theorem zAnd_bl (h1 : bl a) (h2 : bl b) : zAnd a b = a * b := by
  rcases h1 with rfl | rfl <;> rcases h2 with rfl | rfl <;> decide +kernel
theorem zOr_bl (h1 : bl a) (h2 : bl b) : zOr a b = (if 0 < a + b then 1 else 0) := by
  rcases h1 with rfl | rfl <;> rcases h2 with rfl | rfl <;> decide +kernel
theorem e290 : m290 x y s = some (if y < x then y else x, s) := by unfold m290; split <;> rfl
theorem e288 : m288 x y s = some (if x < y then y else x, s) := by unfold m288; split <;> rfl
theorem e291 : m291 x y s = some (if y < x then y else x, s) := by unfold m291; simp only [oV, zcmp_gt]; split <;> rfl
theorem e289 : m289 x y s = some (if x < y then y else x, s) := by unfold m289; simp only [oV, zcmp_lt]; split <;> rfl
theorem e287 (h1 : -2147483647 ≤ x) (h2 : x ≤ 2147483647) : m287 x s = some (if x < 0 then -x else x, s) := by
  unfold m287
  split
  · rw [oZ_pos (by omega) (by omega)]
  · rfl
theorem bv_neg (x : BitVec 32) : x.toInt < 0 ↔ x.msb = true := by rw [BitVec.msb_eq_toInt]; simp
theorem zXor_neg (hx : zR x) (hy : zR y) : zXor x y < 0 ↔ ¬ (x < 0 ↔ y < 0) := by
  unfold zXor
  have h1 : (Int32.ofInt x ^^^ Int32.ofInt y).toInt = ((Int32.ofInt x).toBitVec ^^^ (Int32.ofInt y).toBitVec).toInt := rfl
  have h2 : (Int32.ofInt x).toBitVec.toInt = x := zTo hx
  have h3 : (Int32.ofInt y).toBitVec.toInt = y := zTo hy
  have h4 := bv_neg (Int32.ofInt x).toBitVec
  have h5 := bv_neg (Int32.ofInt y).toBitVec
  rw [h2] at h4
  rw [h3] at h5
  rw [h1, bv_neg, BitVec.msb_xor, h4, h5]
  cases (Int32.ofInt x).toBitVec.msb <;> cases (Int32.ofInt y).toBitVec.msb <;> simp
theorem e286 (hb : b ≠ 0) (ha : inM a) (hb' : inM b) : m286 a b s = some (fdv a b, s) := by
  have h1 : (a.tdiv b).natAbs ≤ a.natAbs := Int.natAbs_tdiv_le_natAbs a b
  have h2 := Int.mul_tdiv_add_tmod a b
  have h3 : a.tdiv b * b = b * a.tdiv b := Int.mul_comm _ _
  have h4 : (a.tmod b).natAbs = a.natAbs % b.natAbs := Int.natAbs_tmod a b
  have h5 : a.natAbs % b.natAbs ≤ a.natAbs := Nat.mod_le _ _
  unfold m286 fdv
  rw [if_neg hb, oN_pos hb, oZ_pos (by omega) (by omega), oV_eq]
  by_cases c : a < 0 ↔ b < 0
  · rw [if_neg (by rw [zXor_neg (by omega) (by omega)]; simp [c]), if_neg (by simp [c])]
  · rw [if_pos (by rw [zXor_neg (by omega) (by omega)]; exact c), oZ_pos (by omega) (by omega)]
    by_cases d : a.tmod b = 0
    · rw [if_pos (by omega), if_neg (by simp [d])]
    · rw [if_neg (by omega), if_pos ⟨d, c⟩, oZ_pos (by omega) (by omega)]
theorem e22_1 (ha : inM a) (hb : inM b) : m22 20000 a b s = some (clip (a + b), s) := by
  simp only [m22, Int.reduceEq, ↓reduceIte]
  rw [oZ_pos (by omega) (by omega), e290, oC_some, e288, oC_some]
  congr 2; unfold clip; repeat' split
  all_goals omega
theorem e22_2 (ha : inM a) (hb : inM b) : m22 20001 a b s = some (clip (a - b), s) := by
  simp only [m22, ↓reduceIte]
  rw [oZ_pos (by omega) (by omega), e290, oC_some, e288, oC_some]
  congr 2; unfold clip; repeat' split
  all_goals omega
theorem e22_3 (ha : inM a) (hb : inM b) : m22 20002 a b s = some (clip (a * b), s) := by
  have hm := mul_in ha hb
  simp only [m22, Int.reduceEq, ↓reduceIte]
  rw [oJ_pos (by omega) (by omega), e291, oC_some, e289, oC_some]
  generalize a * b = q at *
  have e : (if (-1000000 : Int) < (if q < 1000000 then q else 1000000) then (if q < 1000000 then q else 1000000) else -1000000) = clip q := by
    unfold clip; repeat' split
    all_goals omega
  have hc : inM (clip q) := clip_in
  rw [e, oZ_pos (by omega) (by omega)]
theorem e22_4 (ha : inM a) (hb : inM b) : m22 20003 a b s = some (fdv a b, s) := by
  simp only [m22, Int.reduceEq, ↓reduceIte]
  by_cases h : b = 0
  · rw [if_pos h]; unfold fdv; rw [if_pos h]
  · rw [if_neg h, e286 h ha hb, oC_some]
theorem e22_5 : m22 20004 a b s = some (if a < b then a else b, s) := by
  simp only [m22, Int.reduceEq, ↓reduceIte]
  rw [e290, oC_some]
  congr 2; repeat' split
  all_goals omega
theorem e22_6 : m22 20005 a b s = some (if b < a then a else b, s) := by
  simp only [m22, Int.reduceEq, ↓reduceIte]
  rw [e288, oC_some]
  congr 2; repeat' split
  all_goals omega
theorem e22_7 : m22 20006 a b s = some (if a < b then 1 else 0, s) := by
  simp only [m22, Int.reduceEq, ↓reduceIte]
  split <;> rfl
theorem e22_8 : m22 20007 a b s = some (if b < a then 1 else 0, s) := by
  simp only [m22, Int.reduceEq, ↓reduceIte]
  split <;> rfl
theorem e22_9 : m22 20008 a b s = some (if a = b then 1 else 0, s) := by
  simp only [m22, Int.reduceEq, ↓reduceIte]
  split <;> rfl
theorem e22_10 (h1 : bl a) (h2 : bl b) : m22 20009 a b s = some (a * b, s) := by
  simp only [m22, Int.reduceEq, ↓reduceIte]
  rw [oV_eq, zAnd_bl h1 h2]
theorem e22_11 (h1 : bl a) (h2 : bl b) : m22 20010 a b s = some (if 0 < a + b then 1 else 0, s) := by
  simp only [m22, Int.reduceEq, ↓reduceIte]
  rw [oV_eq, zOr_bl h1 h2]
theorem e22 (h1 : 1 ≤ r) (h2 : r ≤ 11) (ha : inM a) (hb : inM b) (hl : 10 ≤ r → bl a ∧ bl b) : m22 (19999 + r) a b s = some (jn r a b, s) := by
  have hr : r = 1 ∨ r = 2 ∨ r = 3 ∨ r = 4 ∨ r = 5 ∨ r = 6 ∨ r = 7 ∨ r = 8 ∨ r = 9 ∨ r = 10 ∨ r = 11 := by omega
  unfold jn
  rcases hr with e | e | e | e | e | e | e | e | e | e | e
  · rw [if_pos e, show 19999 + r = 20000 by omega]; exact e22_1 ha hb
  · rw [if_neg (by omega), if_pos e, show 19999 + r = 20001 by omega]; exact e22_2 ha hb
  · rw [if_neg (by omega), if_neg (by omega), if_pos e, show 19999 + r = 20002 by omega]; exact e22_3 ha hb
  · rw [if_neg (by omega), if_neg (by omega), if_neg (by omega), if_pos e, show 19999 + r = 20003 by omega]; exact e22_4 ha hb
  · rw [if_neg (by omega), if_neg (by omega), if_neg (by omega), if_neg (by omega), if_pos e, show 19999 + r = 20004 by omega]; exact e22_5
  · rw [if_neg (by omega), if_neg (by omega), if_neg (by omega), if_neg (by omega), if_neg (by omega), if_pos e, show 19999 + r = 20005 by omega]; exact e22_6
  · rw [if_neg (by omega), if_neg (by omega), if_neg (by omega), if_neg (by omega), if_neg (by omega), if_neg (by omega), if_pos e, show 19999 + r = 20006 by omega]; exact e22_7
  · rw [if_neg (by omega), if_neg (by omega), if_neg (by omega), if_neg (by omega), if_neg (by omega), if_neg (by omega), if_neg (by omega), if_pos e, show 19999 + r = 20007 by omega]; exact e22_8
  · rw [if_neg (by omega), if_neg (by omega), if_neg (by omega), if_neg (by omega), if_neg (by omega), if_neg (by omega), if_neg (by omega), if_neg (by omega), if_pos e, show 19999 + r = 20008 by omega]; exact e22_9
  · rw [if_neg (by omega), if_neg (by omega), if_neg (by omega), if_neg (by omega), if_neg (by omega), if_neg (by omega), if_neg (by omega), if_neg (by omega), if_neg (by omega), if_pos e, show 19999 + r = 20009 by omega]; exact e22_10 (hl (by omega)).1 (hl (by omega)).2
  · rw [if_neg (by omega), if_neg (by omega), if_neg (by omega), if_neg (by omega), if_neg (by omega), if_neg (by omega), if_neg (by omega), if_neg (by omega), if_neg (by omega), if_neg (by omega), show 19999 + r = 20010 by omega]; exact e22_11 (hl (by omega)).1 (hl (by omega)).2
end
/-- the values behind a code -/
def cStep (pt fr : Int → Int) (r : Int) (st : List Int) : List Int :=
  if 1000 ≤ r then (r - 1000) :: st
  else if r = 60 then fr (st.headD 0) :: st.tail
  else if 40 ≤ r then pt (r - 40) :: st
  else if r = 13 then 1 :: st
  else if r = 12 then (1 - st.headD 0) :: st.tail
  else jn r (st.tail.headD 0) (st.headD 0) :: st.tail.tail
def cRl (pt fr c : Int → Int) : Nat → List Int
  | 0 => []
  | i + 1 => cStep pt fr (c (i : Int)) (cRl pt fr c i)
/-- a row's first cells are these values, the last one first -/
def stk (g : Int → Int) : List Int → Prop
  | [] => True
  | x :: t => g (t.length : Int) = x ∧ stk g t
theorem stk_ext {g g' : Int → Int} : ∀ {l : List Int}, stk g l → (∀ j : Int, 0 ≤ j → j < (l.length : Int) → g' j = g j) → stk g' l
  | [], _, _ => trivial
  | x :: t, h, e => ⟨(e _ (by omega) (by simp only [List.length_cons]; omega)).trans h.1, stk_ext h.2 (fun j a b => e j a (by simp only [List.length_cons]; omega))⟩
theorem stk_tail {g : Int → Int} {l : List Int} (h : stk g l) : stk g l.tail := by
  cases l with
  | nil => exact h
  | cons x t => exact h.2
theorem stk_top {g : Int → Int} {l : List Int} (h : stk g l) (n : 1 ≤ l.length) : g ((l.length : Int) - 1) = l.headD 0 := by
  cases l with
  | nil => simp at n
  | cons x t =>
    have : ((x :: t).length : Int) - 1 = (t.length : Int) := by simp only [List.length_cons]; omega
    rw [this]; exact h.1
theorem stk_snd {g : Int → Int} {l : List Int} (h : stk g l) (n : 2 ≤ l.length) : g ((l.length : Int) - 2) = l.tail.headD 0 := by
  have h1 := stk_top (stk_tail h) (by simp only [List.length_tail]; omega)
  have : (l.tail.length : Int) - 1 = (l.length : Int) - 2 := by simp only [List.length_tail]; omega
  rw [this] at h1; exact h1
/-- a code that can be done with these values -/
def gd (r : Int) (st : List Int) : Prop := (∀ v, v ∈ st → inM v) ∧ st.length ≤ 63 ∧
  ((1000 ≤ r ∧ r ≤ 10999) ∨ (40 ≤ r ∧ r ≤ 48) ∨ r = 13 ∨ (r = 60 ∧ 1 ≤ st.length) ∨ (r = 12 ∧ 1 ≤ st.length ∧ bl (st.headD 0)) ∨ (1 ≤ r ∧ r ≤ 11 ∧ 2 ≤ st.length ∧ (10 ≤ r → bl (st.tail.headD 0) ∧ bl (st.headD 0))))
theorem headD_mem {st : List Int} (h : 1 ≤ st.length) : st.headD 0 ∈ st := by
  cases st with
  | nil => simp at h
  | cons x t => simp
theorem gd_top {r : Int} {st : List Int} (h : gd r st) (n : 1 ≤ st.length) : inM (st.headD 0) := h.1 _ (headD_mem n)
theorem gd_snd {r : Int} {st : List Int} (h : gd r st) (n : 2 ≤ st.length) : inM (st.tail.headD 0) := h.1 _ (List.mem_of_mem_tail (headD_mem (by simp only [List.length_tail]; omega)))
/-- where the class keeps each part -/
def fIx (r : Int) : Int := if r = 0 then 3 else if r = 1 then 4 else if r = 2 then 5 else if r = 3 then 2 else if r = 4 then 6 else if r = 5 then 0 else if r = 6 then 1 else r
theorem cDec_fact {r : Int} (h1 : 40 ≤ r) (h2 : r ≤ 48) : cDec r = 10000 + fIx (r - 40) := by
  have hr : r = 40 ∨ r = 41 ∨ r = 42 ∨ r = 43 ∨ r = 44 ∨ r = 45 ∨ r = 46 ∨ r = 47 ∨ r = 48 := by omega
  rcases hr with rfl | rfl | rfl | rfl | rfl | rfl | rfl | rfl | rfl <;> rfl
theorem fIx_in {r : Int} (h1 : 0 ≤ r) (h2 : r ≤ 8) : 0 ≤ fIx r ∧ fIx r ≤ 8 := by unfold fIx; repeat' split
                                                                                 all_goals omega
theorem cDec_num {r : Int} (h1 : 1000 ≤ r) : cDec r = r - 1000 := by unfold cDec; rw [if_pos h1]
theorem cDec_op {r : Int} (h1 : 1 ≤ r) (h2 : r ≤ 12) : cDec r = 19999 + r := by
  unfold cDec
  repeat' split
  all_goals omega
section
variable {pt fr c : Int → Int} {st : List Int} {r : Int}
theorem cs_num (h : 1000 ≤ r) : cStep pt fr r st = (r - 1000) :: st := by unfold cStep; rw [if_pos h]
theorem cs_far (h : r = 60) : cStep pt fr r st = fr (st.headD 0) :: st.tail := by unfold cStep; rw [if_neg (by omega), if_pos h]
theorem cs_part (h : 40 ≤ r) (h' : r ≤ 48) : cStep pt fr r st = pt (r - 40) :: st := by unfold cStep; rw [if_neg (by omega), if_neg (by omega), if_pos h]
theorem cs_all (h : r = 13) : cStep pt fr r st = 1 :: st := by unfold cStep; rw [if_neg (by omega), if_neg (by omega), if_neg (by omega), if_pos h]
theorem cs_not (h : r = 12) : cStep pt fr r st = (1 - st.headD 0) :: st.tail := by unfold cStep; rw [if_neg (by omega), if_neg (by omega), if_neg (by omega), if_neg (by omega), if_pos h]
theorem cs_op (h : 1 ≤ r) (h' : r ≤ 11) : cStep pt fr r st = jn r (st.tail.headD 0) (st.headD 0) :: st.tail.tail := by unfold cStep; rw [if_neg (by omega), if_neg (by omega), if_neg (by omega), if_neg (by omega), if_neg (by omega)]
theorem len_tail1 (h : 1 ≤ st.length) : (st.tail.length : Int) = (st.length : Int) - 1 := by simp only [List.length_tail]; omega
theorem len_tail2 (h : 2 ≤ st.length) : (st.tail.tail.length : Int) = (st.length : Int) - 2 := by simp only [List.length_tail]; omega
theorem e21 {x : Int} {s : zS} (h1 : 0 ≤ x) (h2 : x < 10000) : m21 x s = some (x, s) := by
  unfold m21; rw [oZ_pos (by omega) (by omega), if_pos (by omega)]
theorem e21f {x : Int} {s : zS} (h1 : 0 ≤ x) (h2 : x < 10) : m21 (10000 + x) s = some (s.1 11 x, s) := by
  have e : 10000 + x - 10000 = x := by omega
  unfold m21; rw [oZ_pos (by omega) (by omega), e, if_neg (by omega), if_pos h2, oX_pos h1 (by omega), oV_eq]
/-- one step of the class's -/
theorem c20_step {b L : Nat} {n : Nat} {N k : Int} {s s0 : zS} {P : Int → zS → Prop}
    (hN : s0.1 b 2 = N) (hN' : N ≤ 1600) (hk0 : 0 ≤ k) (hk : k < N) (hl : s0.1 (L + 1) 0 ≤ 7) (d1 : L + 1 ≠ b + 2) (d2 : L + 8 ≠ b + 2) (d3 : 11 ≠ b + 2)
    (hc : s0.1 (b + 1) k = cDec r) (hp : ∀ q, 0 ≤ q → q ≤ 8 → s0.1 11 (fIx q) = pt q)
    (hf : ∀ x, fr x = (if 0 ≤ s0.1 11 9 ∧ s0.1 11 9 < s0.1 (L + 1) 0 ∧ 0 ≤ x ∧ x < s0.1 (L + 1) 0 then (if s0.1 (L + 8) (7 * s0.1 11 9 + x) < 1000 then s0.1 (L + 8) (7 * s0.1 11 9 + x) else -1) else -1))
    (hg : gd r st) (hs : Fr (fun a _ => a = b + 2) s0 s) (hst : stk (fun j => s.1 (b + 2) j) st)
    (ih : ∀ t, Fr (fun a _ => a = b + 2) s0 t → stk (fun j => t.1 (b + 2) j) (cStep pt fr r st) → Ok (m20_5 n b L ((cStep pt fr r st).length : Int) (k + 1) t) P) :
    Ok (m20_5 (n + 1) b L (st.length : Int) k s) P := by
  have g1 : s.1 b 2 = N := by rw [hs.1 b 2 (by omega)]; exact hN
  have g2 : s.1 (b + 1) k = cDec r := by rw [hs.1 (b + 1) k (by omega)]; exact hc
  have g3 := hg.2.1
  have push : ∀ v, stk (fun j => (sI s (b + 2) (st.length : Int) v).1 (b + 2) j) (v :: st) := fun v => ⟨sI_e, stk_ext hst (fun j q1 q2 => by show (sI s (b + 2) (st.length : Int) v).1 (b + 2) j = _; rw [sI_k (by omega)])⟩
  have frI : ∀ (t : zS) (q v : Int), Fr (fun a _ => a = b + 2) s0 t → Fr (fun a _ => a = b + 2) s0 (sI t (b + 2) q v) := fun t q v h => fr_trans h (fr_I rfl)
  have hlen : ∀ v, (((v :: st).length : Nat) : Int) = (st.length : Int) + 1 := fun v => by simp only [List.length_cons]; omega
  rw [m20_5]
  refine k_v ?_
  rw [g1]
  refine k_p hk ?_
  refine k_x (by omega) (by omega) ?_
  refine k_v ?_
  rw [g2]
  rcases hg.2.2 with h | h | h | h | h | h
  · rw [cDec_num h.1]
    refine k_p (by omega) (k_p (by omega) ?_)
    refine k_e (e21 (by omega) (by omega)) ?_
    refine k_x (by omega) (by omega) (k_v (k_z (by omega) (by omega) (k_z (by omega) (by omega) ?_)))
    rw [cs_num h.1] at ih
    have := ih _ (frI s _ _ hs) (push (r - 1000))
    rw [hlen] at this
    exact this
  · rw [cDec_fact h.1 h.2]
    have q := fIx_in (r := r - 40) (by omega) (by omega)
    refine k_p (by omega) (k_p (by omega) ?_)
    refine k_e (e21f q.1 (by omega)) ?_
    refine k_x (by omega) (by omega) (k_v (k_z (by omega) (by omega) (k_z (by omega) (by omega) ?_)))
    rw [cs_part h.1 h.2] at ih
    have := ih _ (frI s _ _ hs) (push (pt (r - 40)))
    rw [hlen] at this
    rw [hs.1 11 _ d3, hp (r - 40) (by omega) (by omega)]
    exact this
  · have e : cDec r = 1 := by rw [h]; rfl
    rw [e]
    refine k_p (by omega) (k_p (by omega) ?_)
    refine k_e (e21 (by omega) (by omega)) ?_
    refine k_x (by omega) (by omega) (k_v (k_z (by omega) (by omega) (k_z (by omega) (by omega) ?_)))
    rw [cs_all h] at ih
    have := ih _ (frI s _ _ hs) (push 1)
    rw [hlen] at this
    exact this
  · obtain ⟨h, hn⟩ := h
    have e : cDec r = 20012 := by rw [h]; rfl
    have ht := stk_top hst hn
    rw [e]
    refine k_q (by omega) (k_q (by omega) (k_p rfl ?_))
    unfold m20_71
    refine k_p (by omega) ?_
    refine k_z (by omega) (by omega) (k_x (by omega) (by omega) (k_v (k_z (by omega) (by omega) (k_p rfl (k_x (by omega) (by omega) (k_v ?_))))))
    have hx : s.1 (b + 2) ((st.length : Int) - 1) = st.headD 0 := ht
    have ev : m47 L (s.1 11 9) (s.1 (b + 2) ((st.length : Int) - 1)) s = some (fr (st.headD 0), s) := by
      rw [e47 (by rw [hs.1 _ _ d1]; exact hl), hx, hs.1 11 9 d3, hs.1 (L + 1) 0 d1, hs.1 (L + 8) _ d2, hf]
    refine k_e ev ?_
    refine k_x (by omega) (by omega) (k_v (k_z (by omega) (by omega) ?_))
    rw [cs_far h] at ih
    have hst' : stk (fun j => (sI s (b + 2) ((st.length : Int) - 1) (fr (st.headD 0))).1 (b + 2) j) (fr (st.headD 0) :: st.tail) := by
      refine ⟨?_, stk_ext (stk_tail hst) (fun j q1 q2 => ?_)⟩
      · rw [len_tail1 hn]; exact sI_e
      · rw [len_tail1 hn] at q2
        show (sI s (b + 2) ((st.length : Int) - 1) (fr (st.headD 0))).1 (b + 2) j = _
        rw [sI_k (by omega)]
    have := ih _ (frI s _ _ hs) hst'
    have hlen' : (((fr (st.headD 0) :: st.tail).length : Nat) : Int) = (st.length : Int) := by simp only [List.length_cons, List.length_tail]; omega
    rw [hlen'] at this
    exact this
  · obtain ⟨h, hn, hb⟩ := h
    have e : cDec r = 20011 := by rw [h]; rfl
    have ht := stk_top hst hn
    have hx : s.1 (b + 2) ((st.length : Int) - 1) = st.headD 0 := ht
    have hin := gd_top hg hn
    rw [e]
    refine k_q (by omega) (k_p rfl ?_)
    unfold m20_71
    refine k_p (by omega) ?_
    refine k_z (by omega) (by omega) (k_x (by omega) (by omega) (k_v (k_z (by omega) (by omega) (k_q (by omega) ?_))))
    rw [hx]
    refine k_z (by omega) (by omega) (k_x (by omega) (by omega) (k_v (k_z (by omega) (by omega) ?_)))
    rw [cs_not h] at ih
    have hst' : stk (fun j => (sI s (b + 2) ((st.length : Int) - 1) (1 - st.headD 0)).1 (b + 2) j) ((1 - st.headD 0) :: st.tail) := by
      refine ⟨?_, stk_ext (stk_tail hst) (fun j q1 q2 => ?_)⟩
      · rw [len_tail1 hn]; exact sI_e
      · rw [len_tail1 hn] at q2
        show (sI s (b + 2) ((st.length : Int) - 1) (1 - st.headD 0)).1 (b + 2) j = _
        rw [sI_k (by omega)]
    have := ih _ (frI s _ _ hs) hst'
    have hlen' : ((((1 - st.headD 0) :: st.tail).length : Nat) : Int) = (st.length : Int) := by simp only [List.length_cons, List.length_tail]; omega
    rw [hlen'] at this
    exact this
  · obtain ⟨h, h', hn, hb⟩ := h
    have ht : s.1 (b + 2) ((st.length : Int) - 1) = st.headD 0 := stk_top hst (by omega)
    have hu : s.1 (b + 2) ((st.length : Int) - 2) = st.tail.headD 0 := stk_snd hst hn
    have i1 := gd_top hg (by omega)
    have i2 := gd_snd hg hn
    have e2 : (st.length : Int) + -1 = (st.length : Int) - 1 := by omega
    have e3 : (st.length : Int) - 1 - 1 = (st.length : Int) - 2 := by omega
    rw [cDec_op h (by omega)]
    refine k_q (by omega) (k_q (by omega) (k_q (by omega) (k_p (by omega) ?_)))
    refine k_z (by omega) (by omega) ?_
    rw [e2]
    refine k_z (by omega) (by omega) (k_z (by omega) (by omega) ?_)
    rw [e3]
    refine k_x (by omega) (by omega) (k_v (k_x (by omega) (by omega) (k_v ?_)))
    rw [ht, hu]
    refine k_e (e22 h h' i2 i1 hb) ?_
    refine k_x (by omega) (by omega) (k_v (k_z (by omega) (by omega) ?_))
    rw [cs_op h h'] at ih
    have hst' : stk (fun j => (sI s (b + 2) ((st.length : Int) - 2) (jn r (st.tail.headD 0) (st.headD 0))).1 (b + 2) j) (jn r (st.tail.headD 0) (st.headD 0) :: st.tail.tail) := by
      refine ⟨?_, stk_ext (stk_tail (stk_tail hst)) (fun j q1 q2 => ?_)⟩
      · rw [len_tail2 hn]; exact sI_e
      · rw [len_tail2 hn] at q2
        show (sI s (b + 2) ((st.length : Int) - 2) (jn r (st.tail.headD 0) (st.headD 0))).1 (b + 2) j = _
        rw [sI_k (by omega)]
    have := ih _ (frI s _ _ hs) hst'
    have hlen' : (((jn r (st.tail.headD 0) (st.headD 0) :: st.tail.tail).length : Nat) : Int) = (st.length : Int) - 1 := by simp only [List.length_cons, List.length_tail]; omega
    rw [hlen'] at this
    exact this
end
/-- the class's value of a formula -/
theorem c20_all {b L : Nat} {N : Nat} {s0 : zS} {pt fr c : Int → Int}
    (hN : s0.1 b 2 = (N : Int)) (hN' : N ≤ 1600) (hl : s0.1 (L + 1) 0 ≤ 7) (d1 : L + 1 ≠ b + 2) (d2 : L + 8 ≠ b + 2) (d3 : 11 ≠ b + 2)
    (hc : ∀ i : Nat, i < N → s0.1 (b + 1) (i : Int) = cDec (c (i : Int))) (hp : ∀ q, 0 ≤ q → q ≤ 8 → s0.1 11 (fIx q) = pt q)
    (hf : ∀ x, fr x = (if 0 ≤ s0.1 11 9 ∧ s0.1 11 9 < s0.1 (L + 1) 0 ∧ 0 ≤ x ∧ x < s0.1 (L + 1) 0 then (if s0.1 (L + 8) (7 * s0.1 11 9 + x) < 1000 then s0.1 (L + 8) (7 * s0.1 11 9 + x) else -1) else -1))
    (hg : ∀ i : Nat, i < N → gd (c (i : Int)) (cRl pt fr c i)) (he : (cRl pt fr c N).length = 1) :
    ∀ (n i : Nat) (s : zS), i ≤ N → N - i < n → Fr (fun a _ => a = b + 2) s0 s → stk (fun j => s.1 (b + 2) j) (cRl pt fr c i) →
      Ok (m20_5 n b L ((cRl pt fr c i).length : Int) (i : Int) s) (fun r t => r = (cRl pt fr c N).headD 0 ∧ Fr (fun a _ => a = b + 2) s0 t) := by
  intro n
  induction n with
  | zero => intro i s h1 h2; omega
  | succ n ih =>
    intro i s h1 h2 hs hst
    by_cases hi : i < N
    · refine c20_step (N := (N : Int)) (s0 := s0) (r := c (i : Int)) (pt := pt) (fr := fr) hN (by omega) (by omega) (by omega) hl d1 d2 d3 (hc i hi) hp hf (hg i hi) hs hst ?_
      intro t ht hst'
      exact ih (i + 1) t (by omega) (by omega) ht hst'
    · have e : i = N := by omega
      subst e
      have g1 : s.1 b 2 = (i : Int) := by rw [hs.1 b 2 (by omega)]; exact hN
      have ht : s.1 (b + 2) (((cRl pt fr c i).length : Int) - 1) = (cRl pt fr c i).headD 0 := stk_top hst (by omega)
      rw [m20_5]
      refine k_v ?_
      rw [g1]
      refine k_q (by omega) (k_p (by omega) (k_z (by omega) (by omega) (k_x (by omega) (by omega) (k_v (k_r ⟨ht, hs⟩)))))
