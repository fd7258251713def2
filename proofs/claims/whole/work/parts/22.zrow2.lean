/-! ===== rows: branches, the heap, calls ===== -/
section AZs
variable {G : aHp} {d m pc pc' : Nat} {l l' : List (Option zV)} {st r : List zV} {s s' : zS} {P : Option zV → zS → Prop} {md : aMd} {ln : Nat} {lk : aLk}
theorem z_if1 {ins : Instr} {x : Int} {t u : Nat} {w : Int} {c : Int32 → Prop} [DecidablePred c] {c' : Prop} [Decidable c'] (hm : aMs m = some md) (hi : aFind md.2.2.2.2.2 pc = some (ins, ln, (t, u, w))) (hp : pc + 3 = pc') (hE : aExec aSS md.2.2.2.2.1 d pc ins (t, u, w) (zL l) (cv (zi x) :: r.map cv) (wS G s) = if c (Int32.ofInt x) then aGo t (zL l) (r.map cv) (wS G s) else aGo (pc + 3) (zL l) (r.map cv) (wS G s)) (hc : zR x → (c (Int32.ofInt x) ↔ c')) (kt : c' → Zp G d m t l r s P) (kf : ¬ c' → Zp G d m pc' l r s P) : Zp G d m pc l (zi x :: r) s P := by
  subst hp
  intro h1 h2 h3
  have hx : zR x := zOkS_h h3
  exact w_if (zAt hm hi) hE (fun h => kt ((hc hx).mp h) h1 h2 (zOkS_t h3)) (fun h => kf (fun z => h ((hc hx).mpr z)) h1 h2 (zOkS_t h3))
theorem z_if2 {ins : Instr} {x y : Int} {t u : Nat} {w : Int} {c : Int32 → Int32 → Prop} [∀ x y, Decidable (c x y)] {c' : Prop} [Decidable c'] (hm : aMs m = some md) (hi : aFind md.2.2.2.2.2 pc = some (ins, ln, (t, u, w))) (hp : pc + 3 = pc') (hE : aExec aSS md.2.2.2.2.1 d pc ins (t, u, w) (zL l) (cv (zi y) :: cv (zi x) :: r.map cv) (wS G s) = if c (Int32.ofInt x) (Int32.ofInt y) then aGo t (zL l) (r.map cv) (wS G s) else aGo (pc + 3) (zL l) (r.map cv) (wS G s)) (hc : zR x → zR y → (c (Int32.ofInt x) (Int32.ofInt y) ↔ c')) (kt : c' → Zp G d m t l r s P) (kf : ¬ c' → Zp G d m pc' l r s P) : Zp G d m pc l (zi y :: zi x :: r) s P := by
  subst hp
  intro h1 h2 h3
  have hy : zR y := zOkS_h h3
  have hx : zR x := zOkS_h (zOkS_t h3)
  exact w_if (zAt hm hi) hE (fun h => kt ((hc hx hy).mp h) h1 h2 (zOkS_t (zOkS_t h3))) (fun h => kf (fun z => h ((hc hx hy).mpr z)) h1 h2 (zOkS_t (zOkS_t h3)))
theorem zNN {p : Prop} (h : ¬ ¬ p) : p := Classical.byContradiction h
theorem z_ifeq {x off : Int} {t u : Nat} {w : Int} (hm : aMs m = some md) (hi : aFind md.2.2.2.2.2 pc = some (.ifCond .eq off, ln, (t, u, w))) (hp : pc + 3 = pc') (kt : x = 0 → Zp G d m t l r s P) (kf : ¬ x = 0 → Zp G d m pc' l r s P) : Zp G d m pc l (zi x :: r) s P :=
  z_if1 (c := fun x => x = 0) hm hi hp rfl zEq0 kt kf
theorem z_ifne {x off : Int} {t u : Nat} {w : Int} (hm : aMs m = some md) (hi : aFind md.2.2.2.2.2 pc = some (.ifCond .ne off, ln, (t, u, w))) (hp : pc + 3 = pc') (kt : x = 0 → Zp G d m pc' l r s P) (kf : ¬ x = 0 → Zp G d m t l r s P) : Zp G d m pc l (zi x :: r) s P :=
  z_if1 (c := fun x => ¬ x = 0) (c' := ¬ x = 0) hm hi hp rfl (fun h => not_congr (zEq0 h)) kf (fun h => kt (zNN h))
theorem z_iflt {x off : Int} {t u : Nat} {w : Int} (hm : aMs m = some md) (hi : aFind md.2.2.2.2.2 pc = some (.ifCond .lt off, ln, (t, u, w))) (hp : pc + 3 = pc') (kt : x < 0 → Zp G d m t l r s P) (kf : ¬ x < 0 → Zp G d m pc' l r s P) : Zp G d m pc l (zi x :: r) s P :=
  z_if1 (c := fun x => x < 0) hm hi hp rfl zLt0 kt kf
theorem z_ifge {x off : Int} {t u : Nat} {w : Int} (hm : aMs m = some md) (hi : aFind md.2.2.2.2.2 pc = some (.ifCond .ge off, ln, (t, u, w))) (hp : pc + 3 = pc') (kt : x < 0 → Zp G d m pc' l r s P) (kf : ¬ x < 0 → Zp G d m t l r s P) : Zp G d m pc l (zi x :: r) s P :=
  z_if1 (c := fun x => 0 ≤ x) hm hi hp rfl z0Le (fun h => kf (by omega)) (fun h => kt (by omega))
theorem z_ifgt {x off : Int} {t u : Nat} {w : Int} (hm : aMs m = some md) (hi : aFind md.2.2.2.2.2 pc = some (.ifCond .gt off, ln, (t, u, w))) (hp : pc + 3 = pc') (kt : 0 < x → Zp G d m t l r s P) (kf : ¬ 0 < x → Zp G d m pc' l r s P) : Zp G d m pc l (zi x :: r) s P :=
  z_if1 (c := fun x => 0 < x) hm hi hp rfl z0Lt kt kf
theorem z_ifle {x off : Int} {t u : Nat} {w : Int} (hm : aMs m = some md) (hi : aFind md.2.2.2.2.2 pc = some (.ifCond .le off, ln, (t, u, w))) (hp : pc + 3 = pc') (kt : 0 < x → Zp G d m pc' l r s P) (kf : ¬ 0 < x → Zp G d m t l r s P) : Zp G d m pc l (zi x :: r) s P :=
  z_if1 (c := fun x => x ≤ 0) hm hi hp rfl zLe0 (fun h => kf (by omega)) (fun h => kt (by omega))
theorem z_cmpeq {x y off : Int} {t u : Nat} {w : Int} (hm : aMs m = some md) (hi : aFind md.2.2.2.2.2 pc = some (.if_icmp .eq off, ln, (t, u, w))) (hp : pc + 3 = pc') (kt : x = y → Zp G d m t l r s P) (kf : ¬ x = y → Zp G d m pc' l r s P) : Zp G d m pc l (zi y :: zi x :: r) s P :=
  z_if2 (c := fun x y => x = y) hm hi hp rfl zEq kt kf
theorem z_cmpne {x y off : Int} {t u : Nat} {w : Int} (hm : aMs m = some md) (hi : aFind md.2.2.2.2.2 pc = some (.if_icmp .ne off, ln, (t, u, w))) (hp : pc + 3 = pc') (kt : x = y → Zp G d m pc' l r s P) (kf : ¬ x = y → Zp G d m t l r s P) : Zp G d m pc l (zi y :: zi x :: r) s P :=
  z_if2 (c := fun x y => ¬ x = y) (c' := ¬ x = y) hm hi hp rfl (fun h k => not_congr (zEq h k)) kf (fun h => kt (zNN h))
theorem z_cmplt {x y off : Int} {t u : Nat} {w : Int} (hm : aMs m = some md) (hi : aFind md.2.2.2.2.2 pc = some (.if_icmp .lt off, ln, (t, u, w))) (hp : pc + 3 = pc') (kt : x < y → Zp G d m t l r s P) (kf : ¬ x < y → Zp G d m pc' l r s P) : Zp G d m pc l (zi y :: zi x :: r) s P :=
  z_if2 (c := fun x y => x < y) hm hi hp rfl zLt kt kf
theorem z_cmpge {x y off : Int} {t u : Nat} {w : Int} (hm : aMs m = some md) (hi : aFind md.2.2.2.2.2 pc = some (.if_icmp .ge off, ln, (t, u, w))) (hp : pc + 3 = pc') (kt : x < y → Zp G d m pc' l r s P) (kf : ¬ x < y → Zp G d m t l r s P) : Zp G d m pc l (zi y :: zi x :: r) s P :=
  z_if2 (c := fun x y => y ≤ x) (c' := y ≤ x) hm hi hp rfl (fun h k => zLe k h) (fun h => kf (by omega)) (fun h => kt (by omega))
theorem z_cmpgt {x y off : Int} {t u : Nat} {w : Int} (hm : aMs m = some md) (hi : aFind md.2.2.2.2.2 pc = some (.if_icmp .gt off, ln, (t, u, w))) (hp : pc + 3 = pc') (kt : y < x → Zp G d m t l r s P) (kf : ¬ y < x → Zp G d m pc' l r s P) : Zp G d m pc l (zi y :: zi x :: r) s P :=
  z_if2 (c := fun x y => y < x) (c' := y < x) hm hi hp rfl (fun h k => zLt k h) kt kf
theorem z_cmple {x y off : Int} {t u : Nat} {w : Int} (hm : aMs m = some md) (hi : aFind md.2.2.2.2.2 pc = some (.if_icmp .le off, ln, (t, u, w))) (hp : pc + 3 = pc') (kt : y < x → Zp G d m pc' l r s P) (kf : ¬ y < x → Zp G d m t l r s P) : Zp G d m pc l (zi y :: zi x :: r) s P :=
  z_if2 (c := fun x y => x ≤ y) (c' := x ≤ y) hm hi hp rfl zLe (fun h => kf (by omega)) (fun h => kt (by omega))
theorem z_ifnull {off : Int} {k n a t u : Nat} {w : Int} (hm : aMs m = some md) (hi : aFind md.2.2.2.2.2 pc = some (.ifnull off, ln, (t, u, w))) (hp : pc + 3 = pc') (K : Zp G d m pc' l r s P) : Zp G d m pc l (zr k n a :: r) s P := by
  subst hp
  exact z_go hm hi (fun h1 h2 h3 => ⟨rfl, h1, h2, zOkS_t h3⟩) K
theorem z_ifnonnull {off : Int} {k n a t u : Nat} {w : Int} (hm : aMs m = some md) (hi : aFind md.2.2.2.2.2 pc = some (.ifnonnull off, ln, (t, u, w))) (K : Zp G d m t l r s P) : Zp G d m pc l (zr k n a :: r) s P :=
  z_go hm hi (fun h1 h2 h3 => ⟨rfl, h1, h2, zOkS_t h3⟩) K
theorem z_ifnullN {off : Int} {t u : Nat} {w : Int} (hm : aMs m = some md) (hi : aFind md.2.2.2.2.2 pc = some (.ifnull off, ln, (t, u, w))) (K : Zp G d m t l r s P) : Zp G d m pc l (zt 0 :: r) s P :=
  z_go hm hi (fun h1 h2 h3 => ⟨rfl, h1, h2, zOkS_t h3⟩) K
theorem z_swT {x c dflt lo hi_ off : Int} {offs : Array Int} {t : Nat} (hm : aMs m = some md) (hi : aFind md.2.2.2.2.2 pc = some (.tableswitch dflt lo hi_ offs, ln, lk)) (hc : x = c) (h1 : lo ≤ c ∧ c ≤ hi_) (ho : offs[(c - lo).toNat]? = some off) (ht : Int.toNat ((pc : Int) + off) = t) (K : Zp G d m t l r s P) : Zp G d m pc l (zi x :: r) s P := by
  subst hc
  subst ht
  refine z_go (st' := r) (l' := l) (s' := s) hm hi (fun g1 g2 g3 => ⟨?_, g1, g2, zOkS_t g3⟩) K
  have hx : zR x := zOkS_h g3
  show aSw dflt lo hi_ offs pc (zL l) (.int (Int32.ofInt x) :: r.map cv) (wS G s) = _
  unfold aSw
  show (if (Int32.ofInt x).toInt < lo ∨ hi_ < (Int32.ofInt x).toInt then _ else (match offs[((Int32.ofInt x).toInt - lo).toNat]? with
    | some off => aGo (Int.toNat (pc + off)) (zL l) (r.map cv) (wS G s)
    | none => none)) = _
  rw [zTo hx, if_neg (by omega), ho]
  rfl
theorem z_swF {x dflt lo hi_ : Int} {offs : Array Int} {t : Nat} (hm : aMs m = some md) (hi : aFind md.2.2.2.2.2 pc = some (.tableswitch dflt lo hi_ offs, ln, lk)) (h1 : ¬ (lo ≤ x ∧ x ≤ hi_)) (ht : Int.toNat ((pc : Int) + dflt) = t) (K : Zp G d m t l r s P) : Zp G d m pc l (zi x :: r) s P := by
  subst ht
  refine z_go (st' := r) (l' := l) (s' := s) hm hi (fun g1 g2 g3 => ⟨?_, g1, g2, zOkS_t g3⟩) K
  have hx : zR x := zOkS_h g3
  show aSw dflt lo hi_ offs pc (zL l) (.int (Int32.ofInt x) :: r.map cv) (wS G s) = _
  unfold aSw
  show (if (Int32.ofInt x).toInt < lo ∨ hi_ < (Int32.ofInt x).toInt then _ else _) = _
  rw [zTo hx, if_pos (by omega)]
  rfl
theorem z_lsw {x dflt : Int} {ps : Array (Int × Int)} {t : Nat} (hm : aMs m = some md) (hi : aFind md.2.2.2.2.2 pc = some (.lookupswitch dflt ps, ln, lk)) (h1 : ps.toList = []) (ht : Int.toNat ((pc : Int) + dflt) = t) (K : Zp G d m t l r s P) : Zp G d m pc l (zi x :: r) s P := by
  subst ht
  refine z_go (st' := r) (l' := l) (s' := s) hm hi (fun g1 g2 g3 => ⟨?_, g1, g2, zOkS_t g3⟩) K
  show (if ps.toList = [] then aGo (Int.toNat (pc + dflt)) (zL l) (r.map cv) (wS G s) else none) = _
  rw [if_pos h1]
  rfl
/-- fields -/
theorem z_fldI {a ci k ix : Nat} {v : Int} (hm : aMs m = some md) (hi : aFind md.2.2.2.2.2 pc = some (.getfield ix, ln, (ci, k, 0))) (hci : Nat.beq ci 104 = false) (hp : pc + 3 = pc') (hv : v = s.1 a (k : Int)) (K : Zp G d m pc' l (zi v :: r) s P) : Zp G d m pc l (zr ci 0 a :: r) s P := by
  subst hp; subst hv
  intro h1 h2 h3
  obtain ⟨ha, hk, -⟩ := zOk_o (zOkS_h h3) (fun z => by rw [z] at hci; cases hci)
  exact w_fldI (zAt hm hi) (Or.inl rfl) ha hk (K h1 h2 (zOkS_c (show zR _ from h1.1 _ _) (zOkS_t h3)))
theorem z_fldZ {a ci k ix : Nat} {v : Int} (hm : aMs m = some md) (hi : aFind md.2.2.2.2.2 pc = some (.getfield ix, ln, (ci, k, 1))) (hci : Nat.beq ci 104 = false) (hp : pc + 3 = pc') (hv : v = s.1 a (k : Int)) (K : Zp G d m pc' l (zi v :: r) s P) : Zp G d m pc l (zr ci 0 a :: r) s P := by
  subst hp; subst hv
  intro h1 h2 h3
  obtain ⟨ha, hk, -⟩ := zOk_o (zOkS_h h3) (fun z => by rw [z] at hci; cases hci)
  exact w_fldI (zAt hm hi) (Or.inr rfl) ha hk (K h1 h2 (zOkS_c (show zR _ from h1.1 _ _) (zOkS_t h3)))
theorem z_fldJ {a ci k ix : Nat} {v : Int} (hm : aMs m = some md) (hi : aFind md.2.2.2.2.2 pc = some (.getfield ix, ln, (ci, k, 2))) (hci : Nat.beq ci 104 = false) (hp : pc + 3 = pc') (hv : v = s.2.1 a (k : Int)) (K : Zp G d m pc' l (zj v :: r) s P) : Zp G d m pc l (zr ci 0 a :: r) s P := by
  subst hp; subst hv
  intro h1 h2 h3
  obtain ⟨ha, hk, -⟩ := zOk_o (zOkS_h h3) (fun z => by rw [z] at hci; cases hci)
  exact w_fldJ (zAt hm hi) ha hk (K h1 h2 (zOkS_c (show zRJ _ from h1.2.1 _ _) (zOkS_t h3)))
theorem z_fldR {a ci k ix : Nat} {k' n' a' : Nat} (hm : aMs m = some md) (hi : aFind md.2.2.2.2.2 pc = some (.getfield ix, ln, (ci, k, 3))) (hF : zGF G ci k a (k', n', a')) (hci : Nat.beq ci 104 = false) (hp : pc + 3 = pc') (K : Zp G d m pc' l (zr k' n' a' :: r) s P) : Zp G d m pc l (zr ci 0 a :: r) s P := by
  subst hp
  intro h1 h2 h3
  obtain ⟨ha, hk, -⟩ := zOk_o (zOkS_h h3) (fun z => by rw [z] at hci; cases hci)
  obtain ⟨e1, e2, e3⟩ := hF ha hk
  refine w_fldR (zAt hm hi) ha hk (x := a') ?_ (K h1 h2 (zOkS_c e3 (zOkS_t h3)))
  show zRf G s a k = some a'
  unfold zRf
  rw [e1]
  exact e2
theorem zM_s {a k q : Nat} (hq : zMut a k = q + 1) {x : Nat} (hx : s.2.2 (q + 1) = x + 1) : zRf G s a k = some (x + 1) := by
  unfold zRf
  rw [hq]
  show (match s.2.2 (q + 1) with
    | 0 => none
    | x + 1 => some (x + 1)) = _
  rw [hx]
/-- a reference that changes: a Land -/
theorem z_fldM {a ci k ix q v : Nat} (hK0 : aK G 0 = 11) (hm : aMs m = some md) (hi : aFind md.2.2.2.2.2 pc = some (.getfield ix, ln, (ci, k, 3))) (hq : zMut a k = q + 1) (hq3 : q + 1 = 1 ∨ q + 1 = 2 ∨ q + 1 = 3) (hci : Nat.beq ci 104 = false) (hp : pc + 3 = pc') (hv : v = s.2.2 (q + 1)) (K : Zp G d m pc' l (zr 5 0 v :: r) s P) : Zp G d m pc l (zr ci 0 a :: r) s P := by
  subst hp
  intro h1 h2 h3
  obtain ⟨ha, hk, -⟩ := zOk_o (zOkS_h h3) (fun z => by rw [z] at hci; cases hci)
  have h5 := h1.2.2.1 (q + 1) hq3
  rw [← hv] at h5
  obtain ⟨g1, g2, -⟩ := zOk_o h5 (by omega)
  cases v with
  | zero => rw [hK0] at g2; cases g2
  | succ x =>
    refine w_fldR (zAt hm hi) ha hk (x := x + 1) (zM_s hq hv.symm) (K h1 h2 (zOkS_c h5 (zOkS_t h3)))
/-- the Formula that is written: none, or one -/
theorem z_fldC {a ci k ix v : Nat} (hm : aMs m = some md) (hi : aFind md.2.2.2.2.2 pc = some (.getfield ix, ln, (ci, k, 3))) (hq : zMut a k = 4) (hci : Nat.beq ci 104 = false) (hp : pc + 3 = pc') (hv : v = s.2.2 4) (h0 : ¬ v = 0) (K : Zp G d m pc' l (zr 3 0 v :: r) s P) : Zp G d m pc l (zr ci 0 a :: r) s P := by
  subst hp
  intro h1 h2 h3
  obtain ⟨ha, hk, -⟩ := zOk_o (zOkS_h h3) (fun z => by rw [z] at hci; cases hci)
  have h5 : zOk G (zr 3 0 v) := by
    rcases h1.2.2.2 with z | z
    · exact absurd (hv.trans z) h0
    · rw [hv]; exact z
  cases v with
  | zero => exact absurd rfl h0
  | succ x =>
    refine w_fldR (zAt hm hi) ha hk (x := x + 1) (zM_s (q := 3) hq hv.symm) (K h1 h2 (zOkS_c h5 (zOkS_t h3)))
theorem z_fldN {a ci k ix : Nat} (hm : aMs m = some md) (hi : aFind md.2.2.2.2.2 pc = some (.getfield ix, ln, (ci, k, 3))) (hq : zMut a k = 4) (hci : Nat.beq ci 104 = false) (hp : pc + 3 = pc') (h0 : s.2.2 4 = 0) (K : Zp G d m pc' l (zt 0 :: r) s P) : Zp G d m pc l (zr ci 0 a :: r) s P := by
  subst hp
  intro h1 h2 h3
  obtain ⟨ha, hk, -⟩ := zOk_o (zOkS_h h3) (fun z => by rw [z] at hci; cases hci)
  refine w_fld (q := (pc + 3, zL l, .null :: r.map cv, wS G s)) (zAt hm hi) ha hk ?_ (K h1 h2 (zOkS_c (show 0 ≤ 40 by omega) (zOkS_t h3)))
  have e : zRf G s a k = none := by
    unfold zRf
    rw [hq]
    show (match s.2.2 4 with
      | 0 => none
      | x + 1 => some (x + 1)) = _
    rw [h0]
  show aGo (pc + 3) (zL l) (va_rf (zRf G s a k) :: r.map cv) (wS G s) = _
  rw [e]
  rfl
/-- what is written -/
theorem wS_I {a k : Nat} {x : Int} : aSetI (wS G s) (aU (aI (wS G s)) a k (Int32.ofInt x)) = wS G (sI s a (k : Int) x) := by
  have e : aU (aI (wS G s)) a k (Int32.ofInt x) = fun (a' k' : Nat) => Int32.ofInt ((sI s a (k : Int) x).1 a' (k' : Int)) := by
    funext a' k'
    show (bif (Nat.beq a' a && Nat.beq k' k) then Int32.ofInt x else Int32.ofInt (s.1 a' k')) = Int32.ofInt (if a' = a ∧ (k' : Int) = (k : Int) then x else s.1 a' k')
    by_cases h : a' = a ∧ k' = k
    · obtain ⟨rfl, rfl⟩ := h
      rw [Nat.beq_refl, Nat.beq_refl, if_pos ⟨rfl, rfl⟩]; rfl
    · have h' : ¬ (a' = a ∧ (k' : Int) = (k : Int)) := fun z => h ⟨z.1, by omega⟩
      rw [if_neg h']
      have : (Nat.beq a' a && Nat.beq k' k) = false := by
        cases h1 : Nat.beq a' a with
        | false => rfl
        | true =>
          cases h2 : Nat.beq k' k with
          | false => rfl
          | true => exact absurd ⟨Nat.eq_of_beq_eq_true h1, Nat.eq_of_beq_eq_true h2⟩ h
      rw [this]; rfl
  show (aN G, aSl G, aK G, aL G, aU (aI (wS G s)) a k (Int32.ofInt x), _, _, aXn G, aX G) = _
  rw [e]
  rfl
theorem wS_J {a k : Nat} {x : Int} : aSetJ (wS G s) (aU (aJ (wS G s)) a k (Int64.ofInt x)) = wS G (sJ s a (k : Int) x) := by
  have e : aU (aJ (wS G s)) a k (Int64.ofInt x) = fun (a' k' : Nat) => Int64.ofInt ((sJ s a (k : Int) x).2.1 a' (k' : Int)) := by
    funext a' k'
    show (bif (Nat.beq a' a && Nat.beq k' k) then Int64.ofInt x else Int64.ofInt (s.2.1 a' k')) = Int64.ofInt (if a' = a ∧ (k' : Int) = (k : Int) then x else s.2.1 a' k')
    by_cases h : a' = a ∧ k' = k
    · obtain ⟨rfl, rfl⟩ := h
      rw [Nat.beq_refl, Nat.beq_refl, if_pos ⟨rfl, rfl⟩]; rfl
    · have h' : ¬ (a' = a ∧ (k' : Int) = (k : Int)) := fun z => h ⟨z.1, by omega⟩
      rw [if_neg h']
      have : (Nat.beq a' a && Nat.beq k' k) = false := by
        cases h1 : Nat.beq a' a with
        | false => rfl
        | true =>
          cases h2 : Nat.beq k' k with
          | false => rfl
          | true => exact absurd ⟨Nat.eq_of_beq_eq_true h1, Nat.eq_of_beq_eq_true h2⟩ h
      rw [this]; rfl
  show (aN G, aSl G, aK G, aL G, _, aU (aJ (wS G s)) a k (Int64.ofInt x), _, aXn G, aX G) = _
  rw [e]
  rfl
theorem zInv_I {a : Nat} {k x : Int} (h : zInv G s) (hx : zR x) : zInv G (sI s a k x) := by
  refine ⟨fun a' k' => ?_, h.2⟩
  show zR (if a' = a ∧ k' = k then x else s.1 a' k')
  split
  · exact hx
  · exact h.1 _ _
theorem zInv_J {a : Nat} {k x : Int} (h : zInv G s) (hx : zRJ x) : zInv G (sJ s a k x) := by
  refine ⟨h.1, fun a' k' => ?_, h.2.2⟩
  show zRJ (if a' = a ∧ k' = k then x else s.2.1 a' k')
  split
  · exact hx
  · exact h.2.1 _ _
theorem z_putI {a ci k ix : Nat} {x : Int} (hm : aMs m = some md) (hi : aFind md.2.2.2.2.2 pc = some (.putfield ix, ln, (ci, k, 0))) (hci : Nat.beq ci 104 = false) (hp : pc + 3 = pc') (hs : s' = sI s a (k : Int) x) (K : Zp G d m pc' l r s' P) : Zp G d m pc l (zi x :: zr ci 0 a :: r) s P := by
  subst hp; subst hs
  intro h1 h2 h3
  obtain ⟨ha, hk, -⟩ := zOk_o (zOkS_h (zOkS_t h3)) (fun z => by rw [z] at hci; cases hci)
  refine w_putI (zAt hm hi) ha hk ?_
  rw [wS_I]
  exact K (zInv_I h1 (zOkS_h h3)) h2 (zOkS_t (zOkS_t h3))
theorem z_putZ {a ci k ix : Nat} {x : Int} (hm : aMs m = some md) (hi : aFind md.2.2.2.2.2 pc = some (.putfield ix, ln, (ci, k, 1))) (hx : x = 0 ∨ x = 1) (hci : Nat.beq ci 104 = false) (hp : pc + 3 = pc') (hs : s' = sI s a (k : Int) x) (K : Zp G d m pc' l r s' P) : Zp G d m pc l (zi x :: zr ci 0 a :: r) s P := by
  subst hp; subst hs
  intro h1 h2 h3
  obtain ⟨ha, hk, -⟩ := zOk_o (zOkS_h (zOkS_t h3)) (fun z => by rw [z] at hci; cases hci)
  refine w_putZ (zAt hm hi) ha hk (by rcases hx with rfl | rfl; exact Or.inl rfl; exact Or.inr rfl) ?_
  rw [wS_I]
  exact K (zInv_I h1 (zOkS_h h3)) h2 (zOkS_t (zOkS_t h3))
theorem z_putJ {a ci k ix : Nat} {x : Int} (hm : aMs m = some md) (hi : aFind md.2.2.2.2.2 pc = some (.putfield ix, ln, (ci, k, 2))) (hci : Nat.beq ci 104 = false) (hp : pc + 3 = pc') (hs : s' = sJ s a (k : Int) x) (K : Zp G d m pc' l r s' P) : Zp G d m pc l (zj x :: zr ci 0 a :: r) s P := by
  subst hp; subst hs
  intro h1 h2 h3
  obtain ⟨ha, hk, -⟩ := zOk_o (zOkS_h (zOkS_t h3)) (fun z => by rw [z] at hci; cases hci)
  refine w_putJ (zAt hm hi) ha hk ?_
  rw [wS_J]
  exact K (zInv_J h1 (zOkS_h h3)) h2 (zOkS_t (zOkS_t h3))
theorem zMut_inj {a k a' k' q : Nat} (h : zMut a k = q + 1) (h' : zMut a' k' = q + 1) : a' = a ∧ k' = k := by
  unfold zMut at h h'
  split at h <;> split at h' <;> first | omega | exact ⟨rfl, rfl⟩ | (exfalso; omega)
theorem wS_M {a k x q : Nat} (hq : zMut a k = q + 1) : aSetR (wS G s) (aU (aR (wS G s)) a k (some (x + 1))) = wS G (sM s (q + 1) (x + 1)) := by
  have e : aU (aR (wS G s)) a k (some (x + 1)) = zRf G (sM s (q + 1) (x + 1)) := by
    funext a' k'
    show (bif (Nat.beq a' a && Nat.beq k' k) then some (x + 1) else zRf G s a' k') = zRf G (sM s (q + 1) (x + 1)) a' k'
    by_cases h : a' = a ∧ k' = k
    · obtain ⟨rfl, rfl⟩ := h
      rw [Nat.beq_refl, Nat.beq_refl]
      refine (zM_s hq ?_).symm
      show (if q + 1 = q + 1 then x + 1 else _) = _
      rw [if_pos rfl]
    · have : (Nat.beq a' a && Nat.beq k' k) = false := by
        cases h1 : Nat.beq a' a with
        | false => rfl
        | true =>
          cases h2 : Nat.beq k' k with
          | false => rfl
          | true => exact absurd ⟨Nat.eq_of_beq_eq_true h1, Nat.eq_of_beq_eq_true h2⟩ h
      rw [this]
      show zRf G s a' k' = _
      unfold zRf
      cases hq' : zMut a' k' with
      | zero => rfl
      | succ q' =>
        have hne : q' + 1 ≠ q + 1 := by
          intro z
          rw [z] at hq'
          exact h (zMut_inj hq hq')
        show (match s.2.2 (q' + 1) with
          | 0 => none
          | x + 1 => some (x + 1)) = (match (if q' + 1 = q + 1 then x + 1 else s.2.2 (q' + 1)) with
          | 0 => none
          | x + 1 => some (x + 1))
        rw [if_neg hne]
  show (aN G, aSl G, aK G, aL G, _, _, aU (aR (wS G s)) a k (some (x + 1)), aXn G, aX G) = _
  rw [e]
  rfl
theorem z_putM {a ci k ix x q : Nat} (hK0 : aK G 0 = 11) (hm : aMs m = some md) (hi : aFind md.2.2.2.2.2 pc = some (.putfield ix, ln, (ci, k, 3))) (hq : zMut a k = q + 1) (hq3 : q + 1 = 1 ∨ q + 1 = 2 ∨ q + 1 = 3) (hci : Nat.beq ci 104 = false) (hp : pc + 3 = pc') (hs : s' = sM s (q + 1) x) (K : Zp G d m pc' l r s' P) : Zp G d m pc l (zr 5 0 x :: zr ci 0 a :: r) s P := by
  subst hp; subst hs
  intro h1 h2 h3
  obtain ⟨ha, hk, -⟩ := zOk_o (zOkS_h (zOkS_t h3)) (fun z => by rw [z] at hci; cases hci)
  have h5 := zOkS_h h3
  obtain ⟨g1, g2, -⟩ := zOk_o h5 (by omega)
  cases x with
  | zero => rw [hK0] at g2; cases g2
  | succ x =>
    refine w_putR (zAt hm hi) ha hk ?_
    rw [wS_M hq]
    refine K ⟨h1.1, h1.2.1, fun q' hq' => ?_, ?_⟩ h2 (zOkS_t (zOkS_t h3))
    · show zOk G (zr 5 0 (if q' = q + 1 then x + 1 else s.2.2 q'))
      split
      · exact h5
      · exact h1.2.2.1 q' hq'
    · show (if 4 = q + 1 then x + 1 else s.2.2 4) = 0 ∨ zOk G (zr 3 0 (if 4 = q + 1 then x + 1 else s.2.2 4))
      rw [if_neg (by omega)]
      exact h1.2.2.2
theorem z_putC {a ci k ix x : Nat} (hK0 : aK G 0 = 11) (hm : aMs m = some md) (hi : aFind md.2.2.2.2.2 pc = some (.putfield ix, ln, (ci, k, 3))) (hq : zMut a k = 4) (hci : Nat.beq ci 104 = false) (hp : pc + 3 = pc') (hs : s' = sM s 4 x) (K : Zp G d m pc' l r s' P) : Zp G d m pc l (zr 3 0 x :: zr ci 0 a :: r) s P := by
  subst hp; subst hs
  intro h1 h2 h3
  obtain ⟨ha, hk, -⟩ := zOk_o (zOkS_h (zOkS_t h3)) (fun z => by rw [z] at hci; cases hci)
  have h5 := zOkS_h h3
  obtain ⟨g1, g2, -⟩ := zOk_o h5 (by omega)
  cases x with
  | zero => rw [hK0] at g2; cases g2
  | succ x =>
    refine w_putR (zAt hm hi) ha hk ?_
    rw [wS_M (q := 3) hq]
    refine K ⟨h1.1, h1.2.1, fun q' hq' => ?_, ?_⟩ h2 (zOkS_t (zOkS_t h3))
    · show zOk G (zr 5 0 (if q' = 4 then x + 1 else s.2.2 q'))
      rw [if_neg (by omega)]
      exact h1.2.2.1 q' hq'
    · show (if 4 = 4 then x + 1 else s.2.2 4) = 0 ∨ zOk G (zr 3 0 (if 4 = 4 then x + 1 else s.2.2 4))
      rw [if_pos rfl]
      exact Or.inr h5
/-- arrays -/
theorem zIn {i : Int} {n : Nat} (hr : zR i) (hx : 0 ≤ i ∧ i < (n : Int)) : ¬ (Int32.ofInt i < 0 ∨ n ≤ (Int32.ofInt i).toNatClampNeg) := by
  rw [zLt0 hr, zNat hr]
  omega
theorem zNt {i : Int} (hr : zR i) (hx : 0 ≤ i) : (((Int32.ofInt i).toNatClampNeg : Nat) : Int) = i := by
  rw [zNat hr]
  omega
theorem z_iald {a n : Nat} {i v : Int} (hN : aN G ≤ 950000) (hm : aMs m = some md) (hi : aFind md.2.2.2.2.2 pc = some (.iaload, ln, lk)) (hp : pc + 1 = pc') (hx : 0 ≤ i ∧ i < (n : Int)) (hv : v = s.1 a i) (K : Zp G d m pc' l (zi v :: r) s P) : Zp G d m pc l (zi i :: zr 100 n a :: r) s P := by
  subst hp
  intro h1 h2 h3
  have hr : zR i := zOkS_h h3
  obtain ⟨ha, hk, hl⟩ := zOk_o (zOkS_h (zOkS_t h3)) (by omega)
  refine w_iald (zAt hm hi) hN ha hk (by show ¬ (_ ∨ aL G a ≤ _); rw [hl]; exact zIn hr hx) ?_
  have e : aI (wS G s) a (Int32.ofInt i).toNatClampNeg = Int32.ofInt v := by
    show Int32.ofInt (s.1 a (((Int32.ofInt i).toNatClampNeg : Nat) : Int)) = _
    rw [zNt hr hx.1, hv]
  rw [e]
  exact K h1 h2 (zOkS_c (show zR v from hv ▸ h1.1 _ _) (zOkS_t (zOkS_t h3)))
theorem z_cald {a n : Nat} {i v : Int} (hm : aMs m = some md) (hi : aFind md.2.2.2.2.2 pc = some (.caload, ln, lk)) (hp : pc + 1 = pc') (hx : 0 ≤ i ∧ i < (n : Int)) (hv : v = s.1 a i) (K : Zp G d m pc' l (zi v :: r) s P) : Zp G d m pc l (zi i :: zr 101 n a :: r) s P := by
  subst hp
  intro h1 h2 h3
  have hr : zR i := zOkS_h h3
  obtain ⟨ha, hk, hl⟩ := zOk_o (zOkS_h (zOkS_t h3)) (by omega)
  refine w_cald (zAt hm hi) ha hk (by show ¬ (_ ∨ aL G a ≤ _); rw [hl]; exact zIn hr hx) ?_
  have e : aI (wS G s) a (Int32.ofInt i).toNatClampNeg = Int32.ofInt v := by
    show Int32.ofInt (s.1 a (((Int32.ofInt i).toNatClampNeg : Nat) : Int)) = _
    rw [zNt hr hx.1, hv]
  rw [e]
  exact K h1 h2 (zOkS_c (show zR v from hv ▸ h1.1 _ _) (zOkS_t (zOkS_t h3)))
theorem z_lald {a n : Nat} {i v : Int} (hm : aMs m = some md) (hi : aFind md.2.2.2.2.2 pc = some (.laload, ln, lk)) (hp : pc + 1 = pc') (hx : 0 ≤ i ∧ i < (n : Int)) (hv : v = s.2.1 a i) (K : Zp G d m pc' l (zj v :: r) s P) : Zp G d m pc l (zi i :: zr 102 n a :: r) s P := by
  subst hp
  intro h1 h2 h3
  have hr : zR i := zOkS_h h3
  obtain ⟨ha, hk, hl⟩ := zOk_o (zOkS_h (zOkS_t h3)) (by omega)
  refine w_lald (zAt hm hi) ha hk (by show ¬ (_ ∨ aL G a ≤ _); rw [hl]; exact zIn hr hx) ?_
  have e : aJ (wS G s) a (Int32.ofInt i).toNatClampNeg = Int64.ofInt v := by
    show Int64.ofInt (s.2.1 a (((Int32.ofInt i).toNatClampNeg : Nat) : Int)) = _
    rw [zNt hr hx.1, hv]
  rw [e]
  exact K h1 h2 (zOkS_c (show zRJ v from hv ▸ h1.2.1 _ _) (zOkS_t (zOkS_t h3)))
/-- the script -/
theorem z_xald {n : Nat} {i v : Int} (hm : aMs m = some md) (hi : aFind md.2.2.2.2.2 pc = some (.iaload, ln, lk)) (hp : pc + 1 = pc') (hx : 0 ≤ i ∧ i < (n : Int)) (hv : v = (aX G i.toNat).toInt) (K : Zp G d m pc' l (zi v :: r) s P) : Zp G d m pc l (zi i :: zr 104 n aXa :: r) s P := by
  subst hp
  intro h1 h2 h3
  have hr : zR i := zOkS_h h3
  have h4 : zOk G (zr 104 n aXa) := zOkS_h (zOkS_t h3)
  have hn : aXn G = n := by
    rcases h4 with h | h
    · exact h.2.2
    · exact absurd rfl h.1
  refine w_ixld (zAt hm hi) (by show ¬ (_ ∨ aXn G ≤ _); rw [hn]; exact zIn hr hx) ?_
  have e : aX (wS G s) (Int32.ofInt i).toNatClampNeg = Int32.ofInt v := by
    show aX G (Int32.ofInt i).toNatClampNeg = _
    rw [zNat hr, hv, Int32.ofInt_toInt]
  rw [e]
  exact K h1 h2 (zOkS_c (show zR v from hv ▸ z32 _) (zOkS_t (zOkS_t h3)))
theorem z_xlen {n : Nat} {x : Int} (hm : aMs m = some md) (hi : aFind md.2.2.2.2.2 pc = some (.arraylength, ln, lk)) (hp : pc + 1 = pc') (hx : x = (n : Int)) (hr : zR x) (K : Zp G d m pc' l (zi x :: r) s P) : Zp G d m pc l (zr 104 n aXa :: r) s P := by
  subst hp
  subst hx
  intro h1 h2 h3
  have h4 : zOk G (zr 104 n aXa) := zOkS_h h3
  have hn : aXn G = n := by
    rcases h4 with h | h
    · exact h.2.2
    · exact absurd rfl h.1
  refine w_go (q := (pc + 1, zL l, .int (Int32.ofInt (n : Int)) :: r.map cv, wS G s)) (zAt hm hi) ?_ (K h1 h2 (zOkS_c (show zR _ from hr) (zOkS_t h3)))
  show aAlen pc (zL l) (.ref aXa :: r.map cv) (wS G s) = _
  unfold aAlen
  have e : Nat.beq aXa aXa = true := Nat.beq_refl _
  generalize Nat.beq aXa aXa = b at e ⊢
  subst e
  show aGo (pc + 1) (zL l) (.int (Int32.ofNat (aXn G)) :: r.map cv) (wS G s) = _
  rw [hn, ← Int32.ofInt_eq_ofNat]
  rfl
theorem z_alen {k n a : Nat} {x : Int} (hN : aN G ≤ 950000) (hm : aMs m = some md) (hi : aFind md.2.2.2.2.2 pc = some (.arraylength, ln, lk)) (hk : k = 100 ∨ k = 101) (hp : pc + 1 = pc') (hx : x = (n : Int)) (hr : zR x) (K : Zp G d m pc' l (zi x :: r) s P) : Zp G d m pc l (zr k n a :: r) s P := by
  subst hp
  subst hx
  intro h1 h2 h3
  obtain ⟨ha, hk', hl⟩ := zOk_o (zOkS_h h3) (by omega)
  refine w_alen (zAt hm hi) hN ha (by show 100 ≤ aK G a; omega) (by show aK G a ≤ 103; omega) ?_
  have e : Int32.ofNat (aL (wS G s) a) = Int32.ofInt (n : Int) := by
    show Int32.ofNat (aL G a) = _
    rw [hl, ← Int32.ofInt_eq_ofNat]
  rw [e]
  exact K h1 h2 (zOkS_c (show zR _ from hr) (zOkS_t h3))
theorem z_iast {a n : Nat} {i x : Int} (hm : aMs m = some md) (hi : aFind md.2.2.2.2.2 pc = some (.iastore, ln, lk)) (hp : pc + 1 = pc') (hx : 0 ≤ i ∧ i < (n : Int)) (hs : s' = sI s a i x) (K : Zp G d m pc' l r s' P) : Zp G d m pc l (zi x :: zi i :: zr 100 n a :: r) s P := by
  subst hp; subst hs
  intro h1 h2 h3
  have hr : zR i := zOkS_h (zOkS_t h3)
  obtain ⟨ha, hk, hl⟩ := zOk_o (zOkS_h (zOkS_t (zOkS_t h3))) (by omega)
  refine w_iast (zAt hm hi) ha hk (by show ¬ (_ ∨ aL G a ≤ _); rw [hl]; exact zIn hr hx) ?_
  rw [wS_I, zNt hr hx.1]
  exact K (zInv_I h1 (zOkS_h h3)) h2 (zOkS_t (zOkS_t (zOkS_t h3)))
theorem z_last {a n : Nat} {i x : Int} (hm : aMs m = some md) (hi : aFind md.2.2.2.2.2 pc = some (.lastore, ln, lk)) (hp : pc + 1 = pc') (hx : 0 ≤ i ∧ i < (n : Int)) (hs : s' = sJ s a i x) (K : Zp G d m pc' l r s' P) : Zp G d m pc l (zj x :: zi i :: zr 102 n a :: r) s P := by
  subst hp; subst hs
  intro h1 h2 h3
  have hr : zR i := zOkS_h (zOkS_t h3)
  obtain ⟨ha, hk, hl⟩ := zOk_o (zOkS_h (zOkS_t (zOkS_t h3))) (by omega)
  refine w_last (zAt hm hi) ha hk (by show ¬ (_ ∨ aL G a ≤ _); rw [hl]; exact zIn hr hx) ?_
  rw [wS_J, zNt hr hx.1]
  exact K (zInv_J h1 (zOkS_h h3)) h2 (zOkS_t (zOkS_t (zOkS_t h3)))
/-- the row of States -/
def zGP (G : aHp) : Prop := ∀ i, i < 20 → aR G 40 i = some (89 + 6 * i) ∧ zOk G (zr 7 0 (89 + 6 * i))
theorem z_aald {i : Int} {x : Nat} (hP : zGP G) (hm : aMs m = some md) (hi : aFind md.2.2.2.2.2 pc = some (.aaload, ln, lk)) (hp : pc + 1 = pc') (hx : 0 ≤ i ∧ i < ((20 : Nat) : Int)) (hv : x = 89 + 6 * i.toNat) (K : Zp G d m pc' l (zr 7 0 x :: r) s P) : Zp G d m pc l (zi i :: zr 103 20 40 :: r) s P := by
  subst hp; subst hv
  intro h1 h2 h3
  have hr : zR i := zOkS_h h3
  obtain ⟨ha, hk, hl⟩ := zOk_o (zOkS_h (zOkS_t h3)) (by omega)
  obtain ⟨e1, e2⟩ := hP i.toNat (by omega)
  refine w_aald (zAt hm hi) ha hk (by show ¬ (_ ∨ aL G 40 ≤ _); rw [hl]; exact zIn hr hx) (x := 89 + 6 * i.toNat) ?_ (K h1 h2 (zOkS_c e2 (zOkS_t (zOkS_t h3))))
  show zRf G s 40 (Int32.ofInt i).toNatClampNeg = _
  rw [zNat hr]
  exact e1
theorem z_copy {a b n1 n2 ix : Nat} {sp dp n : Int} (hm : aMs m = some md) (hi : aFind md.2.2.2.2.2 pc = some (.invokestatic ix, ln, (0, 0, 3))) (hd : 5 ≤ d) (hw : zW8 r = true) (hp : pc + 3 = pc') (hc : 0 ≤ sp ∧ 0 ≤ dp ∧ 0 ≤ n ∧ sp + n ≤ (n1 : Int) ∧ dp + n ≤ (n2 : Int)) (hs : s' = sC s a b sp dp n) (K : Zp G d m pc' l r s' P) : Zp G d m pc l (zi n :: zi dp :: zr 100 n2 b :: zi sp :: zr 100 n1 a :: r) s P := by
  subst hp; subst hs
  intro h1 h2 h3
  have r1 : zR n := zOkS_h h3
  have r2 : zR dp := zOkS_h (zOkS_t h3)
  have r3 : zR sp := zOkS_h (zOkS_t (zOkS_t (zOkS_t h3)))
  have h5 := zOkS_t (zOkS_t (zOkS_t (zOkS_t h3)))
  obtain ⟨ha, hka, hla⟩ := zOk_o (zOkS_h h5) (by omega)
  obtain ⟨hb, hkb, hlb⟩ := zOk_o (zOkS_h (zOkS_t (zOkS_t h3))) (by omega)
  have q1 := zNat r1
  have q2 := zNat r2
  have q3 := zNat r3
  have hE : aExec aSS md.2.2.2.2.1 d pc (.invokestatic ix) (0, 0, 3) (zL l) ((zi n :: zi dp :: zr 100 n2 b :: zi sp :: zr 100 n1 a :: r).map cv) (wS G s) = some (.inl (pc + 3, zL l, r.map cv, wS G (sC s a b sp dp n))) := by
    show aCopy d pc (zL l) (.int (Int32.ofInt n) :: .int (Int32.ofInt dp) :: .ref b :: .int (Int32.ofInt sp) :: .ref a :: r.map cv) (wS G s) = _
    unfold aCopy
    refine (aGrd ?_ (zW8_map hw)).trans ?_
    · rw [aInH (h := wS G s) ha, aInH (h := wS G s) hb, aKb (show aK (wS G s) a = 100 from hka), aKb (show aK (wS G s) b = 100 from hkb), Nat.ble_eq_true_of_le hd]
      rfl
    · rw [if_neg (by
        show ¬ (_ ∨ _ ∨ _ ∨ aL G a < _ ∨ aL G b < _)
        rw [zLt0 r3, zLt0 r2, zLt0 r1, q1, q2, q3, hla, hlb]
        omega)]
      rw [q1, q2, q3]
      have e : aRow (aI (wS G s)) b (va_cpy (aI (wS G s) a) (aI (wS G s) b) sp.toNat dp.toNat n.toNat) = fun (a' k : Nat) => Int32.ofInt ((sC s a b sp dp n).1 a' (k : Int)) := by
        funext a' k
        show (bif Nat.beq a' b then va_cpy (aI (wS G s) a) (aI (wS G s) b) sp.toNat dp.toNat n.toNat else (aI (wS G s)) a') k = Int32.ofInt (if a' = b ∧ dp ≤ (k : Int) ∧ (k : Int) < dp + n then s.1 a (sp + ((k : Int) - dp)) else s.1 a' k)
        by_cases hab : a' = b
        · subst hab
          rw [Nat.beq_refl]
          show (if dp.toNat ≤ k ∧ k < dp.toNat + n.toNat then Int32.ofInt (s.1 a ((sp.toNat + (k - dp.toNat) : Nat) : Int)) else Int32.ofInt (s.1 a' (k : Int))) = _
          by_cases hk : dp.toNat ≤ k ∧ k < dp.toNat + n.toNat
          · rw [if_pos hk, if_pos ⟨rfl, by omega, by omega⟩]
            have : ((sp.toNat + (k - dp.toNat) : Nat) : Int) = sp + ((k : Int) - dp) := by omega
            rw [this]
          · rw [if_neg hk, if_neg (by intro z; exact hk ⟨by omega, by omega⟩)]
        · rw [aBq hab, if_neg (fun z => hab z.1)]
          rfl
      show some (Sum.inl (pc + 3, zL l, r.map cv, (aN G, aSl G, aK G, aL G, aRow (aI (wS G s)) b (va_cpy (aI (wS G s) a) (aI (wS G s) b) sp.toNat dp.toNat n.toNat), _, _, aXn G, aX G))) = _
      rw [e]
      rfl
  refine w_go (q := (pc + 3, zL l, r.map cv, wS G (sC s a b sp dp n))) (zAt hm hi) hE (K ⟨fun a' k => ?_, h1.2⟩ h2 (zOkS_t h5))
  show zR (if a' = b ∧ dp ≤ k ∧ k < dp + n then s.1 a (sp + (k - dp)) else s.1 a' k)
  split
  · exact h1.1 _ _
  · exact h1.1 _ _
end AZs
