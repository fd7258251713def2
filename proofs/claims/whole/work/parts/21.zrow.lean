/-! ===== rows over whole numbers ===== -/
theorem zAt {m pc : Nat} {md : aMd} {ins : Instr} {ln : Nat} {lk : aLk} (hm : aMs m = some md) (hi : aFind md.2.2.2.2.2 pc = some (ins, ln, lk)) : aAtI m pc = some (md.2.2.2.2.1, ins, lk) := by
  unfold aAtI
  rw [hm]
  dsimp only
  rw [hi]
theorem zOkS_c {G : aHp} {v : zV} {st : List zV} (hv : zOk G v) (hs : zOkS G st) : zOkS G (v :: st) := by
  intro x hx
  rcases List.mem_cons.mp hx with rfl | h
  · exact hv
  · exact hs x h
theorem zOkS_h {G : aHp} {v : zV} {st : List zV} (hs : zOkS G (v :: st)) : zOk G v := hs v List.mem_cons_self
theorem zOkS_t {G : aHp} {v : zV} {st : List zV} (hs : zOkS G (v :: st)) : zOkS G st := fun x hx => hs x (List.mem_cons_of_mem _ hx)
theorem zOkL_at {G : aHp} {l : List (Option zV)} {i : Nat} {v : zV} (hl : zOkL G l) (h : l[i]? = some (some v)) : zOk G v := hl v (List.mem_of_getElem? h)
theorem zOk_o {G : aHp} {k n a : Nat} (h : zOk G (zr k n a)) (hk : k ≠ 104) : a < aN G ∧ aK G a = k ∧ aL G a = n := by
  rcases h with h | h
  · exact absurd h.1 hk
  · exact h.2
theorem zL_set {l : List (Option zV)} {i : Nat} {o : Option zV} : zL (l.set i o) = (zL l).set i (o.map cv) := List.map_set
theorem zL_get {l : List (Option zV)} {i : Nat} : (zL l)[i]? = l[i]?.map (Option.map cv) := List.getElem?_map
theorem zL_app {l l' : List (Option zV)} : zL (l ++ l') = zL l ++ zL l' := List.map_append
theorem zL_len {l : List (Option zV)} : (zL l).length = l.length := List.length_map _
theorem zLd {l : List (Option zV)} {i : Nat} {v : zV} (h : l[i]? = some (some v)) : aLd (zL l) i = some (cv v) := by
  unfold aLd
  rw [zL_get, h]
  rfl
theorem zKd_set {l : List (Option zV)} {j : Nat} {o : Option zV} (h : l[j]? = some o) : l.set j o = l := by
  apply List.ext_getElem?
  intro i
  rw [List.getElem?_set]
  split
  · rename_i e
    subst e
    rw [h]
    split
    · rfl
    · rename_i hl
      rw [List.getElem?_eq_none (by omega)] at h
      cases h
  · rfl
theorem zKill_map (l : List (Option zV)) (i : Nat) : zL (zKill l i) = aKill (zL l) i := by
  unfold zKill aKill
  split
  · rfl
  · rename_i j
    show zL (match l[j]? with
      | some o => l.set j (zKd o)
      | none => l) = (match (zL l)[j]? with
      | some (some (.long _)) => (zL l).set j none
      | some (some (.double _)) => (zL l).set j none
      | _ => zL l)
    rw [zL_get]
    cases h : l[j]? with
    | none => rfl
    | some o =>
      cases o with
      | none =>
        show zL (l.set j none) = zL l
        rw [zKd_set h]
      | some v =>
        rcases v with x | x | x | x
        · show zL (l.set j (some (zi x))) = zL l
          rw [zKd_set h]
        · show zL (l.set j none) = (zL l).set j none
          rw [zL_set]
          rfl
        · show zL (l.set j (some (.inr (.inr (.inl x))))) = zL l
          rw [zKd_set h]
        · have e : (match (Option.map cv (some (zt x))) with
            | some (.long _) => (zL l).set j none
            | some (.double _) => (zL l).set j none
            | _ => zL l) = zL l := by cases x <;> rfl
          show zL (l.set j (some (zt x))) = _
          rw [zKd_set h]
          cases x <;> rfl
theorem zSt_map (l : List (Option zV)) (i : Nat) (v : zV) : zL (zSt l i v) = aSt (zL l) i (cv v) := by
  rcases v with x | x | x | x
  · show zL ((zKill l i).set i (some (zi x))) = (aKill (zL l) i).set i (some (cv (zi x)))
    rw [← zKill_map, zL_set]; rfl
  · show zL (((zKill l i).set i (some (zj x))).set (i + 1) none) = ((aKill (zL l) i).set i (some (cv (zj x)))).set (i + 1) none
    rw [← zKill_map, zL_set, zL_set]; rfl
  · show zL ((zKill l i).set i (some (.inr (.inr (.inl x))))) = (aKill (zL l) i).set i (some (cv (.inr (.inr (.inl x)))))
    rw [← zKill_map, zL_set]; rfl
  · have e : aSt (zL l) i (cv (zt x)) = (aKill (zL l) i).set i (some (cv (zt x))) := by cases x <;> rfl
    rw [e]
    show zL ((zKill l i).set i (some (zt x))) = _
    rw [← zKill_map, zL_set]; rfl
theorem zMemSet {l : List (Option zV)} {i : Nat} {o : Option zV} {x : zV} (h : some x ∈ l.set i o) : some x ∈ l ∨ o = some x := by
  rcases List.mem_or_eq_of_mem_set h with h | h
  · exact Or.inl h
  · exact Or.inr h.symm
theorem zOkL_kill {G : aHp} {l : List (Option zV)} {i : Nat} (hl : zOkL G l) : zOkL G (zKill l i) := by
  unfold zKill
  split
  · exact hl
  · split
    · rename_i o ho
      intro x hx
      rcases zMemSet hx with h | h
      · exact hl x h
      · refine hl x ?_
        have : o = some x := by
          unfold zKd at h
          split at h
          · cases h
          · exact h
        rw [← this]
        exact List.mem_of_getElem? ho
    · exact hl
theorem zOkL_st {G : aHp} {l : List (Option zV)} {i : Nat} {v : zV} (hl : zOkL G l) (hv : zOk G v) : zOkL G (zSt l i v) := by
  have key : zOkL G ((zKill l i).set i (some v)) := by
    intro x hx
    rcases zMemSet hx with h | h
    · exact zOkL_kill hl x h
    · cases h; exact hv
  rcases v with x | x | x | x
  · exact key
  · intro y hy
    rcases zMemSet hy with h | h
    · exact key y h
    · cases h
  · exact key
  · exact key
theorem zW8_map {st : List zV} (h : zW8 st = true) : aW8 (st.map cv) = true := by
  unfold zW8 at h
  unfold aW8
  have e : ((st.map cv).map fun v => v.category) = st.map zCat := by
    rw [List.map_map]
    apply List.map_congr_left
    intro v _
    rcases v with x | x | x | x
    · rfl
    · rfl
    · rfl
    · cases x <;> rfl
  rw [e]
  exact h
theorem zPop_map : ∀ (n : Nat) {st acc as r : List zV}, zPop n st acc = some (as, r) → aPop n (st.map cv) (acc.map cv) = some (as.map cv, r.map cv) := by
  intro n
  induction n with
  | zero => intro st acc as r h; cases h; rfl
  | succ n ih =>
    intro st acc as r h
    cases st with
    | nil => cases h
    | cons v st => exact ih (acc := v :: acc) h
theorem zPop_ok {G : aHp} : ∀ (n : Nat) {st acc as r : List zV}, zPop n st acc = some (as, r) → zOkS G st → zOkS G acc → zOkS G as ∧ zOkS G r := by
  intro n
  induction n with
  | zero => intro st acc as r h h1 h2; cases h; exact ⟨h2, h1⟩
  | succ n ih =>
    intro st acc as r h h1 h2
    cases st with
    | nil => cases h
    | cons v st => exact ih (acc := v :: acc) h (zOkS_t h1) (zOkS_c (zOkS_h h1) h2)
theorem zLoc_map (vs : List zV) : zL (zLoc vs) = aLoc (vs.map cv) := by
  induction vs with
  | nil => rfl
  | cons v vs ih =>
    have e1 : zLoc (v :: vs) = zLoc [v] ++ zLoc vs := by simp [zLoc]
    have e2 : aLoc ((v :: vs).map cv) = aLoc [cv v] ++ aLoc (vs.map cv) := by simp [aLoc]
    rw [e1, e2, zL_app]
    congr 1
    rcases v with x | x | x | x
    · rfl
    · rfl
    · rfl
    · cases x <;> rfl
theorem zEnter_map (n : Nat) (vs : List zV) : zL (zEnter n vs) = aEnter n (vs.map cv) := by
  unfold zEnter aEnter
  rw [zL_app]
  have e : zL (List.replicate (n - (zLoc vs).length) (none : Option zV)) = List.replicate (n - (zLoc vs).length) none := by
    show List.map _ _ = _
    rw [List.map_replicate]
    rfl
  rw [e, ← zL_len (l := zLoc vs), zLoc_map]
theorem zEnter_ok {G : aHp} {n : Nat} {vs : List zV} (h : zOkS G vs) : zOkL G (zEnter n vs) := by
  intro x hx
  unfold zEnter at hx
  rcases List.mem_append.mp hx with h1 | h1
  · unfold zLoc at h1
    obtain ⟨v, hv, h2⟩ := List.mem_flatMap.mp h1
    rcases v with y | y | y | y
    · simp at h2; rw [h2]; exact h _ hv
    · simp at h2; rw [h2]; exact h _ hv
    · simp at h2; rw [h2]; exact h _ hv
    · simp at h2; rw [h2]; exact h _ hv
  · have := List.eq_of_mem_replicate h1
    cases this
section AZr
variable {G : aHp} {d m pc pc' : Nat} {l l' : List (Option zV)} {st r : List zV} {s s' : zS} {P : Option zV → zS → Prop} {md : aMd} {ln : Nat} {lk : aLk}
theorem z_go {ins : Instr} {st' : List zV} (hm : aMs m = some md) (hi : aFind md.2.2.2.2.2 pc = some (ins, ln, lk)) (hE : zInv G s → zOkL G l → zOkS G st → aExec aSS md.2.2.2.2.1 d pc ins lk (zL l) (st.map cv) (wS G s) = some (.inl (pc', zL l', st'.map cv, wS G s')) ∧ zInv G s' ∧ zOkL G l' ∧ zOkS G st') (K : Zp G d m pc' l' st' s' P) : Zp G d m pc l st s P := by
  intro h1 h2 h3
  obtain ⟨e, k1, k2, k3⟩ := hE h1 h2 h3
  exact w_go (q := (pc', zL l', st'.map cv, wS G s')) (zAt hm hi) e (K k1 k2 k3)
/-- pushes -/
theorem z_push {ins : Instr} {v : zV} (hm : aMs m = some md) (hi : aFind md.2.2.2.2.2 pc = some (ins, ln, lk)) (hE : aExec aSS md.2.2.2.2.1 d pc ins lk (zL l) (st.map cv) (wS G s) = some (.inl (pc', zL l, cv v :: st.map cv, wS G s))) (hv : zOkL G l → zOk G v) (K : Zp G d m pc' l (v :: st) s P) : Zp G d m pc l st s P :=
  z_go hm hi (fun h1 h2 h3 => ⟨hE, h1, h2, zOkS_c (hv h2) h3⟩) K
theorem z_iconst {n : Int} (hm : aMs m = some md) (hi : aFind md.2.2.2.2.2 pc = some (.iconst n, ln, lk)) (hp : pc + 1 = pc') (hr : zRb n = true) (K : Zp G d m pc' l (zi n :: st) s P) : Zp G d m pc l st s P := by
  subst hp
  exact z_push (v := zi n) hm hi rfl (fun _ => zRb_ok hr) K
theorem z_bipush {n : Int} (hm : aMs m = some md) (hi : aFind md.2.2.2.2.2 pc = some (.bipush n, ln, lk)) (hp : pc + 2 = pc') (hr : zRb8 n = true) (K : Zp G d m pc' l (zi n :: st) s P) : Zp G d m pc l st s P := by
  subst hp
  have h8 := zRb8_ok hr
  refine z_push (v := zi n) hm hi ?_ (fun _ => ⟨by omega, by omega⟩) K
  show aGo (pc + 2) (zL l) (.int (Int8.ofInt n).toInt32 :: st.map cv) (wS G s) = _
  rw [Int8.toInt32_ofInt (by show (-128 : Int) ≤ n; omega) (by show n ≤ (127 : Int); omega)]
  rfl
theorem z_sipush {n : Int} (hm : aMs m = some md) (hi : aFind md.2.2.2.2.2 pc = some (.sipush n, ln, lk)) (hp : pc + 3 = pc') (hr : zRb16 n = true) (K : Zp G d m pc' l (zi n :: st) s P) : Zp G d m pc l st s P := by
  subst hp
  have h8 := zRb16_ok hr
  refine z_push (v := zi n) hm hi ?_ (fun _ => ⟨by omega, by omega⟩) K
  show aGo (pc + 3) (zL l) (.int (Int16.ofInt n).toInt32 :: st.map cv) (wS G s) = _
  rw [Int16.toInt32_ofInt (by show (-32768 : Int) ≤ n; omega) (by show n ≤ (32767 : Int); omega)]
  rfl
theorem z_ldc {ix u : Nat} {n : Int} (hm : aMs m = some md) (hi : aFind md.2.2.2.2.2 pc = some (.ldc ix, ln, (0, u, n))) (hp : pc + 2 = pc') (hr : zRb n = true) (K : Zp G d m pc' l (zi n :: st) s P) : Zp G d m pc l st s P := by
  subst hp
  exact z_push (v := zi n) hm hi rfl (fun _ => zRb_ok hr) K
theorem z_ldcT {ix k : Nat} {n : Int} (hm : aMs m = some md) (hi : aFind md.2.2.2.2.2 pc = some (.ldc ix, ln, (1, k, n))) (hp : pc + 2 = pc') (hr : Nat.blt k 40 = true) (K : Zp G d m pc' l (zt (k + 1) :: st) s P) : Zp G d m pc l st s P := by
  subst hp
  exact z_push (v := zt (k + 1)) hm hi rfl (fun _ => Nat.le_of_ble_eq_true hr) K
theorem z_lconst {n : Fin 2} {x : Int} (hm : aMs m = some md) (hi : aFind md.2.2.2.2.2 pc = some (.lconst n, ln, lk)) (hp : pc + 1 = pc') (hx : x = (n.val : Int)) (hr : zRbJ x = true) (K : Zp G d m pc' l (zj x :: st) s P) : Zp G d m pc l st s P := by
  subst hp
  subst hx
  refine z_push (v := zj _) hm hi ?_ (fun _ => zRbJ_ok hr) K
  show aGo (pc + 1) (zL l) (.long (Int64.ofNat n.val) :: st.map cv) (wS G s) = _
  rw [← Int64.ofInt_eq_ofNat]
  rfl
theorem z_ldc2 {ix u v : Nat} {n : Int} (hm : aMs m = some md) (hi : aFind md.2.2.2.2.2 pc = some (.ldc2_w ix, ln, (u, v, n))) (hp : pc + 3 = pc') (hr : zRbJ n = true) (K : Zp G d m pc' l (zj n :: st) s P) : Zp G d m pc l st s P := by
  subst hp
  exact z_push (v := zj n) hm hi rfl (fun _ => zRbJ_ok hr) K
theorem zLoadI {i : Nat} {x : Int} (hl : l[i]? = some (some (zi x))) : aLoadI pc i (zL l) (st.map cv) (wS G s) = some (.inl (pc, zL l, cv (zi x) :: st.map cv, wS G s)) := by
  unfold aLoadI
  rw [zLd hl]
  rfl
theorem zLoadJ {i : Nat} {x : Int} (hl : l[i]? = some (some (zj x))) : aLoadJ pc i (zL l) (st.map cv) (wS G s) = some (.inl (pc, zL l, cv (zj x) :: st.map cv, wS G s)) := by
  unfold aLoadJ
  rw [zLd hl]
  rfl
theorem zLoadA {i k n a : Nat} (hl : l[i]? = some (some (zr k n a))) : aLoadA pc i (zL l) (st.map cv) (wS G s) = some (.inl (pc, zL l, cv (zr k n a) :: st.map cv, wS G s)) := by
  unfold aLoadA
  rw [zLd hl]
  rfl
theorem zLoadT {i k : Nat} (hl : l[i]? = some (some (zt (k + 1)))) : aLoadA pc i (zL l) (st.map cv) (wS G s) = some (.inl (pc, zL l, cv (zt (k + 1)) :: st.map cv, wS G s)) := by
  unfold aLoadA
  rw [zLd hl]
  rfl
theorem z_iload_n {i : Fin 4} {x : Int} (hm : aMs m = some md) (hi : aFind md.2.2.2.2.2 pc = some (.iload_n i, ln, lk)) (hp : pc + 1 = pc') (hl : l[i.val]? = some (some (zi x))) (K : Zp G d m pc' l (zi x :: st) s P) : Zp G d m pc l st s P := by
  subst hp
  exact z_push (v := zi x) hm hi (zLoadI hl) (fun h => zOkL_at h hl) K
theorem z_iload {i : Nat} {x : Int} (hm : aMs m = some md) (hi : aFind md.2.2.2.2.2 pc = some (.iload i, ln, lk)) (hp : pc + 2 = pc') (hl : l[i]? = some (some (zi x))) (K : Zp G d m pc' l (zi x :: st) s P) : Zp G d m pc l st s P := by
  subst hp
  exact z_push (v := zi x) hm hi (zLoadI hl) (fun h => zOkL_at h hl) K
theorem z_lload_n {i : Fin 4} {x : Int} (hm : aMs m = some md) (hi : aFind md.2.2.2.2.2 pc = some (.lload_n i, ln, lk)) (hp : pc + 1 = pc') (hl : l[i.val]? = some (some (zj x))) (K : Zp G d m pc' l (zj x :: st) s P) : Zp G d m pc l st s P := by
  subst hp
  exact z_push (v := zj x) hm hi (zLoadJ hl) (fun h => zOkL_at h hl) K
theorem z_lload {i : Nat} {x : Int} (hm : aMs m = some md) (hi : aFind md.2.2.2.2.2 pc = some (.lload i, ln, lk)) (hp : pc + 2 = pc') (hl : l[i]? = some (some (zj x))) (K : Zp G d m pc' l (zj x :: st) s P) : Zp G d m pc l st s P := by
  subst hp
  exact z_push (v := zj x) hm hi (zLoadJ hl) (fun h => zOkL_at h hl) K
theorem z_aload_n {i : Fin 4} {k n a : Nat} (hm : aMs m = some md) (hi : aFind md.2.2.2.2.2 pc = some (.aload_n i, ln, lk)) (hp : pc + 1 = pc') (hl : l[i.val]? = some (some (zr k n a))) (K : Zp G d m pc' l (zr k n a :: st) s P) : Zp G d m pc l st s P := by
  subst hp
  exact z_push (v := zr k n a) hm hi (zLoadA hl) (fun h => zOkL_at h hl) K
theorem z_aload_t {i : Fin 4} {k : Nat} (hm : aMs m = some md) (hi : aFind md.2.2.2.2.2 pc = some (.aload_n i, ln, lk)) (hp : pc + 1 = pc') (hl : l[i.val]? = some (some (zt (k + 1)))) (K : Zp G d m pc' l (zt (k + 1) :: st) s P) : Zp G d m pc l st s P := by
  subst hp
  exact z_push (v := zt (k + 1)) hm hi (zLoadT hl) (fun h => zOkL_at h hl) K
/-- stores -/
theorem z_store {ins : Instr} {i : Nat} {v : zV} (hm : aMs m = some md) (hi : aFind md.2.2.2.2.2 pc = some (ins, ln, lk)) (hE : aExec aSS md.2.2.2.2.1 d pc ins lk (zL l) (cv v :: st.map cv) (wS G s) = some (.inl (pc', aSt (zL l) i (cv v), st.map cv, wS G s))) (hs : zSt l i v = l') (K : Zp G d m pc' l' st s P) : Zp G d m pc l (v :: st) s P := by
  subst hs
  refine z_go hm hi (fun h1 h2 h3 => ⟨?_, h1, zOkL_st h2 (zOkS_h h3), zOkS_t h3⟩) K
  rw [zSt_map]
  exact hE
theorem zStoreI {i : Nat} {x : Int} (hb : Nat.blt i l.length = true) : aStoreI pc i (zL l) (cv (zi x) :: st.map cv) (wS G s) = some (.inl (pc, aSt (zL l) i (cv (zi x)), st.map cv, wS G s)) := by
  show (bif Nat.blt i (zL l).length then _ else _) = _
  rw [zL_len, hb]
  rfl
theorem zStoreJ {i : Nat} {x : Int} (hb : Nat.blt (i + 1) l.length = true) : aStoreJ pc i (zL l) (cv (zj x) :: st.map cv) (wS G s) = some (.inl (pc, aSt (zL l) i (cv (zj x)), st.map cv, wS G s)) := by
  show (bif Nat.blt (i + 1) (zL l).length then _ else _) = _
  rw [zL_len, hb]
  rfl
theorem zStoreA {i k n a : Nat} (hb : Nat.blt i l.length = true) : aStoreA pc i (zL l) (cv (zr k n a) :: st.map cv) (wS G s) = some (.inl (pc, aSt (zL l) i (cv (zr k n a)), st.map cv, wS G s)) := by
  show (bif Nat.blt i (zL l).length then _ else _) = _
  rw [zL_len, hb]
  rfl
theorem z_istore_n {i : Fin 4} {x : Int} (hm : aMs m = some md) (hi : aFind md.2.2.2.2.2 pc = some (.istore_n i, ln, lk)) (hp : pc + 1 = pc') (hb : Nat.blt i.val l.length = true) (hs : zSt l i.val (zi x) = l') (K : Zp G d m pc' l' st s P) : Zp G d m pc l (zi x :: st) s P := by
  subst hp
  exact z_store (v := zi x) hm hi (zStoreI hb) hs K
theorem z_istore {i : Nat} {x : Int} (hm : aMs m = some md) (hi : aFind md.2.2.2.2.2 pc = some (.istore i, ln, lk)) (hp : pc + 2 = pc') (hb : Nat.blt i l.length = true) (hs : zSt l i (zi x) = l') (K : Zp G d m pc' l' st s P) : Zp G d m pc l (zi x :: st) s P := by
  subst hp
  exact z_store (v := zi x) hm hi (zStoreI hb) hs K
theorem z_lstore_n {i : Fin 4} {x : Int} (hm : aMs m = some md) (hi : aFind md.2.2.2.2.2 pc = some (.lstore_n i, ln, lk)) (hp : pc + 1 = pc') (hb : Nat.blt (i.val + 1) l.length = true) (hs : zSt l i.val (zj x) = l') (K : Zp G d m pc' l' st s P) : Zp G d m pc l (zj x :: st) s P := by
  subst hp
  exact z_store (v := zj x) hm hi (zStoreJ hb) hs K
theorem z_lstore {i : Nat} {x : Int} (hm : aMs m = some md) (hi : aFind md.2.2.2.2.2 pc = some (.lstore i, ln, lk)) (hp : pc + 2 = pc') (hb : Nat.blt (i + 1) l.length = true) (hs : zSt l i (zj x) = l') (K : Zp G d m pc' l' st s P) : Zp G d m pc l (zj x :: st) s P := by
  subst hp
  exact z_store (v := zj x) hm hi (zStoreJ hb) hs K
theorem z_astore_n {i : Fin 4} {k n a : Nat} (hm : aMs m = some md) (hi : aFind md.2.2.2.2.2 pc = some (.astore_n i, ln, lk)) (hp : pc + 1 = pc') (hb : Nat.blt i.val l.length = true) (hs : zSt l i.val (zr k n a) = l') (K : Zp G d m pc' l' st s P) : Zp G d m pc l (zr k n a :: st) s P := by
  subst hp
  exact z_store (v := zr k n a) hm hi (zStoreA hb) hs K
theorem z_iinc {i : Nat} {x z n : Int} (hm : aMs m = some md) (hi : aFind md.2.2.2.2.2 pc = some (.iinc i n, ln, lk)) (hp : pc + 3 = pc') (hl : l[i]? = some (some (zi x))) (hz : z = x + n) (hr : zR z) (hb : Nat.blt i l.length = true) (hs : zSt l i (zi z) = l') (K : Zp G d m pc' l' st s P) : Zp G d m pc l st s P := by
  subst hp
  subst hs
  refine z_go (st' := st) (s' := s) hm hi (fun h1 h2 h3 => ⟨?_, h1, zOkL_st (v := zi z) h2 hr, h3⟩) K
  show aInc pc i n (zL l) (st.map cv) (wS G s) = _
  unfold aInc
  rw [zLd hl, zL_len, hb, zSt_map, hz]
  show some (Sum.inl (pc + 3, aSt (zL l) i (.int (Int32.ofInt x + Int32.ofInt n)), st.map cv, wS G s)) = _
  rw [← Int32.ofInt_add]
  rfl
/-- one value, or two, into one -/
theorem z_un {ins : Instr} {v w : zV} (hm : aMs m = some md) (hi : aFind md.2.2.2.2.2 pc = some (ins, ln, lk)) (hE : zOk G v → aExec aSS md.2.2.2.2.1 d pc ins lk (zL l) (cv v :: r.map cv) (wS G s) = some (.inl (pc', zL l, cv w :: r.map cv, wS G s))) (hw : zOk G v → zOk G w) (K : Zp G d m pc' l (w :: r) s P) : Zp G d m pc l (v :: r) s P :=
  z_go (st' := w :: r) (l' := l) (s' := s) hm hi (fun h1 h2 h3 => ⟨hE (zOkS_h h3), h1, h2, zOkS_c (hw (zOkS_h h3)) (zOkS_t h3)⟩) K
theorem z_bi {ins : Instr} {u v w : zV} (hm : aMs m = some md) (hi : aFind md.2.2.2.2.2 pc = some (ins, ln, lk)) (hE : zOk G u → zOk G v → aExec aSS md.2.2.2.2.1 d pc ins lk (zL l) (cv v :: cv u :: r.map cv) (wS G s) = some (.inl (pc', zL l, cv w :: r.map cv, wS G s))) (hw : zOk G w) (K : Zp G d m pc' l (w :: r) s P) : Zp G d m pc l (v :: u :: r) s P :=
  z_go (st' := w :: r) (l' := l) (s' := s) hm hi (fun h1 h2 h3 => ⟨hE (zOkS_h (zOkS_t h3)) (zOkS_h h3), h1, h2, zOkS_c hw (zOkS_t (zOkS_t h3))⟩) K
theorem z_iadd {x y z : Int} (hm : aMs m = some md) (hi : aFind md.2.2.2.2.2 pc = some (.iadd, ln, lk)) (hp : pc + 1 = pc') (hz : z = x + y) (hr : zR z) (K : Zp G d m pc' l (zi z :: r) s P) : Zp G d m pc l (zi y :: zi x :: r) s P := by
  subst hp; subst hz
  refine z_bi (u := zi x) (v := zi y) (w := zi _) hm hi (fun _ _ => ?_) hr K
  show some (Sum.inl (pc + 1, zL l, .int (Int32.ofInt x + Int32.ofInt y) :: r.map cv, wS G s)) = _
  rw [← Int32.ofInt_add]; rfl
theorem z_isub {x y z : Int} (hm : aMs m = some md) (hi : aFind md.2.2.2.2.2 pc = some (.isub, ln, lk)) (hp : pc + 1 = pc') (hz : z = x - y) (hr : zR z) (K : Zp G d m pc' l (zi z :: r) s P) : Zp G d m pc l (zi y :: zi x :: r) s P := by
  subst hp; subst hz
  refine z_bi (u := zi x) (v := zi y) (w := zi _) hm hi (fun _ _ => ?_) hr K
  show some (Sum.inl (pc + 1, zL l, .int (Int32.ofInt x - Int32.ofInt y) :: r.map cv, wS G s)) = _
  rw [← Int32.ofInt_sub]; rfl
theorem z_imul {x y z : Int} (hm : aMs m = some md) (hi : aFind md.2.2.2.2.2 pc = some (.imul, ln, lk)) (hp : pc + 1 = pc') (hz : z = x * y) (hr : zR z) (K : Zp G d m pc' l (zi z :: r) s P) : Zp G d m pc l (zi y :: zi x :: r) s P := by
  subst hp; subst hz
  refine z_bi (u := zi x) (v := zi y) (w := zi _) hm hi (fun _ _ => ?_) hr K
  show some (Sum.inl (pc + 1, zL l, .int (Int32.ofInt x * Int32.ofInt y) :: r.map cv, wS G s)) = _
  rw [← Int32.ofInt_mul]; rfl
theorem z_ineg {x z : Int} (hm : aMs m = some md) (hi : aFind md.2.2.2.2.2 pc = some (.ineg, ln, lk)) (hp : pc + 1 = pc') (hz : z = -x) (hr : zR z) (K : Zp G d m pc' l (zi z :: r) s P) : Zp G d m pc l (zi x :: r) s P := by
  subst hp; subst hz
  refine z_un (v := zi x) (w := zi _) hm hi (fun _ => ?_) (fun _ => hr) K
  show some (Sum.inl (pc + 1, zL l, .int (-Int32.ofInt x) :: r.map cv, wS G s)) = _
  rw [← Int32.ofInt_neg]; rfl
theorem z_iand {x y z : Int} (hm : aMs m = some md) (hi : aFind md.2.2.2.2.2 pc = some (.iand, ln, lk)) (hp : pc + 1 = pc') (hz : z = zAnd x y) (K : Zp G d m pc' l (zi z :: r) s P) : Zp G d m pc l (zi y :: zi x :: r) s P := by
  subst hp; subst hz
  refine z_bi (u := zi x) (v := zi y) (w := zi _) hm hi (fun _ _ => ?_) (z32 _) K
  show _ = some (Sum.inl (pc + 1, zL l, .int (Int32.ofInt (Int32.ofInt x &&& Int32.ofInt y).toInt) :: r.map cv, wS G s))
  rw [Int32.ofInt_toInt]; rfl
theorem z_ior {x y z : Int} (hm : aMs m = some md) (hi : aFind md.2.2.2.2.2 pc = some (.ior, ln, lk)) (hp : pc + 1 = pc') (hz : z = zOr x y) (K : Zp G d m pc' l (zi z :: r) s P) : Zp G d m pc l (zi y :: zi x :: r) s P := by
  subst hp; subst hz
  refine z_bi (u := zi x) (v := zi y) (w := zi _) hm hi (fun _ _ => ?_) (z32 _) K
  show _ = some (Sum.inl (pc + 1, zL l, .int (Int32.ofInt (Int32.ofInt x ||| Int32.ofInt y).toInt) :: r.map cv, wS G s))
  rw [Int32.ofInt_toInt]; rfl
theorem z_ixor {x y z : Int} (hm : aMs m = some md) (hi : aFind md.2.2.2.2.2 pc = some (.ixor, ln, lk)) (hp : pc + 1 = pc') (hz : z = zXor x y) (K : Zp G d m pc' l (zi z :: r) s P) : Zp G d m pc l (zi y :: zi x :: r) s P := by
  subst hp; subst hz
  refine z_bi (u := zi x) (v := zi y) (w := zi _) hm hi (fun _ _ => ?_) (z32 _) K
  show _ = some (Sum.inl (pc + 1, zL l, .int (Int32.ofInt (Int32.ofInt x ^^^ Int32.ofInt y).toInt) :: r.map cv, wS G s))
  rw [Int32.ofInt_toInt]; rfl
theorem z_ishl {x y z : Int} (hm : aMs m = some md) (hi : aFind md.2.2.2.2.2 pc = some (.ishl, ln, lk)) (hp : pc + 1 = pc') (hz : z = zShl x y) (K : Zp G d m pc' l (zi z :: r) s P) : Zp G d m pc l (zi y :: zi x :: r) s P := by
  subst hp; subst hz
  refine z_bi (u := zi x) (v := zi y) (w := zi _) hm hi (fun _ _ => ?_) (z32 _) K
  show _ = some (Sum.inl (pc + 1, zL l, .int (Int32.ofInt (Int32.ofInt x <<< (Int32.ofInt y &&& 31)).toInt) :: r.map cv, wS G s))
  rw [Int32.ofInt_toInt]; rfl
theorem z_ishr {x y z : Int} (hm : aMs m = some md) (hi : aFind md.2.2.2.2.2 pc = some (.ishr, ln, lk)) (hp : pc + 1 = pc') (hz : z = zShr x y) (K : Zp G d m pc' l (zi z :: r) s P) : Zp G d m pc l (zi y :: zi x :: r) s P := by
  subst hp; subst hz
  refine z_bi (u := zi x) (v := zi y) (w := zi _) hm hi (fun _ _ => ?_) (z32 _) K
  show _ = some (Sum.inl (pc + 1, zL l, .int (Int32.ofInt (Int32.ofInt x >>> (Int32.ofInt y &&& 31)).toInt) :: r.map cv, wS G s))
  rw [Int32.ofInt_toInt]; rfl
theorem z_iushr {x y z : Int} (hm : aMs m = some md) (hi : aFind md.2.2.2.2.2 pc = some (.iushr, ln, lk)) (hp : pc + 1 = pc') (hz : z = zUshr x y) (K : Zp G d m pc' l (zi z :: r) s P) : Zp G d m pc l (zi y :: zi x :: r) s P := by
  subst hp; subst hz
  refine z_bi (u := zi x) (v := zi y) (w := zi _) hm hi (fun _ _ => ?_) (z32 _) K
  show _ = some (Sum.inl (pc + 1, zL l, .int (Int32.ofInt ((Int32.ofInt x).toUInt32 >>> ((Int32.ofInt y).toUInt32 &&& Int32.toUInt32 31)).toInt32.toInt) :: r.map cv, wS G s))
  rw [Int32.ofInt_toInt]; rfl
theorem zDiv {x y : Int} (hx : zR x) (hy : zR y) : Int32.ofInt x / Int32.ofInt y = Int32.ofInt (x.tdiv y) :=
  (Int32.ofInt_tdiv hx.1 hx.2 hy.1 hy.2).symm
theorem zDivJ {x y : Int} (hx : zRJ x) (hy : zRJ y) : Int64.ofInt x / Int64.ofInt y = Int64.ofInt (x.tdiv y) :=
  (Int64.ofInt_tdiv hx.1 hx.2 hy.1 hy.2).symm
theorem zTmod (x y : Int) : x.tmod y = x - x.tdiv y * y := by
  have := Int.mul_tdiv_add_tmod x y
  rw [Int.mul_comm] at this
  omega
theorem zModR {x y : Int} (hx : zR x) : zR (x.tmod y) := by
  have h1 := Int.natAbs_tmod x y
  have h2 : (x.tmod y).natAbs ≤ x.natAbs := by rw [h1]; exact Nat.mod_le _ _
  by_cases h : 0 ≤ x
  · have := Int.tmod_nonneg (a := x) y h
    exact ⟨by omega, by omega⟩
  · exact ⟨by omega, by
      have := Int.tmod_nonneg (a := -x) y (by omega)
      rw [Int.neg_tmod] at this
      omega⟩
theorem zModRJ {x y : Int} (hx : zRJ x) : zRJ (x.tmod y) := by
  have h1 := Int.natAbs_tmod x y
  have h2 : (x.tmod y).natAbs ≤ x.natAbs := by rw [h1]; exact Nat.mod_le _ _
  by_cases h : 0 ≤ x
  · have := Int.tmod_nonneg (a := x) y h
    exact ⟨by omega, by omega⟩
  · exact ⟨by omega, by
      have := Int.tmod_nonneg (a := -x) y (by omega)
      rw [Int.neg_tmod] at this
      omega⟩
theorem z_idiv {x y z : Int} (hm : aMs m = some md) (hi : aFind md.2.2.2.2.2 pc = some (.idiv, ln, lk)) (hp : pc + 1 = pc') (hy : ¬ y = 0) (hz : z = x.tdiv y) (hr : zR z) (K : Zp G d m pc' l (zi z :: r) s P) : Zp G d m pc l (zi y :: zi x :: r) s P := by
  subst hp; subst hz
  refine z_bi (u := zi x) (v := zi y) (w := zi _) hm hi (fun hx hy' => ?_) hr K
  show (if Int32.ofInt y = 0 then none else aGo (pc + 1) (zL l) (.int (Int32.ofInt x / Int32.ofInt y) :: r.map cv) (wS G s)) = _
  rw [if_neg (fun h => hy ((zEq0 hy').mp h)), zDiv hx hy']
  rfl
theorem z_irem {x y z : Int} (hm : aMs m = some md) (hi : aFind md.2.2.2.2.2 pc = some (.irem, ln, lk)) (hp : pc + 1 = pc') (hy : ¬ y = 0) (hz : z = x.tmod y) (K : Zp G d m pc' l (zi z :: r) s P) : Zp G d m pc l (zi y :: zi x :: r) s P := by
  subst hp; subst hz
  refine z_go (st' := zi (x.tmod y) :: r) (l' := l) (s' := s) hm hi (fun h1 h2 h3 => ?_) K
  have hx : zR x := zOkS_h (zOkS_t h3)
  have hy' : zR y := zOkS_h h3
  refine ⟨?_, h1, h2, zOkS_c (show zR _ from zModR hx) (zOkS_t (zOkS_t h3))⟩
  show (if Int32.ofInt y = 0 then none else aGo (pc + 1) (zL l) (.int (Int32.ofInt x - Int32.ofInt x / Int32.ofInt y * Int32.ofInt y) :: r.map cv) (wS G s)) = _
  rw [if_neg (fun h => hy ((zEq0 hy').mp h)), zDiv hx hy', ← Int32.ofInt_mul, ← Int32.ofInt_sub, ← zTmod]
  rfl
theorem z_ladd {x y z : Int} (hm : aMs m = some md) (hi : aFind md.2.2.2.2.2 pc = some (.ladd, ln, lk)) (hp : pc + 1 = pc') (hz : z = x + y) (hr : zRJ z) (K : Zp G d m pc' l (zj z :: r) s P) : Zp G d m pc l (zj y :: zj x :: r) s P := by
  subst hp; subst hz
  refine z_bi (u := zj x) (v := zj y) (w := zj _) hm hi (fun _ _ => ?_) hr K
  show some (Sum.inl (pc + 1, zL l, .long (Int64.ofInt x + Int64.ofInt y) :: r.map cv, wS G s)) = _
  rw [← Int64.ofInt_add]; rfl
theorem z_lsub {x y z : Int} (hm : aMs m = some md) (hi : aFind md.2.2.2.2.2 pc = some (.lsub, ln, lk)) (hp : pc + 1 = pc') (hz : z = x - y) (hr : zRJ z) (K : Zp G d m pc' l (zj z :: r) s P) : Zp G d m pc l (zj y :: zj x :: r) s P := by
  subst hp; subst hz
  refine z_bi (u := zj x) (v := zj y) (w := zj _) hm hi (fun _ _ => ?_) hr K
  show some (Sum.inl (pc + 1, zL l, .long (Int64.ofInt x - Int64.ofInt y) :: r.map cv, wS G s)) = _
  rw [← Int64.ofInt_sub]; rfl
theorem z_lmul {x y z : Int} (hm : aMs m = some md) (hi : aFind md.2.2.2.2.2 pc = some (.lmul, ln, lk)) (hp : pc + 1 = pc') (hz : z = x * y) (hr : zRJ z) (K : Zp G d m pc' l (zj z :: r) s P) : Zp G d m pc l (zj y :: zj x :: r) s P := by
  subst hp; subst hz
  refine z_bi (u := zj x) (v := zj y) (w := zj _) hm hi (fun _ _ => ?_) hr K
  show some (Sum.inl (pc + 1, zL l, .long (Int64.ofInt x * Int64.ofInt y) :: r.map cv, wS G s)) = _
  rw [← Int64.ofInt_mul]; rfl
theorem z_land {x y z : Int} (hm : aMs m = some md) (hi : aFind md.2.2.2.2.2 pc = some (.land, ln, lk)) (hp : pc + 1 = pc') (hz : z = zAndJ x y) (K : Zp G d m pc' l (zj z :: r) s P) : Zp G d m pc l (zj y :: zj x :: r) s P := by
  subst hp; subst hz
  refine z_bi (u := zj x) (v := zj y) (w := zj _) hm hi (fun _ _ => ?_) (z64 _) K
  show _ = some (Sum.inl (pc + 1, zL l, .long (Int64.ofInt (Int64.ofInt x &&& Int64.ofInt y).toInt) :: r.map cv, wS G s))
  rw [Int64.ofInt_toInt]; rfl
theorem z_ldiv {x y z : Int} (hm : aMs m = some md) (hi : aFind md.2.2.2.2.2 pc = some (.ldiv, ln, lk)) (hp : pc + 1 = pc') (hy : ¬ y = 0) (hz : z = x.tdiv y) (hr : zRJ z) (K : Zp G d m pc' l (zj z :: r) s P) : Zp G d m pc l (zj y :: zj x :: r) s P := by
  subst hp; subst hz
  refine z_bi (u := zj x) (v := zj y) (w := zj _) hm hi (fun hx hy' => ?_) hr K
  show (if Int64.ofInt y = 0 then none else aGo (pc + 1) (zL l) (.long (Int64.ofInt x / Int64.ofInt y) :: r.map cv) (wS G s)) = _
  rw [if_neg (fun h => hy ((zEqJ0 hy').mp h)), zDivJ hx hy']
  rfl
theorem z_lrem {x y z : Int} (hm : aMs m = some md) (hi : aFind md.2.2.2.2.2 pc = some (.lrem, ln, lk)) (hp : pc + 1 = pc') (hy : ¬ y = 0) (hz : z = x.tmod y) (K : Zp G d m pc' l (zj z :: r) s P) : Zp G d m pc l (zj y :: zj x :: r) s P := by
  subst hp; subst hz
  refine z_go (st' := zj (x.tmod y) :: r) (l' := l) (s' := s) hm hi (fun h1 h2 h3 => ?_) K
  have hx : zRJ x := zOkS_h (zOkS_t h3)
  have hy' : zRJ y := zOkS_h h3
  refine ⟨?_, h1, h2, zOkS_c (show zRJ _ from zModRJ hx) (zOkS_t (zOkS_t h3))⟩
  show (if Int64.ofInt y = 0 then none else aGo (pc + 1) (zL l) (.long (Int64.ofInt x - Int64.ofInt x / Int64.ofInt y * Int64.ofInt y) :: r.map cv) (wS G s)) = _
  rw [if_neg (fun h => hy ((zEqJ0 hy').mp h)), zDivJ hx hy', ← Int64.ofInt_mul, ← Int64.ofInt_sub, ← zTmod]
  rfl
theorem z_lcmp {x y z : Int} (hm : aMs m = some md) (hi : aFind md.2.2.2.2.2 pc = some (.lcmp, ln, lk)) (hp : pc + 1 = pc') (hz : z = zCmp x y) (K : Zp G d m pc' l (zi z :: r) s P) : Zp G d m pc l (zj y :: zj x :: r) s P := by
  subst hp; subst hz
  refine z_bi (u := zj x) (v := zj y) (w := zi _) hm hi (fun hx hy => ?_) (by unfold zCmp; show zR _; split; exact ⟨by omega, by omega⟩; split <;> exact ⟨by omega, by omega⟩) K
  show some (Sum.inl (pc + 1, zL l, .int (lg_cmp (Int64.ofInt x) (Int64.ofInt y)) :: r.map cv, wS G s)) = some (Sum.inl (pc + 1, zL l, .int (Int32.ofInt (zCmp x y)) :: r.map cv, wS G s))
  have e : lg_cmp (Int64.ofInt x) (Int64.ofInt y) = Int32.ofInt (zCmp x y) := by
    unfold lg_cmp zCmp
    by_cases h1 : y < x
    · rw [if_pos ((zLtJ hy hx).mpr h1), if_pos h1]; rfl
    · rw [if_neg (fun h => h1 ((zLtJ hy hx).mp h)), if_neg h1]
      by_cases h2 : x = y
      · rw [if_pos ((zEqJ hx hy).mpr h2), if_pos h2]; rfl
      · rw [if_neg (fun h => h2 ((zEqJ hx hy).mp h)), if_neg h2]; rfl
  rw [e]
theorem z_i2l {x : Int} (hm : aMs m = some md) (hi : aFind md.2.2.2.2.2 pc = some (.i2l, ln, lk)) (hp : pc + 1 = pc') (K : Zp G d m pc' l (zj x :: r) s P) : Zp G d m pc l (zi x :: r) s P := by
  subst hp
  refine z_un (v := zi x) (w := zj x) hm hi (fun hx => ?_) (fun (hx : zR x) => ⟨by omega, by omega⟩) K
  have hx : zR x := hx
  show some (Sum.inl (pc + 1, zL l, .long (Int32.ofInt x).toInt64 :: r.map cv, wS G s)) = _
  rw [Int32.toInt64_ofInt (by show (-2147483648 : Int) ≤ x; omega) (by show x ≤ (2147483647 : Int); omega)]
  rfl
theorem z_l2i {x z : Int} (hm : aMs m = some md) (hi : aFind md.2.2.2.2.2 pc = some (.l2i, ln, lk)) (hp : pc + 1 = pc') (hz : z = x) (hr : zR z) (K : Zp G d m pc' l (zi z :: r) s P) : Zp G d m pc l (zj x :: r) s P := by
  subst hp; subst hz
  refine z_un (v := zj _) (w := zi _) hm hi (fun _ => ?_) (fun _ => hr) K
  show some (Sum.inl (pc + 1, zL l, .int (Int64.ofInt z).toInt32 :: r.map cv, wS G s)) = _
  rw [Int64.toInt32_ofInt]
  rfl
theorem z_dupI {x : Int} (hm : aMs m = some md) (hi : aFind md.2.2.2.2.2 pc = some (.dup, ln, lk)) (hp : pc + 1 = pc') (K : Zp G d m pc' l (zi x :: zi x :: r) s P) : Zp G d m pc l (zi x :: r) s P := by
  subst hp
  exact z_go hm hi (fun h1 h2 h3 => ⟨rfl, h1, h2, zOkS_c (zOkS_h h3) h3⟩) K
theorem z_dupA {k n a : Nat} (hm : aMs m = some md) (hi : aFind md.2.2.2.2.2 pc = some (.dup, ln, lk)) (hp : pc + 1 = pc') (K : Zp G d m pc' l (zr k n a :: zr k n a :: r) s P) : Zp G d m pc l (zr k n a :: r) s P := by
  subst hp
  exact z_go hm hi (fun h1 h2 h3 => ⟨rfl, h1, h2, zOkS_c (zOkS_h h3) h3⟩) K
theorem z_dup2J {x : Int} (hm : aMs m = some md) (hi : aFind md.2.2.2.2.2 pc = some (.dup2, ln, lk)) (hp : pc + 1 = pc') (K : Zp G d m pc' l (zj x :: zj x :: r) s P) : Zp G d m pc l (zj x :: r) s P := by
  subst hp
  exact z_go hm hi (fun h1 h2 h3 => ⟨rfl, h1, h2, zOkS_c (zOkS_h h3) h3⟩) K
theorem z_dup2A {x : Int} {k n a : Nat} (hm : aMs m = some md) (hi : aFind md.2.2.2.2.2 pc = some (.dup2, ln, lk)) (hp : pc + 1 = pc') (K : Zp G d m pc' l (zi x :: zr k n a :: zi x :: zr k n a :: r) s P) : Zp G d m pc l (zi x :: zr k n a :: r) s P := by
  subst hp
  exact z_go hm hi (fun h1 h2 h3 => ⟨rfl, h1, h2, zOkS_c (zOkS_h h3) (zOkS_c (zOkS_h (zOkS_t h3)) h3)⟩) K
theorem z_pop {x : Int} (hm : aMs m = some md) (hi : aFind md.2.2.2.2.2 pc = some (.pop, ln, lk)) (hp : pc + 1 = pc') (K : Zp G d m pc' l r s P) : Zp G d m pc l (zi x :: r) s P := by
  subst hp
  exact z_go hm hi (fun h1 h2 h3 => ⟨rfl, h1, h2, zOkS_t h3⟩) K
theorem z_goto {off : Int} {t u : Nat} {w : Int} (hm : aMs m = some md) (hi : aFind md.2.2.2.2.2 pc = some (.goto off, ln, (t, u, w))) (K : Zp G d m t l st s P) : Zp G d m pc l st s P :=
  z_go hm hi (fun h1 h2 h3 => ⟨rfl, h1, h2, h3⟩) K
end AZr
