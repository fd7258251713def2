/-! ===== rows: texts, calls, returns ===== -/
def zSl (k : Nat) : Int := ((aSS.getD k []).length : Int)
def zSc (k : Nat) (i : Int) : Int := ((aSS.getD k []).getD i.toNat 0).toInt
theorem aSS_short : ∀ t ∈ aSS, t.length < 1000 := by decide +kernel
section AZt
variable {G : aHp} {d m pc pc' : Nat} {l l' : List (Option zV)} {st r : List zV} {s s' : zS} {P : Option zV → zS → Prop} {md : aMd} {ln : Nat} {lk : aLk}
theorem zTxt {k : Nat} (hk : k < 40) : aSS[k]? = some (aSS.getD k []) := by
  have : k < aSS.length := by rw [aSS_len]; exact hk
  rw [List.getD_eq_getElem?_getD, List.getElem?_eq_getElem this]
  rfl
theorem zSaG {k : Nat} (hk : k < 40) (hd : 5 ≤ d) : (Nat.ble aSa (aSa + k) && Nat.blt (aSa + k) aXa && Nat.ble 5 d) = true := by
  have h1 : Nat.ble aSa (aSa + k) = true := Nat.ble_eq_true_of_le (Nat.le_add_right _ _)
  have h2 : Nat.blt (aSa + k) aXa = true := aBltT (show 1000000 + k < 2000000 by omega)
  have h3 : Nat.ble 5 d = true := Nat.ble_eq_true_of_le hd
  generalize Nat.ble aSa (aSa + k) = b1 at h1 ⊢
  generalize Nat.blt (aSa + k) aXa = b2 at h2 ⊢
  subst h1; subst h2; rw [h3]; rfl
theorem aExec_slen {ss : List (List Int32)} {rt ix : Nat} {lv : List (Option Value)} {sv : List Value} {h : aHp} : aExec ss rt d pc (.invokevirtual ix) (0, 0, 1) lv sv h = aSlen ss d pc lv sv h := rfl
theorem aExec_sat {ss : List (List Int32)} {rt ix : Nat} {lv : List (Option Value)} {sv : List Value} {h : aHp} : aExec ss rt d pc (.invokevirtual ix) (0, 0, 2) lv sv h = aSat ss d pc lv sv h := rfl
theorem aSlen_k {ss : List (List Int32)} {k : Nat} {lv : List (Option Value)} {sv : List Value} {h : aHp} {t : List Int32} (hk : k < 40) (hd : 5 ≤ d) (hw : aW8 sv = true) (ht : ss[k]? = some t) : aSlen ss d pc lv (.ref (aSa + k) :: sv) h = aGo (pc + 3) lv (.int (Int32.ofNat t.length) :: sv) h := by
  have e : aSa + k - aSa = k := Nat.add_sub_cancel_left _ _
  have g := zSaG hk hd
  rw [aSlen]
  generalize aSa + k = a at e g ⊢
  generalize (Nat.ble aSa a && Nat.blt a aXa && Nat.ble 5 d) = b at g ⊢
  generalize a - aSa = j at e ⊢
  subst e
  subst g
  rw [hw, ht]
  rfl
theorem aSat_k {ss : List (List Int32)} {k : Nat} {i : Int32} {lv : List (Option Value)} {sv : List Value} {h : aHp} {t : List Int32} (hk : k < 40) (hd : 5 ≤ d) (hw : aW8 sv = true) (ht : ss[k]? = some t) : aSat ss d pc lv (.int i :: .ref (aSa + k) :: sv) h = if i < 0 ∨ t.length ≤ i.toNatClampNeg then none else aGo (pc + 3) lv (.int (t.getD i.toNatClampNeg 0) :: sv) h := by
  have e : aSa + k - aSa = k := Nat.add_sub_cancel_left _ _
  have g := zSaG hk hd
  rw [aSat]
  generalize aSa + k = a at e g ⊢
  generalize (Nat.ble aSa a && Nat.blt a aXa && Nat.ble 5 d) = b at g ⊢
  generalize a - aSa = j at e ⊢
  subst e
  subst g
  rw [hw, ht]
  rfl
theorem cv_t {k : Nat} : cv (zt (k + 1)) = .ref (aSa + k) := rfl
theorem z_slen {k ix : Nat} {x : Int} (hm : aMs m = some md) (hi : aFind md.2.2.2.2.2 pc = some (.invokevirtual ix, ln, (0, 0, 1))) (hd : 5 ≤ d) (hw : zW8 r = true) (hp : pc + 3 = pc') (hx : x = zSl k) (K : Zp G d m pc' l (zi x :: r) s P) : Zp G d m pc l (zt (k + 1) :: r) s P := by
  subst hp; subst hx
  intro h1 h2 h3
  have hk : k + 1 ≤ 40 := zOkS_h h3
  have ht := zTxt (show k < 40 by omega)
  have hlt := aSS_short _ (List.mem_of_getElem? ht)
  refine w_go (q := (pc + 3, zL l, cv (zi (zSl k)) :: r.map cv, wS G s)) (zAt hm hi) ?_ (K h1 h2 (zOkS_c (show zR (zSl k) from ⟨by unfold zSl; omega, by unfold zSl; omega⟩) (zOkS_t h3)))
  rw [aExec_slen, List.map_cons, cv_t, aSlen_k (by omega) hd (zW8_map hw) ht, ← Int32.ofInt_eq_ofNat]
  rfl
theorem z_sat {k ix : Nat} {i x : Int} (hm : aMs m = some md) (hi : aFind md.2.2.2.2.2 pc = some (.invokevirtual ix, ln, (0, 0, 2))) (hd : 5 ≤ d) (hw : zW8 r = true) (hp : pc + 3 = pc') (hin : 0 ≤ i ∧ i < zSl k) (hx : x = zSc k i) (K : Zp G d m pc' l (zi x :: r) s P) : Zp G d m pc l (zi i :: zt (k + 1) :: r) s P := by
  subst hp; subst hx
  intro h1 h2 h3
  have hk : k + 1 ≤ 40 := zOkS_h (zOkS_t h3)
  have hr : zR i := zOkS_h h3
  have ht := zTxt (show k < 40 by omega)
  refine w_go (q := (pc + 3, zL l, cv (zi (zSc k i)) :: r.map cv, wS G s)) (zAt hm hi) ?_ (K h1 h2 (zOkS_c (show zR (zSc k i) from z32 _) (zOkS_t (zOkS_t h3))))
  have ei : cv (zi i) = .int (Int32.ofInt i) := rfl
  rw [aExec_sat, List.map_cons, List.map_cons, cv_t, ei, aSat_k (by omega) hd (zW8_map hw) ht, if_neg (zIn hr hin), zNat hr]
  show aGo (pc + 3) (zL l) (.int ((aSS.getD k []).getD i.toNat 0) :: r.map cv) (wS G s) = aGo (pc + 3) (zL l) (.int (Int32.ofInt ((aSS.getD k []).getD i.toNat 0).toInt) :: r.map cv) (wS G s)
  rw [Int32.ofInt_toInt]
theorem z_call0 {ins : Instr} {m' n : Nat} {as rest : List zV} {mq : aMd} {v1 : Option zV} {s1 : zS} (hm : aMs m = some md) (hi : aFind md.2.2.2.2.2 pc = some (ins, ln, lk)) (hE : aExec aSS md.2.2.2.2.1 (d + 1) pc ins lk (zL l) (st.map cv) (wS G s) = aCall n m' (st.map cv)) (hpop : zPop n st [] = some (as, rest)) (hw : zW8 rest = true) (hm' : aMs m' = some mq) (hlen : Nat.ble (zLoc as).length mq.2.2.2.1 = true) (hr : zOkS G as → aRcv ins mq.1 (wS G s) (as.map cv) = true) (he : zEnter mq.2.2.2.1 as = l') (hp : pc + 3 = pc') (C : Zp G d m' 0 l' [] s (zRet v1 s1)) (K : Zp G (d + 1) m pc' l (v1.toList ++ rest) s1 P) : Zp G (d + 1) m pc l st s P := by
  subst hp; subst he
  intro h1 h2 h3
  obtain ⟨o1, o2⟩ := zPop_ok n hpop h3 (fun x hx => by cases hx)
  obtain ⟨n1, v, h', run, v', s2, e1, e2, i1, i2, i3, i4⟩ := C h1 (zEnter_ok o1) (fun x hx => by cases hx)
  subst i3; subst i4
  have hE2 : aExec aSS md.2.2.2.2.1 (d + 1) pc ins lk (zL l) (st.map cv) (wS G s) = some (.inr (.inr (m', as.map cv, rest.map cv))) := by
    rw [hE]
    unfold aCall
    have e := zPop_map n hpop
    rw [show aPop n (st.map cv) [] = some (as.map cv, rest.map cv) from e]
    show (bif aW8 (rest.map cv) then _ else _) = _
    rw [zW8_map hw]
    rfl
  have hK := K i1 h2 (fun x hx => by
    rcases List.mem_append.mp hx with z | z
    · exact i2 x (by cases v' with
        | none => cases z
        | some y => simp at z; rw [z])
    · exact o2 x z)
  rw [List.map_append] at hK
  have ev : (v'.map cv).toList = v'.toList.map cv := by cases v' <;> rfl
  refine w_call (v1 := v'.map cv) (h1 := wS G s2) (as := as.map cv) (rr := rest.map cv) (l' := aEnter mq.2.2.2.1 (as.map cv)) (zAt hm hi) hE2 hm' ?_ (hr o1) rfl ⟨n1, v, h', ?_, e1, e2⟩ ?_
  · rw [← zLoc_map, zL_len]; exact hlen
  · rw [← zEnter_map]; exact run
  · rw [ev]; exact hK
theorem zRcv {ci ci' a ix : Nat} {as : List zV} (hc : ci' = ci) (h4 : Nat.beq ci 104 = false) (h : zOkS G (zr ci 0 a :: as)) : aRcv (.invokevirtual ix) ci' (wS G s) ((zr ci 0 a :: as).map cv) = true := by
  subst hc
  obtain ⟨ha, hk, -⟩ := zOk_o (zOkS_h h) (fun z => by rw [z] at h4; cases h4)
  show (aInHp (wS G s) a && Nat.beq (aK (wS G s) a) ci') = true
  rw [aInH (h := wS G s) ha, aKb (show aK (wS G s) a = ci' from hk)]
  rfl
theorem z_cv {m' n ix ci a : Nat} {as rest : List zV} {mq : aMd} {v1 : zV} {s1 : zS} (hm : aMs m = some md) (hi : aFind md.2.2.2.2.2 pc = some (.invokevirtual ix, ln, (m', n, 0))) (hm' : aMs m' = some mq) (hpop : zPop n st [] = some (zr ci 0 a :: as, rest)) (hw : zW8 rest = true) (hc : mq.1 = ci) (h4 : Nat.beq ci 104 = false) (hlen : Nat.ble (zLoc (zr ci 0 a :: as)).length mq.2.2.2.1 = true) (hp : pc + 3 = pc') (C : Zp G d m' 0 l' [] s (zRet (some v1) s1)) (he : zEnter mq.2.2.2.1 (zr ci 0 a :: as) = l') (K : Zp G (d + 1) m pc' l (v1 :: rest) s1 P) : Zp G (d + 1) m pc l st s P :=
  z_call0 hm hi rfl hpop hw hm' hlen (zRcv hc h4) he hp C K
theorem z_cvV {m' n ix ci a : Nat} {as rest : List zV} {mq : aMd} {s1 : zS} (hm : aMs m = some md) (hi : aFind md.2.2.2.2.2 pc = some (.invokevirtual ix, ln, (m', n, 0))) (hm' : aMs m' = some mq) (hpop : zPop n st [] = some (zr ci 0 a :: as, rest)) (hw : zW8 rest = true) (hc : mq.1 = ci) (h4 : Nat.beq ci 104 = false) (hlen : Nat.ble (zLoc (zr ci 0 a :: as)).length mq.2.2.2.1 = true) (hp : pc + 3 = pc') (C : Zp G d m' 0 l' [] s (zRet none s1)) (he : zEnter mq.2.2.2.1 (zr ci 0 a :: as) = l') (K : Zp G (d + 1) m pc' l rest s1 P) : Zp G (d + 1) m pc l st s P :=
  z_call0 hm hi rfl hpop hw hm' hlen (zRcv hc h4) he hp C K
theorem z_cs {m' n ix : Nat} {as rest : List zV} {mq : aMd} {v1 : zV} {s1 : zS} (hm : aMs m = some md) (hi : aFind md.2.2.2.2.2 pc = some (.invokestatic ix, ln, (m', n, 5))) (hm' : aMs m' = some mq) (hpop : zPop n st [] = some (as, rest)) (hw : zW8 rest = true) (hlen : Nat.ble (zLoc as).length mq.2.2.2.1 = true) (hp : pc + 3 = pc') (C : Zp G d m' 0 l' [] s (zRet (some v1) s1)) (he : zEnter mq.2.2.2.1 as = l') (K : Zp G (d + 1) m pc' l (v1 :: rest) s1 P) : Zp G (d + 1) m pc l st s P :=
  z_call0 hm hi rfl hpop hw hm' hlen (fun _ => rfl) he hp C K
theorem z_csV {m' n ix : Nat} {as rest : List zV} {mq : aMd} {s1 : zS} (hm : aMs m = some md) (hi : aFind md.2.2.2.2.2 pc = some (.invokestatic ix, ln, (m', n, 5))) (hm' : aMs m' = some mq) (hpop : zPop n st [] = some (as, rest)) (hw : zW8 rest = true) (hlen : Nat.ble (zLoc as).length mq.2.2.2.1 = true) (hp : pc + 3 = pc') (C : Zp G d m' 0 l' [] s (zRet none s1)) (he : zEnter mq.2.2.2.1 as = l') (K : Zp G (d + 1) m pc' l rest s1 P) : Zp G (d + 1) m pc l st s P :=
  z_call0 hm hi rfl hpop hw hm' hlen (fun _ => rfl) he hp C K
theorem z_ret0 {ins : Instr} {v : Option zV} (hm : aMs m = some md) (hi : aFind md.2.2.2.2.2 pc = some (ins, ln, lk)) (hE : aExec aSS md.2.2.2.2.1 d pc ins lk (zL l) (st.map cv) (wS G s) = some (.inr (.inl (v.map cv)))) (hv : zOkS G st → ∀ x, v = some x → zOk G x) (hP : P v s) : Zp G d m pc l st s P := by
  intro h1 h2 h3
  exact w_ret (zAt hm hi) hE ⟨v, s, rfl, rfl, h1, hv h3, hP⟩
theorem z_retI {x : Int} (hm : aMs m = some md) (hi : aFind md.2.2.2.2.2 pc = some (.ireturn, ln, lk)) (hrt : md.2.2.2.2.1 = 1) (hP : P (some (zi x)) s) : Zp G d m pc l [zi x] s P := by
  refine z_ret0 (v := some (zi x)) hm hi ?_ (fun h y hy => by cases hy; exact zOkS_h h) hP
  show aRetI md.2.2.2.2.1 [.int (Int32.ofInt x)] = _
  rw [hrt]
  rfl
theorem z_retZ {x : Int} (hm : aMs m = some md) (hi : aFind md.2.2.2.2.2 pc = some (.ireturn, ln, lk)) (hrt : md.2.2.2.2.1 = 4) (hx : x = 0 ∨ x = 1) (hP : P (some (zi x)) s) : Zp G d m pc l [zi x] s P := by
  refine z_ret0 (v := some (zi x)) hm hi ?_ (fun h y hy => by cases hy; exact zOkS_h h) hP
  show aRetI md.2.2.2.2.1 [.int (Int32.ofInt x)] = _
  rw [hrt]
  show (if Int32.ofInt x = 0 ∨ Int32.ofInt x = 1 then some (Sum.inr (Sum.inl (some (Value.int (Int32.ofInt x))))) else none) = _
  rw [if_pos (by rcases hx with rfl | rfl; exact Or.inl rfl; exact Or.inr rfl)]
  rfl
theorem z_retJ {x : Int} (hm : aMs m = some md) (hi : aFind md.2.2.2.2.2 pc = some (.lreturn, ln, lk)) (hrt : md.2.2.2.2.1 = 2) (hP : P (some (zj x)) s) : Zp G d m pc l [zj x] s P := by
  refine z_ret0 (v := some (zj x)) hm hi ?_ (fun h y hy => by cases hy; exact zOkS_h h) hP
  show aRetJ md.2.2.2.2.1 [.long (Int64.ofInt x)] = _
  rw [hrt]
  rfl
theorem z_retV (hm : aMs m = some md) (hi : aFind md.2.2.2.2.2 pc = some (.return_, ln, lk)) (hrt : md.2.2.2.2.1 = 0) (hP : P none s) : Zp G d m pc l [] s P := by
  refine z_ret0 (v := none) hm hi ?_ (fun h y hy => by cases hy) hP
  show aRetV md.2.2.2.2.1 [] = _
  rw [hrt]
  rfl
theorem z_up {d' : Nat} (hd : d ≤ d') (K : Zp G d m pc l st s P) : Zp G d' m pc l st s P :=
  fun h1 h2 h3 => w_up hd (K h1 h2 h3)
end AZt
