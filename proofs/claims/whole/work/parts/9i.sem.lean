/-! ===== what codes tell ===== -/
def cOk (pt fr : Int → Int) : List Int → List Int → Prop
  | [], _ => True
  | c :: l, st => gd c st ∧ cOk pt fr l (cStep pt fr c st)
def cRun (pt fr : Int → Int) (l st : List Int) : List Int := l.foldl (fun st c => cStep pt fr c st) st
section
variable {pt fr : Int → Int}
theorem cRun_app {l l' st : List Int} : cRun pt fr (l ++ l') st = cRun pt fr l' (cRun pt fr l st) := by
  unfold cRun
  rw [List.foldl_append]
theorem cRun_one {c : Int} {st : List Int} : cRun pt fr [c] st = cStep pt fr c st := rfl
theorem cOk_app : ∀ {l l' st : List Int}, cOk pt fr l st → cOk pt fr l' (cRun pt fr l st) → cOk pt fr (l ++ l') st
  | [], _, _, _, h => h
  | _ :: l, _, _, h, h' => ⟨h.1, cOk_app (l := l) h.2 h'⟩
theorem cOk_at : ∀ {l st : List Int} {i : Nat}, cOk pt fr l st → i < l.length → gd (l.getD i 0) (cRun pt fr (l.take i) st)
  | [], _, _, _, h => absurd h (by simp)
  | c :: l, st, 0, h, _ => h.1
  | c :: l, st, i + 1, h, hi => by
    have := cOk_at (l := l) (i := i) h.2 (by rw [List.length_cons] at hi; omega)
    exact this
theorem cRl_take {l : List Int} : ∀ i : Nat, i ≤ l.length → cRl pt fr (fun k => l.getD k.toNat 0) i = cRun pt fr (l.take i) [] := by
  intro i
  induction i with
  | zero => intro _; rfl
  | succ i ih =>
    intro hi
    show cStep pt fr (l.getD ((i : Int)).toNat 0) (cRl pt fr (fun k => l.getD k.toNat 0) i) = _
    rw [ih (by omega), show ((i : Int)).toNat = i by omega, List.take_succ_eq_append_getElem (by omega), cRun_app, cRun_one]
    have e0 : l.getD i 0 = l[i]'(by omega) := by rw [List.getD_eq_getElem?_getD, List.getElem?_eq_getElem (by omega)]; rfl
    rw [e0]
end
/-- these codes put one value more -/
def cSm (pt fr : Int → Int) (b : Prop) (l st : List Int) : Prop := cOk pt fr l st ∧ ∃ v, cRun pt fr l st = v :: st ∧ inM v ∧ (b → bl v)
section
variable {pt fr : Int → Int} {b : Prop} {l l' st : List Int} {c v w : Int}
theorem bl_in (h : bl v) : inM v := by rcases h with h | h <;> rw [h] <;> constructor <;> decide
theorem cSm_push (hc : gd c st) (hs : cStep pt fr c st = v :: st) (hv : inM v) (hb : b → bl v) : cSm pt fr b [c] st := ⟨⟨hc, trivial⟩, v, hs, hv, hb⟩
/-- two values, and what joins them -/
theorem cSm_op {b1 b2 : Prop} (hst : ∀ v, v ∈ st → inM v) (hl : st.length + 2 ≤ 63) (h1 : cSm pt fr b1 l st) (h2 : ∀ v, inM v → cSm pt fr b2 l' (v :: st)) (c1 : 1 ≤ c) (c2 : c ≤ 11) (hbb : 10 ≤ c → b1 ∧ b2) (hb : b → 7 ≤ c) : cSm pt fr b (l ++ (l' ++ [c])) st := by
  obtain ⟨k1, v, r1, i1, t1⟩ := h1
  obtain ⟨k2, w, r2, i2, t2⟩ := h2 v i1
  have hg : gd c (w :: v :: st) := by
    refine ⟨fun x hx => ?_, by simp only [List.length_cons]; omega, Or.inr (Or.inr (Or.inr (Or.inr (Or.inr ⟨c1, c2, by simp only [List.length_cons]; omega, fun z => ⟨t1 (hbb z).1, t2 (hbb z).2⟩⟩))))⟩
    rcases List.mem_cons.mp hx with h | h
    · rw [h]; exact i2
    · rcases List.mem_cons.mp h with h | h
      · rw [h]; exact i1
      · exact hst x h
  have hs : cStep pt fr c (w :: v :: st) = jn c v w :: st := cs_op c1 c2
  have hi : inM (jn c v w) := by
    by_cases z : c ≤ 9
    · exact jn_in c1 z i1 i2
    · exact bl_in (jn_bl (by omega) c2 (fun y => ⟨t1 (hbb y).1, t2 (hbb y).2⟩))
  refine ⟨cOk_app k1 ?_, jn c v w, ?_, hi, fun z => jn_bl (hb z) c2 (fun y => ⟨t1 (hbb y).1, t2 (hbb y).2⟩)⟩
  · rw [r1]
    refine cOk_app k2 ?_
    rw [r2]
    exact ⟨hg, trivial⟩
  · rw [cRun_app, cRun_app, r1, r2, cRun_one, hs]
/-- one value, and what is done with it -/
theorem cSm_un {b1 : Prop} (hst : ∀ v, v ∈ st → inM v) (hl : st.length + 1 ≤ 63) (h1 : cSm pt fr b1 l st) (hc : (c = 60) ∨ (c = 12 ∧ b1)) (hf : ∀ x, inM (fr x)) (hb : b → c = 12) : cSm pt fr b (l ++ [c]) st := by
  obtain ⟨k1, v, r1, i1, t1⟩ := h1
  have hm : ∀ x, x ∈ v :: st → inM x := fun x hx => by
    rcases List.mem_cons.mp hx with h | h
    · rw [h]; exact i1
    · exact hst x h
  rcases hc with hc | ⟨hc, hb1⟩
  · have hg : gd c (v :: st) := ⟨hm, by simp only [List.length_cons]; omega, Or.inr (Or.inr (Or.inr (Or.inl ⟨hc, by simp only [List.length_cons]; omega⟩)))⟩
    refine ⟨cOk_app k1 (by rw [r1]; exact ⟨hg, trivial⟩), fr v, ?_, hf v, fun z => absurd (hb z) (by omega)⟩
    rw [cRun_app, r1, cRun_one, cs_far hc]
    rfl
  · have tv := t1 hb1
    have hg : gd c (v :: st) := ⟨hm, by simp only [List.length_cons]; omega, Or.inr (Or.inr (Or.inr (Or.inr (Or.inl ⟨hc, by simp only [List.length_cons]; omega, tv⟩))))⟩
    have tb : bl (1 - v) := by rcases tv with h | h <;> rw [h]; exact Or.inr rfl; exact Or.inl rfl
    refine ⟨cOk_app k1 (by rw [r1]; exact ⟨hg, trivial⟩), 1 - v, ?_, bl_in tb, fun _ => tb⟩
    rw [cRun_app, r1, cRun_one, cs_not hc]
    rfl
end
section
variable {g : Int → Int} {e : Int} {ask : Bool} {pt fr : Int → Int}
theorem qL_sem {rd : Int → Int → qR} {lv D : Int} {st : List Int} (hst : ∀ v, v ∈ st → inM v) (hD : (st.length : Int) + 1 + D ≤ 63) (D1 : 1 ≤ D) (v0 : 0 ≤ lv) (v4 : lv ≤ 4) (v2 : lv ≠ 2) (hr : ∀ F E q, rd F E = .inr q → lxW g e F E → ∀ st, (∀ v, v ∈ st → inM v) → (st.length : Int) + D ≤ 63 → cSm pt fr (lv ≤ 1) q.2.2 st) (hln : ∀ F E q, rd F E = .inr q → lxW g e F E → qLen g e F E q) : ∀ (n : Nat) (F E : Int) (l : List Int) (q : Int × Int × List Int), lxW g e F E → cSm pt fr (lv ≤ 1) l st → qL g e rd lv n F E l = .inr q → cSm pt fr (lv ≤ 1) q.2.2 st := by
  intro n
  induction n with
  | zero =>
    intro F E l q hW hl h
    unfold qL at h
    cases h
    exact hl
  | succ n ih =>
    intro F E l q hW hl h
    unfold qL at h
    by_cases z : qJ g e lv F E = -1
    · rw [if_pos z] at h
      cases h
      exact hl
    · rw [if_neg z] at h
      obtain ⟨y, y1, y2⟩ := qB_r h
      have hx := nx_any hW (qJ_F z)
      have hy := hln _ _ _ y1 hx.1
      obtain ⟨j1, j2, _, _⟩ := (qJ_in (g := g) (e := e) (F := F) (E := E) (lv := lv)).resolve_left z
      have hj : (lv ≤ 1 → 10 ≤ qJ g e lv F E) ∧ (10 ≤ qJ g e lv F E → lv ≤ 1) := by
        by_cases c0 : lv = 0
        · subst c0
          have := (qJ0 z).2
          omega
        · by_cases c1 : lv = 1
          · subst c1
            have := (qJ1 z).2
            omega
          · by_cases c3 : lv = 3
            · subst c3
              have hF := qJ3 z
              have ek := k_add (E := E) hF
              rw [ek]
              split <;> omega
            · have c4 : lv = 4 := by omega
              subst c4
              have hF := qJ4 z
              have ek := k_mul (E := E) hF
              rw [ek]
              split <;> omega
      refine ih y.1 y.2.1 _ q hy.1 ?_ y2
      exact cSm_op hst (by omega) hl (fun v hv => hr _ _ _ y1 hx.1 (v :: st) (fun x hx => by
        rcases List.mem_cons.mp hx with h | h
        · rw [h]; exact hv
        · exact hst x h) (by rw [List.length_cons]; omega)) j1 j2 (fun w => ⟨hj.2 w, hj.2 w⟩) (fun w => by have := hj.1 w; omega)
theorem qM_sem (hp : ∀ q, 0 ≤ q → q ≤ 8 → inM (pt q)) (hf : ∀ x, inM (fr x)) : ∀ (n : Nat) (lv o F E : Int) (q : Int × Int × List Int), 0 ≤ lv → lv ≤ 5 → 0 ≤ o → o ≤ 6 → qM g e ask n lv o F E = .inr q → lxW g e F E → ∀ st, (∀ v, v ∈ st → inM v) → (st.length : Int) + (6 * (6 - o) + (6 - lv)) ≤ 63 → cSm pt fr (lv ≤ 2) q.2.2 st := by
  intro n
  induction n with
  | zero => intro lv o F E q _ _ _ _ h; exact absurd h (by unfold qM; simp)
  | succ n ih =>
    intro lv o F E q v0 v5 o0 o6 h hW st hst hD
    replace h : qT g e ask (qM g e ask n) lv o F E = .inr q := h
    have up : ∀ v, inM v → ∀ x, x ∈ v :: st → inM x := fun v hv x hx => by
      rcases List.mem_cons.mp hx with h | h
      · rw [h]; exact hv
      · exact hst x h
    have weak : ∀ {b b' : Prop} {l : List Int} {s : List Int}, (b' → b) → cSm pt fr b l s → cSm pt fr b' l s := fun hb ⟨k, v, r, i, t⟩ => ⟨k, v, r, i, fun z => t (hb z)⟩
    unfold qT at h
    by_cases c2 : lv = 2
    · rw [if_pos c2] at h
      subst c2
      unfold qK at h
      by_cases d1 : isW g e F E (sL 14) = true
      · rw [if_pos d1] at h
        have hx := nx_any hW (isW_F d1)
        obtain ⟨oo, h⟩ := qO_r h
        obtain ⟨y, y1, h⟩ := qB_r h
        have := ih 2 (o + 1) _ _ _ (by omega) (by omega) (by omega) (by omega) y1 hx.1 st hst (by omega)
        cases h
        exact cSm_un hst (by omega) this (Or.inr ⟨rfl, by decide⟩) hf (fun _ => rfl)
      rw [if_neg d1] at h
      by_cases d2 : F < e ∧ g F = 91
      · rw [if_pos d2] at h
        have hx := nx_any hW d2.1
        obtain ⟨oo, h⟩ := qO_r h
        obtain ⟨y, y1, h⟩ := qB_r h
        have := ih 0 (o + 1) _ _ _ (by omega) (by omega) (by omega) (by omega) y1 hx.1 st hst (by omega)
        obtain ⟨_, h⟩ := qS_r h
        cases h
        exact weak (fun _ => by decide) this
      rw [if_neg d2] at h
      by_cases d3 : isW g e F E (sL 15) = true
      · rw [if_pos d3] at h
        cases h
        exact cSm_push ⟨hst, by omega, Or.inr (Or.inr (Or.inl rfl))⟩ (cs_all rfl) (bl_in (Or.inr rfl)) (fun _ => Or.inr rfl)
      rw [if_neg d3] at h
      obtain ⟨y, y1, h⟩ := qB_r h
      have hy := qM_len n _ _ _ _ _ y1 hW
      by_cases d4 : qX g e y.1 = -1
      · rw [if_pos d4] at h; exact absurd h (by simp)
      · rw [if_neg d4] at h
        have hx := nx_any hy.1 (qX_F d4)
        obtain ⟨y', y1', h⟩ := qB_r h
        obtain ⟨x1, x2, _, _⟩ := (qX_in (g := g) (e := e) (F := y.1)).resolve_left d4
        have s1 := ih 3 o _ _ _ (by omega) (by omega) o0 o6 y1 hW st hst (by omega)
        cases h
        exact cSm_op hst (by omega) s1 (fun v hv => ih 3 o _ _ _ (by omega) (by omega) o0 o6 y1' hx.1 (v :: st) (up v hv) (by rw [List.length_cons]; omega)) (by omega) (by omega) (fun z => by omega) (fun _ => x1)
    rw [if_neg c2] at h
    by_cases c5 : lv < 5
    · rw [if_pos c5] at h
      obtain ⟨y, y1, h⟩ := qB_r h
      have hy := qM_len n _ _ _ _ _ y1 hW
      have s1 := ih (lv + 1) o _ _ _ (by omega) (by omega) o0 o6 y1 hW st hst (by omega)
      have := qL_sem (D := 6 * (6 - o) + (6 - (lv + 1))) hst (by omega) (by omega) v0 (by omega) c2 (fun F E q h hW st hst hD => weak (fun z => by omega) (ih (lv + 1) o F E q (by omega) (by omega) o0 o6 h hW st hst hD)) (fun F E q h hW => qM_len n _ _ _ _ _ h hW) 1600 _ _ _ q hy.1 (weak (fun z => by omega) s1) h
      exact weak (fun z => by omega) this
    rw [if_neg c5] at h
    have e5 : lv = 5 := by omega
    subst e5
    have choice : ∀ act, F < e → 1 ≤ act → act ≤ 9 → qC g e (qM g e ask n) act o F E = .inr q → cSm pt fr ((5 : Int) ≤ 2) q.2.2 st := by
      intro act hF a1 a9 h
      have hx := nx_any hW hF
      unfold qC at h
      by_cases z : nxF g e F < e ∧ g (nxF g e F) = 40
      · rw [if_pos z] at h
        obtain ⟨oo, h⟩ := qO_r h
        have hx2 := nx_any hx.1 z.1
        obtain ⟨y, y1, h⟩ := qB_r h
        have hy := qM_len n _ _ _ _ _ y1 hx2.1
        obtain ⟨z3, h⟩ := qS_r h
        have hx3 := nx_any hy.1 z3.1
        obtain ⟨y', y1', h⟩ := qB_r h
        obtain ⟨z4, h⟩ := qS_r h
        have s1 := ih 3 (o + 1) _ _ _ (by omega) (by omega) (by omega) (by omega) y1 hx2.1 st hst (by omega)
        cases h
        exact cSm_op hst (by omega) s1 (fun v hv => ih 3 (o + 1) _ _ _ (by omega) (by omega) (by omega) (by omega) y1' hx3.1 (v :: st) (up v hv) (by rw [List.length_cons]; omega)) a1 (by omega) (fun z => by omega) (fun z => absurd z (by decide))
      · rw [if_neg z] at h; exact absurd h (by simp)
    unfold qP at h
    by_cases d1 : tkK g e F E = 2
    · rw [if_pos d1] at h
      generalize hz : lxNum g e F E 0 9999 = z at h
      rcases z with z | z
      · exact absurd h (by unfold qN; simp)
      · have hi := lxNum_in hW hz
        cases h
        refine cSm_push (v := z.1) ⟨hst, by omega, Or.inl ⟨by omega, by omega⟩⟩ ?_ ⟨by omega, by omega⟩ (fun z => absurd z (by decide))
        rw [cs_num (by omega), show 1000 + z.1 - 1000 = z.1 by omega]
    rw [if_neg d1] at h
    by_cases d2 : F < e ∧ g F = 40
    · rw [if_pos d2] at h
      have hx := nx_any hW d2.1
      obtain ⟨oo, h⟩ := qO_r h
      obtain ⟨y, y1, h⟩ := qB_r h
      obtain ⟨_, h⟩ := qS_r h
      have := ih 3 (o + 1) _ _ _ (by omega) (by omega) (by omega) (by omega) y1 hx.1 st hst (by omega)
      cases h
      exact weak (fun z => absurd z (by decide)) this
    rw [if_neg d2] at h
    by_cases d3 : isW g e F E (sL 16) = true
    · rw [if_pos d3] at h; exact choice 5 (isW_F d3) (by omega) (by omega) h
    rw [if_neg d3] at h
    by_cases d4 : isW g e F E (sL 17) = true
    · rw [if_pos d4] at h; exact choice 6 (isW_F d4) (by omega) (by omega) h
    rw [if_neg d4] at h
    by_cases d5 : ask = true ∧ isW g e F E (sL 18) = true
    · rw [if_pos d5] at h
      have hx := nx_any hW (isW_F d5.2)
      obtain ⟨oo, h⟩ := qO_r h
      obtain ⟨y, y1, h⟩ := qB_r h
      have := ih 5 (o + 1) _ _ _ (by omega) (by omega) (by omega) (by omega) y1 hx.1 st hst (by omega)
      cases h
      exact cSm_un hst (by omega) this (Or.inl rfl) hf (fun z => absurd z (by decide))
    rw [if_neg d5] at h
    by_cases d6 : qF g e ask F E = -1
    · rw [if_pos d6] at h; exact absurd h (by simp)
    · rw [if_neg d6] at h
      obtain ⟨q1, q2, _, _⟩ := (qF_in (g := g) (e := e) (F := F) (E := E) (ask := ask)).resolve_left d6
      cases h
      refine cSm_push (v := pt (qF g e ask F E)) ⟨hst, by omega, Or.inr (Or.inl ⟨by omega, by omega⟩)⟩ ?_ (hp _ q1 q2) (fun z => absurd z (by decide))
      rw [cs_part (by omega) (by omega), show 40 + qF g e ask F E - 40 = qF g e ask F E by omega]
end
