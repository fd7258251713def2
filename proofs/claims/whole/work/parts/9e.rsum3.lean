/-! ===== the reference reads as the pure reader does: PRODUCT, SUM, PART ===== -/
section
variable {g : Int → Int} {e B o x1 : Int} {ask : Bool} {W C : List Int} {s0 : zS} {Q : Int → zS → Prop} {rd : Int → Int → Int → Int → qR}
theorem headD_lt {x : Int} {l : List Int} : (x :: l).headD 0 = x := rfl
/-- the chain of a PRODUCT -/
theorem rL4 (ht : tOk g e) (h5 : rP5 g e ask x1 rd o) (hlen : ∀ lv o F E q, rd lv o F E = .inr q → lxW g e F E → qLen g e F E q) (hB : B ≤ (W.length : Int)) (hW3 : W.headD 0 ≠ 3) (hW4 : W.headD 0 ≠ 4) : ∀ (j : Nat) (F E : Int) (l pd C' : List Int) (n1 n3 : Nat) (s : zS), rG g e ask B F E (pd ++ W) C' o s → Fr rqF s0 s → C' ++ pd = C ++ l → (∀ y ∈ pd, y = 3 ∨ y = 4) → 1600 ≤ F + (j : Int) → 1700 ≤ (n1 : Int) + F → 1700 ≤ (n3 : Int) + F → rK4 g e ask B x1 W C o s0 Q (qL g e (rd 5 o) 4 j F E l) → Ok (uPost x1 n1 n3 s) Q := by
  intro j
  induction j with
  | zero =>
    intro F E l pd C' n1 n3 s h hf hC hp hj f1 f3 hK
    have hle := ht.2.1
    have hFe := h.1.2.1
    unfold qL at hK
    refine hK n1 n3 s pd C' h hf hC hp (Classical.byContradiction fun z => ?_) f1 f3
    have z : F < e := (qJ4 z).1
    omega
  | succ j ih =>
    intro F E l pd C' n1 n3 s h hf hC hp hj f1 f3 hK
    have hle := ht.2.1
    have hFe := h.1.2.1
    unfold qL at hK
    by_cases z : qJ g e 4 F E = -1
    · rw [if_pos z] at hK
      exact hK n1 n3 s pd C' h hf hC hp z f1 f3
    · rw [if_neg z] at hK
      have hF := qJ4 z
      have gx := nx_any h.1 hF.1
      have ek := k_mul (E := E) hF
      obtain ⟨n1, rfl⟩ : ∃ m, n1 = m + 1 := ⟨n1 - 1, by omega⟩
      obtain ⟨n3, rfl⟩ : ∃ m, n3 = m + 1 := ⟨n3 - 1, by omega⟩
      have kk : qJ g e 4 F E = 3 ∨ qJ g e 4 F E = 4 := by rw [ek]; split <;> omega
      refine uMul ht h hB hF hp hW3 hW4 (fun t t1 t2 => ?_)
      refine h5 B _ _ (qJ g e 4 F E :: W) (C' ++ pd) n1 zFu t Q t1 (by omega) (by have := gx.2; have := h.1.1; unfold zFu; omega) ?_
      rcases hy : rd 5 o (nxF g e F) (nxE g e F E) with q | q
      · rw [hy] at hK
        intro r u a b c
        exact hK r u a b (fF_tr hf (fF_tr t2 c))
      · rw [hy] at hK
        have hl := hlen _ _ _ _ _ hy gx.1
        have hl2 := hl.2.1
        intro n1' n3' n4 u u1 u2 f1' f3' hn4
        obtain ⟨n4, rfl⟩ : ∃ m, n4 = m + 1 := ⟨n4 - 1, by omega⟩
        have h16 := rG_len ht u1
        unfold uEnd
        rw [e258n u1.2.2.1 u1.2.2.2.2.2.1.1 (by omega) u1.2.1.2.1 (Or.inl (by show qJ g e 4 F E < 60; omega)), oC_some]
        refine ih q.1 q.2.1 (l ++ (q.2.2 ++ [qJ g e 4 F E])) [qJ g e 4 F E] (C' ++ pd ++ q.2.2) n1' n3' u u1 (fr_trans hf (fr_trans t2 u2)) ?_ (fun y hy => ?_) ?_ f1' f3' hK
        · rw [hC]
          simp only [List.append_assoc]
        · rw [List.mem_singleton.mp hy]; exact kk
        · omega
theorem rP4_of (ht : tOk g e) (h5 : rP5 g e ask x1 rd o) (hlen : ∀ lv o F E q, rd lv o F E = .inr q → lxW g e F E → qLen g e F E q) : rP4 g e ask x1 (qT g e ask rd) o := by
  intro B F E W C n1 n2 s Q h f1 f2 hW3 hW4 hW60 hK
  have eq : qT g e ask rd 4 o F E = qB (rd 5 o F E) fun F1 E1 l => qL g e (rd 5 o) 4 1600 F1 E1 l := by
    unfold qT
    rw [if_neg (by decide), if_pos (by decide)]
    rfl
  rw [eq] at hK
  refine h5 B F E W C n1 n2 s Q h f1 f2 ?_
  rcases hy : rd 5 o F E with q | q
  · rw [hy] at hK
    exact hK
  · rw [hy] at hK
    have hl := hlen _ _ _ _ _ hy h.1
    intro n1' n3' n4 u u1 u2 f1' f3' hn4
    obtain ⟨n4, rfl⟩ : ∃ m, n4 = m + 1 := ⟨n4 - 1, by omega⟩
    have h16 := rG_len ht u1
    have q0 := u1.1.1
    unfold uEnd
    rw [e258n u1.2.2.1 u1.2.2.2.2.2.1.1 (by omega) u1.2.1.2.1 (Or.inl hW60), oC_some]
    exact rL4 ht h5 hlen h.2.2.2.2.2.1.2 hW3 hW4 1600 q.1 q.2.1 q.2.2 [] (C ++ q.2.2) n1' n3' u u1 u2 (by rw [List.append_nil]) (fun y hy => absurd hy (List.not_mem_nil)) (by omega) f1' f3' hK
/-- the chain of a SUM -/
theorem rL3 (ht : tOk g e) (h4 : rP4 g e ask x1 rd o) (hlen : ∀ lv o F E q, rd lv o F E = .inr q → lxW g e F E → qLen g e F E q) (hB : B ≤ (W.length : Int)) (hW1 : W.headD 0 ≠ 1) (hW2 : W.headD 0 ≠ 2) (hW3 : W.headD 0 ≠ 3) (hW4 : W.headD 0 ≠ 4) : ∀ (j : Nat) (F E : Int) (l pd C' : List Int) (n1 n3 : Nat) (s : zS), rG g e ask B F E (pd ++ W) C' o s → Fr rqF s0 s → C' ++ pd = C ++ l → (∀ y ∈ pd, 1 ≤ y ∧ y ≤ 4) → qJ g e 4 F E = -1 → 1600 ≤ F + (j : Int) → 1700 ≤ (n1 : Int) + F → 1700 ≤ (n3 : Int) + F → rK3 g e ask B x1 W C o s0 Q (qL g e (rd 4 o) 3 j F E l) → Ok (uPost x1 n1 n3 s) Q := by
  intro j
  induction j with
  | zero =>
    intro F E l pd C' n1 n3 s h hf hC hp h4' hj f1 f3 hK
    have hle := ht.2.1
    have hFe := h.1.2.1
    unfold qL at hK
    refine hK n1 n3 s pd C' h hf hC hp (Classical.byContradiction fun z => ?_) h4' f1 f3
    have z : F < e := (qJ3 z).1
    omega
  | succ j ih =>
    intro F E l pd C' n1 n3 s h hf hC hp h4' hj f1 f3 hK
    have hle := ht.2.1
    have hFe := h.1.2.1
    unfold qL at hK
    by_cases z : qJ g e 3 F E = -1
    · rw [if_pos z] at hK
      exact hK n1 n3 s pd C' h hf hC hp z h4' f1 f3
    · rw [if_neg z] at hK
      have hF := qJ3 z
      have gx := nx_any h.1 hF.1
      have ek := k_add (E := E) hF
      obtain ⟨n1, rfl⟩ : ∃ m, n1 = m + 1 := ⟨n1 - 1, by omega⟩
      obtain ⟨n3, rfl⟩ : ∃ m, n3 = m + 1 := ⟨n3 - 1, by omega⟩
      have kk : qJ g e 3 F E = 1 ∨ qJ g e 3 F E = 2 := by rw [ek]; split <;> omega
      refine uAdd ht h hB hF hp hW1 hW2 hW3 hW4 (fun t t1 t2 => ?_)
      refine h4 B _ _ (qJ g e 3 F E :: W) (C' ++ pd) n1 zFu t Q t1 (by omega) (by have := gx.2; have := h.1.1; unfold zFu; omega) (by show qJ g e 3 F E ≠ 3; omega) (by show qJ g e 3 F E ≠ 4; omega) (by show qJ g e 3 F E < 60; omega) ?_
      rcases hy : rd 4 o (nxF g e F) (nxE g e F E) with q | q
      · rw [hy] at hK
        intro r u a b c
        exact hK r u a b (fF_tr hf (fF_tr t2 c))
      · rw [hy] at hK
        have hl := hlen _ _ _ _ _ hy gx.1
        have hl2 := hl.2.1
        intro n1' n3' u pd4 C4 u1 u2 hC4 hp4 hj4 f1' f3'
        refine ih q.1 q.2.1 (l ++ (q.2.2 ++ [qJ g e 3 F E])) (pd4 ++ [qJ g e 3 F E]) C4 n1' n3' u ?_ (fr_trans hf (fr_trans t2 u2)) ?_ (fun y hy => ?_) hj4 ?_ f1' f3' hK
        · rw [List.append_assoc]
          exact u1
        · rw [← List.append_assoc, hC4, hC]
          simp only [List.append_assoc]
        · rcases List.mem_append.mp hy with hy | hy
          · have := hp4 y hy; omega
          · rw [List.mem_singleton.mp hy]; omega
        · omega
theorem rP3_of (ht : tOk g e) (h4 : rP4 g e ask x1 rd o) (hlen : ∀ lv o F E q, rd lv o F E = .inr q → lxW g e F E → qLen g e F E q) : rP3 g e ask x1 (qT g e ask rd) o := by
  intro B F E W C n1 n2 s Q h f1 f2 hW1 hW2 hW3 hW4 hW60 hK
  have eq : qT g e ask rd 3 o F E = qB (rd 4 o F E) fun F1 E1 l => qL g e (rd 4 o) 3 1600 F1 E1 l := by
    unfold qT
    rw [if_neg (by decide), if_pos (by decide)]
    rfl
  rw [eq] at hK
  refine h4 B F E W C n1 n2 s Q h f1 f2 hW3 hW4 hW60 ?_
  rcases hy : rd 4 o F E with q | q
  · rw [hy] at hK
    exact hK
  · rw [hy] at hK
    have hl := hlen _ _ _ _ _ hy h.1
    intro n1' n3' u pd C' u1 u2 hC hp hj f1' f3'
    have q0 := u1.1.1
    exact rL3 ht h4 hlen h.2.2.2.2.2.1.2 hW1 hW2 hW3 hW4 1600 q.1 q.2.1 q.2.2 pd C' n1' n3' u u1 u2 hC (fun y hy => by have := hp y hy; omega) hj (by omega) f1' f3' hK
end
section
variable {g : Int → Int} {e F E B o x1 : Int} {ask : Bool} {W C : List Int} {s t : zS} {Q : Int → zS → Prop} {rd : Int → Int → Int → Int → qR} {n1 n2 : Nat}
/-- a fault ends the part -/
theorem u_badR {w p : Int} {u : zS} (hw : w ≠ 0) (h5 : u.1 209 5 = w) (h6 : u.1 209 6 = p) (hf : Fr rqF s u) (h100 : 0 ≤ u.1 209 100 ∧ u.1 209 100 ≤ 1610) (hQ : ∀ r t, t.1 209 5 = w → t.1 209 6 = p → fF s t → Q r t) : Ok (uRest x1 (n1 + 1) u) Q := by
  rw [uBad (by rw [h5]; exact hw)]
  exact uFail h5 h6 h100 (fun r t a b c => hQ r t a b (fF_tr hf c))
theorem u_badP {w p : Int} {u : zS} (hw : w ≠ 0) (h5 : u.1 209 5 = w) (h6 : u.1 209 6 = p) (hf : Fr rqF s u) (h100 : 0 ≤ u.1 209 100 ∧ u.1 209 100 ≤ 1610) (hQ : ∀ r t, t.1 209 5 = w → t.1 209 6 = p → fF s t → Q r t) : Ok (m259_2 (n2 + 1) 1 u) (fun _ v => Ok (uRest x1 (n1 + 1) v) Q) := by
  refine ok_un (k := fun _ v => uRest x1 (n1 + 1) v) ?_
  show Ok (uPre x1 (n1 + 1) (n2 + 1) u) Q
  rw [uPre_bad (by rw [h5]; exact hw)]
  exact uFail h5 h6 h100 (fun r t a b c => hQ r t a b (fF_tr hf c))
/-- a number or a word's own name -/
theorem u186 (ht : tOk g e) (h : rG g e ask B F E W C o s) (f1 : 1700 ≤ (n1 : Int) + F) (n2' : tkK g e F E = 2 ∨ tkK g e F E ≠ 2) (hK : rK5 g e ask B x1 W C o s Q (if tkK g e F E = 2 then qN (lxNum g e F E 0 9999) else if qF g e ask F E = -1 then .inl (1, F) else .inr (nxF g e F, nxE g e F E, [40 + qF g e ask F E]))) : Ok (m259_186 s) (fun _ v => Ok (uRest x1 n1 v) Q) := by
  have hle := ht.2.1
  have hFe := h.1.2.1
  have hF0 := h.1.1
  obtain ⟨n1, rfl⟩ : ∃ m, n1 = m + 1 := ⟨n1 - 1, by omega⟩
  unfold m259_186
  refine k_v ?_
  rw [h.2.1.2.1]
  refine k_p rfl (k_c (p256_8 ht h) ?_)
  rintro r t ⟨rfl, t2, t3, t4⟩
  have h16 := rG_len ht t3
  have hlen := t3.2.2.2.1
  -- a code, and it ends
  have fin : ∀ (c F' E' : Int) (u : zS), rG g e ask B F' E' W C o u → Fr rqF s u → F < F' → 1700 ≤ ((n1 + 1 : Nat) : Int) + F' → (∀ (n1 n3 n4 : Nat) (t : zS), rG g e ask B F' E' W (C ++ [c]) o t → Fr rqF s t → 1700 ≤ (n1 : Int) + F' → 1700 ≤ (n3 : Int) + F' → W.length < n4 → Ok (uEnd x1 n1 n3 n4 t) Q) → Ok (oC (m248 c u) fun _ s8 => oC (m258 s8) fun _ s11 => some ((0 : Int), s11)) (fun _ v => Ok (uRest x1 (n1 + 1) v) Q) := by
    intro c F' E' u u1 u2 hFF f1' hq
    refine k_c (p248 u1.2.2.1 (by omega)) ?_
    rintro _ v ⟨v1, v2⟩
    have gv : rG g e ask B F' E' W (C ++ [c]) o v := by
      refine rG_st u1 v1 v2 ?_ u1.2.2.2.2.2.1.2 u1.2.2.2.2.2.2
      rw [List.length_append, List.length_singleton]
      omega
    have hF'0 := u1.1.1
    exact uEnd_mk ht gv (hq (n1 + 1) zFu zFu v gv (fr_trans u2 (rk_rq v2)) f1' (by unfold zFu; omega) (by unfold zFu; omega))
  by_cases k2 : tkK g e F E = 2
  · rw [if_pos k2] at hK
    have nf : qF g e ask F E = -1 := Classical.byContradiction fun z => by
      have := ((qF_in (g := g) (e := e) (F := F) (E := E) (ask := ask)).resolve_left z).2.2.1
      omega
    rw [nf]
    refine k_p rfl ?_
    unfold m259_212
    have hp := p162 (lo := 0) (hi := 9999) ht t3.1 t3.2.1
    refine k_p rfl ?_
    rcases hz : lxNum g e F E 0 9999 with q | q
    · rw [hz] at hK hp
      refine k_c hp ?_
      rintro r u ⟨u1, u2, u3, u4, u5⟩
      refine k_z (by omega) (by omega) (k_c (p248 (rSt_fr (fun a k z => by omega) u3 t3.2.2.1) (by omega)) ?_)
      rintro _ v ⟨v1, v2⟩
      have hq1 : q.1 ≠ 0 := by
        by_cases c4 : 4 < tkB g e F - F
        · rw [lxNum_4 k2 c4] at hz; cases hz; show (1 : Int) ≠ 0; decide
        · by_cases cv : lxV g F (tkB g e F - F).toNat < 0 ∨ 9999 < lxV g F (tkB g e F - F).toNat
          · rw [lxNum_v k2 c4 cv] at hz; cases hz; show (2 : Int) ≠ 0; decide
          · rw [lxNum_n k2 c4 cv] at hz; exact absurd hz (by simp)
      have v5 : v.1 209 5 = q.1 := by rw [v2.1 209 5 (by omega)]; exact u1
      have v6 : v.1 209 6 = q.2 := by rw [v2.1 209 6 (by omega)]; exact u2
      have e258 : m258 v = some (0, v) := by
        have hzf : zFu = 999999 + 1 := rfl
        unfold m258
        rw [hzf, m258_0, oV_eq, if_neg (by rw [v5]; exact hq1)]
      refine k_e e258 (k_r (u_badR hq1 v5 v6 (fr_trans t4 (fr_trans (yf_rq u3) (rk_rq v2))) (by have := v1.2.2.1; rw [List.length_append, List.length_singleton] at this; omega) hK))
    · rw [hz] at hK hp
      have hi := lxNum_in h.1 hz
      refine k_c hp ?_
      rintro r u ⟨rfl, u1, u2, u3⟩
      refine k_z (by omega) (by omega) ?_
      have gu : rG g e ask B q.2.1 q.2.2 W C o u := rG_lex t3 u1 u2 (by omega) u3
      exact fin (1000 + q.1) q.2.1 q.2.2 u gu (fr_trans t4 (yF_rq u3)) hi.2.2.2.2.1 (by omega) hK
  · rw [if_neg k2] at hK
    by_cases nf : qF g e ask F E = -1
    · rw [if_pos nf] at hK
      rw [nf]
      refine k_p rfl ?_
      unfold m259_212
      have hp := p162 (lo := 0) (hi := 9999) ht t3.1 t3.2.1
      rw [lxNum_1 k2] at hp
      refine k_p rfl (k_c hp ?_)
      rintro r u ⟨u1, u2, u3, u4, u5⟩
      refine k_z (by omega) (by omega) (k_c (p248 (rSt_fr (fun a k z => by omega) u3 t3.2.2.1) (by omega)) ?_)
      rintro _ v ⟨v1, v2⟩
      have v5 : v.1 209 5 = 1 := by rw [v2.1 209 5 (by omega)]; exact u1
      have v6 : v.1 209 6 = F := by rw [v2.1 209 6 (by omega)]; exact u2
      have e258 : m258 v = some (0, v) := by
        have hzf : zFu = 999999 + 1 := rfl
        unfold m258
        rw [hzf, m258_0, oV_eq, if_neg (by rw [v5]; decide)]
      refine k_e e258 (k_r (u_badR (by decide) v5 v6 (fr_trans t4 (fr_trans (yf_rq u3) (rk_rq v2))) (by have := v1.2.2.1; rw [List.length_append, List.length_singleton] at this; omega) hK))
    · rw [if_neg nf] at hK
      obtain ⟨q1, q2, q3, _⟩ := (qF_in (g := g) (e := e) (F := F) (E := E) (ask := ask)).resolve_left nf
      have gx := nx_any h.1 (tkK_1 q3).1
      have word : ∀ m a k v, (a, sL k) ∈ wTab → m = (sL k).length → m ≤ 10 → isW g e F E (sL k) = true → qF g e ask F E = v → Ok (m159 m a t) (fun _ u => rG g e ask B (nxF g e F) (nxE g e F E) W C o u ∧ Fr rqF s u) := by
        intro m a k v hk hm hl hi _
        refine k_m (rG_asks ht t3 hk hm hl hi) ?_
        rintro _ u ⟨u1, u2⟩
        exact ⟨u1, fr_trans t4 u2⟩
      have taken : Ok (m257 (qF g e ask F E) t) (fun _ u => rG g e ask B (nxF g e F) (nxE g e F E) W C o u ∧ Fr rqF s u) := by
        have w0 : ∀ (m a : Nat), Ok (m159 m a t) (fun _ u => rG g e ask B (nxF g e F) (nxE g e F E) W C o u ∧ Fr rqF s u) → Ok (oC (m159 m a t) fun _ u => some ((0 : Int), u)) (fun _ u => rG g e ask B (nxF g e F) (nxE g e F E) W C o u ∧ Fr rqF s u) := fun m a q => k_c q (fun _ u p => k_r p)
        unfold m257
        have key : ∀ k v, qF g e ask F E = v → (qF g e ask F E = v → isW g e F E (sL k) = true) → isW g e F E (sL k) = true := fun k v hv hh => hh hv
        have cases9 : ∀ v : Int, 0 ≤ v → v ≤ 8 → qF g e ask F E = v → isW g e F E (sL (19 + v.toNat)) = true := by
          intro v v0 v8 hv
          unfold qF at hv
          repeat' split at hv
          all_goals first
            | (subst hv; assumption)
            | omega
        refine k_i (fun z => w0 _ _ (word 5 275 19 0 (by decide) (by decide) (by decide) (cases9 0 (by omega) (by omega) z) z)) (fun z0 => ?_)
        refine k_i (fun z => w0 _ _ (word 5 276 20 1 (by decide) (by decide) (by decide) (cases9 1 (by omega) (by omega) z) z)) (fun z1 => ?_)
        refine k_i (fun z => w0 _ _ (word 6 277 21 2 (by decide) (by decide) (by decide) (cases9 2 (by omega) (by omega) z) z)) (fun z2 => ?_)
        refine k_i (fun z => w0 _ _ (word 4 278 22 3 (by decide) (by decide) (by decide) (cases9 3 (by omega) (by omega) z) z)) (fun z3 => ?_)
        refine k_i (fun z => w0 _ _ (word 3 279 23 4 (by decide) (by decide) (by decide) (cases9 4 (by omega) (by omega) z) z)) (fun z4 => ?_)
        refine k_i (fun z => w0 _ _ (word 6 280 24 5 (by decide) (by decide) (by decide) (cases9 5 (by omega) (by omega) z) z)) (fun z5 => ?_)
        refine k_i (fun z => w0 _ _ (word 4 281 25 6 (by decide) (by decide) (by decide) (cases9 6 (by omega) (by omega) z) z)) (fun z6 => ?_)
        refine k_i (fun z => w0 _ _ (word 4 282 26 7 (by decide) (by decide) (by decide) (cases9 7 (by omega) (by omega) z) z)) (fun z7 => ?_)
        refine k_i (fun z => w0 _ _ (word 5 283 27 8 (by decide) (by decide) (by decide) (cases9 8 (by omega) (by omega) z) z)) (fun z8 => ?_)
        omega
      refine k_q nf (k_c taken ?_)
      rintro _ u ⟨u1, u2⟩
      unfold m259_212
      refine k_q nf (k_z (by omega) (by omega) ?_)
      exact fin (40 + qF g e ask F E) _ _ u u1 u2 gx.2 (by omega) hK
end
