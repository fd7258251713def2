/-! ===== the reference reads a TEST as the pure reader does ===== -/
section
variable {g : Int → Int} {e F E o c : Int} {x : qR} {q : Int × Int}
theorem qB_l {k : Int → Int → List Int → qR} (h : qB x k = .inl q) : x = .inl q ∨ ∃ y, x = .inr y ∧ k y.1 y.2.1 y.2.2 = .inl q := by
  rcases x with y | y
  · exact Or.inl h
  · exact Or.inr ⟨y, rfl, h⟩
theorem qO_l {k : Int → Int → qR} (h : qO g e o F E k = .inl q) : q.1 ≠ 0 ∨ (o < 6 ∧ k (nxF g e F) (nxE g e F E) = .inl q) := by
  unfold qO at h
  by_cases z : o < 6
  · rw [if_pos z] at h; exact Or.inr ⟨z, h⟩
  · rw [if_neg z] at h; cases h; exact Or.inl (by show (4 : Int) ≠ 0; decide)
theorem qS_l {k : Int → Int → qR} (h : qS g e c F E k = .inl q) : q.1 ≠ 0 ∨ k (nxF g e F) (nxE g e F E) = .inl q := by
  unfold qS at h
  by_cases z : F < e ∧ g F = c
  · rw [if_pos z] at h; exact Or.inr h
  · rw [if_neg z] at h; cases h; exact Or.inl (by show (1 : Int) ≠ 0; decide)
theorem qL_nz {rd : Int → Int → qR} {lv : Int} (hr : ∀ F E q, rd F E = .inl q → q.1 ≠ 0) : ∀ (n : Nat) (F E : Int) (l : List Int) (q : Int × Int), qL g e rd lv n F E l = .inl q → q.1 ≠ 0 := by
  intro n
  induction n with
  | zero => intro F E l q h; exact absurd h (by unfold qL; simp)
  | succ n ih =>
    intro F E l q h
    unfold qL at h
    by_cases z : qJ g e lv F E = -1
    · rw [if_pos z] at h; exact absurd h (by simp)
    · rw [if_neg z] at h
      rcases qB_l h with h | ⟨y, _, h⟩
      · exact hr _ _ _ h
      · exact ih _ _ _ _ h
/-- a fault is one -/
theorem qM_nz {ask : Bool} : ∀ (n : Nat) (lv o F E : Int) (q : Int × Int), 0 ≤ lv → lv ≤ 5 → 0 ≤ o → o ≤ 6 → 3 * (6 - o) + (6 - lv) < (n : Int) → qM g e ask n lv o F E = .inl q → q.1 ≠ 0 := by
  intro n
  induction n with
  | zero => intro lv o F E q _ _ _ _ h; omega
  | succ n ih =>
    intro lv o F E q v0 v5 o0 o6 hn h
    have h : qT g e ask (qM g e ask n) lv o F E = .inl q := h
    have one : ∀ {p : Int × Int} {y : Int}, (.inl (1, y) : qR) = .inl p → p.1 ≠ 0 := fun hh => by cases hh; show (1 : Int) ≠ 0; decide
    unfold qT at h
    by_cases c2 : lv = 2
    · rw [if_pos c2] at h
      unfold qK at h
      by_cases d1 : isW g e F E (sL 14) = true
      · rw [if_pos d1] at h
        rcases qO_l h with h | ⟨oo, h⟩
        · exact h
        · rcases qB_l h with h | ⟨y, _, h⟩
          · exact ih 2 (o + 1) _ _ _ (by omega) (by omega) (by omega) (by omega) (by omega) h
          · exact absurd h (by simp)
      rw [if_neg d1] at h
      by_cases d2 : F < e ∧ g F = 91
      · rw [if_pos d2] at h
        rcases qO_l h with h | ⟨oo, h⟩
        · exact h
        · rcases qB_l h with h | ⟨y, _, h⟩
          · exact ih 0 (o + 1) _ _ _ (by omega) (by omega) (by omega) (by omega) (by omega) h
          · rcases qS_l h with h | h
            · exact h
            · exact absurd h (by simp)
      rw [if_neg d2] at h
      by_cases d3 : isW g e F E (sL 15) = true
      · rw [if_pos d3] at h; exact absurd h (by simp)
      rw [if_neg d3] at h
      rcases qB_l h with h | ⟨y, _, h⟩
      · exact ih 3 o _ _ _ (by omega) (by omega) o0 o6 (by omega) h
      · by_cases d4 : qX g e y.1 = -1
        · rw [if_pos d4] at h; exact one h
        · rw [if_neg d4] at h
          rcases qB_l h with h | ⟨y', _, h⟩
          · exact ih 3 o _ _ _ (by omega) (by omega) o0 o6 (by omega) h
          · exact absurd h (by simp)
    rw [if_neg c2] at h
    by_cases c5 : lv < 5
    · rw [if_pos c5] at h
      rcases qB_l h with h | ⟨y, _, h⟩
      · exact ih (lv + 1) o _ _ _ (by omega) (by omega) o0 o6 (by omega) h
      · exact qL_nz (fun F E q h => ih (lv + 1) o F E q (by omega) (by omega) o0 o6 (by omega) h) 1600 _ _ _ _ h
    rw [if_neg c5] at h
    have choice : ∀ act, qC g e (qM g e ask n) act o F E = .inl q → q.1 ≠ 0 := by
      intro act h
      unfold qC at h
      by_cases z : nxF g e F < e ∧ g (nxF g e F) = 40
      · rw [if_pos z] at h
        rcases qO_l h with h | ⟨oo, h⟩
        · exact h
        · rcases qB_l h with h | ⟨y, _, h⟩
          · exact ih 3 (o + 1) _ _ _ (by omega) (by omega) (by omega) (by omega) (by omega) h
          · rcases qS_l h with h | h
            · exact h
            · rcases qB_l h with h | ⟨y, _, h⟩
              · exact ih 3 (o + 1) _ _ _ (by omega) (by omega) (by omega) (by omega) (by omega) h
              · rcases qS_l h with h | h
                · exact h
                · exact absurd h (by simp)
      · rw [if_neg z] at h; exact one h
    unfold qP at h
    by_cases d1 : tkK g e F E = 2
    · rw [if_pos d1] at h
      by_cases c4 : 4 < tkB g e F - F
      · rw [lxNum_4 d1 c4] at h; exact one h
      · by_cases cv : lxV g F (tkB g e F - F).toNat < 0 ∨ 9999 < lxV g F (tkB g e F - F).toNat
        · rw [lxNum_v d1 c4 cv] at h
          have h : (.inl (2, F) : qR) = .inl q := h
          cases h; show (2 : Int) ≠ 0; decide
        · rw [lxNum_n d1 c4 cv] at h; exact absurd h (by unfold qN; simp)
    rw [if_neg d1] at h
    by_cases d2 : F < e ∧ g F = 40
    · rw [if_pos d2] at h
      rcases qO_l h with h | ⟨oo, h⟩
      · exact h
      · rcases qB_l h with h | ⟨y, _, h⟩
        · exact ih 3 (o + 1) _ _ _ (by omega) (by omega) (by omega) (by omega) (by omega) h
        · rcases qS_l h with h | h
          · exact h
          · exact absurd h (by simp)
    rw [if_neg d2] at h
    by_cases d3 : isW g e F E (sL 16) = true
    · rw [if_pos d3] at h; exact choice 5 h
    rw [if_neg d3] at h
    by_cases d4 : isW g e F E (sL 17) = true
    · rw [if_pos d4] at h; exact choice 6 h
    rw [if_neg d4] at h
    by_cases d5 : ask = true ∧ isW g e F E (sL 18) = true
    · rw [if_pos d5] at h
      rcases qO_l h with h | ⟨oo, h⟩
      · exact h
      · rcases qB_l h with h | ⟨y, _, h⟩
        · exact ih 5 (o + 1) _ _ _ (by omega) (by omega) (by omega) (by omega) (by omega) h
        · exact absurd h (by simp)
    rw [if_neg d5] at h
    by_cases d6 : qF g e ask F E = -1
    · rw [if_pos d6] at h; exact one h
    · rw [if_neg d6] at h; exact absurd h (by simp)
end
/-- behind a FACT -/
def rK2 (g : Int → Int) (e : Int) (ask : Bool) (B : Int) (W C : List Int) (o : Int) (s : zS) (Q : Int → zS → Prop) (y : qR) : Prop := match y with
  | .inl q => ∀ r t, t.1 209 5 = q.1 → t.1 209 6 = q.2 → Fr rqF s t → Q r t
  | .inr q => ∀ (n n3 n4 : Nat) (t : zS), rG g e ask B q.1 q.2.1 W (C ++ q.2.2) o t → Fr rqF s t → 1700 ≤ (n : Int) + q.1 → 1700 ≤ (n3 : Int) + q.1 → W.length < n4 → Ok (tEnd n n3 n4 t) Q
def rK1 (g : Int → Int) (e : Int) (ask : Bool) (B : Int) (W C : List Int) (o : Int) (s : zS) (Q : Int → zS → Prop) (y : qR) : Prop := match y with
  | .inl q => ∀ r t, t.1 209 5 = q.1 → t.1 209 6 = q.2 → Fr rqF s t → Q r t
  | .inr q => ∀ (n n3 : Nat) (t : zS) (pd C' : List Int), rG g e ask B q.1 q.2.1 (pd ++ W) C' o t → Fr rqF s t → C' ++ pd = C ++ q.2.2 → (∀ y ∈ pd, y = 10) → qJ g e 1 q.1 q.2.1 = -1 → 1700 ≤ (n : Int) + q.1 → 1700 ≤ (n3 : Int) + q.1 → Ok (tPost n n3 t) Q
def rK0 (g : Int → Int) (e : Int) (ask : Bool) (B : Int) (W C : List Int) (o : Int) (s : zS) (Q : Int → zS → Prop) (y : qR) : Prop := match y with
  | .inl q => ∀ r t, t.1 209 5 = q.1 → t.1 209 6 = q.2 → Fr rqF s t → Q r t
  | .inr q => ∀ (n n3 : Nat) (t : zS) (pd C' : List Int), rG g e ask B q.1 q.2.1 (pd ++ W) C' o t → Fr rqF s t → C' ++ pd = C ++ q.2.2 → (∀ y ∈ pd, y = 10 ∨ y = 11) → qJ g e 0 q.1 q.2.1 = -1 → qJ g e 1 q.1 q.2.1 = -1 → 1700 ≤ (n : Int) + q.1 → 1700 ≤ (n3 : Int) + q.1 → Ok (tPost n n3 t) Q
/-- what stands on top where a FACT begins -/
abbrev hdT (W : List Int) : Prop := W.headD 0 = 0 ∨ W.headD 0 = 10 ∨ W.headD 0 = 11 ∨ W.headD 0 = 12 ∨ W.headD 0 = 25
def rP2 (g : Int → Int) (e : Int) (ask : Bool) (rd : Int → Int → Int → Int → qR) (o : Int) : Prop := ∀ (B F E : Int) (W C : List Int) (n : Nat) (s : zS) (Q : Int → zS → Prop), rG g e ask B F E W C o s → 1700 ≤ (n : Int) + F → hdT W → rK2 g e ask B W C o s Q (rd 2 o F E) → Ok (m265_2 n 1 s) Q
def rP1 (g : Int → Int) (e : Int) (ask : Bool) (rd : Int → Int → Int → Int → qR) (o : Int) : Prop := ∀ (B F E : Int) (W C : List Int) (n : Nat) (s : zS) (Q : Int → zS → Prop), rG g e ask B F E W C o s → 1700 ≤ (n : Int) + F → hdT W → W.headD 0 ≠ 10 → W.headD 0 ≠ 12 → rK1 g e ask B W C o s Q (rd 1 o F E) → Ok (m265_2 n 1 s) Q
def rP0 (g : Int → Int) (e : Int) (ask : Bool) (rd : Int → Int → Int → Int → qR) (o : Int) : Prop := ∀ (B F E : Int) (W C : List Int) (n : Nat) (s : zS) (Q : Int → zS → Prop), rG g e ask B F E W C o s → 1700 ≤ (n : Int) + F → hdT W → W.headD 0 ≠ 10 → W.headD 0 ≠ 11 → W.headD 0 ≠ 12 → rK0 g e ask B W C o s Q (rd 0 o F E) → Ok (m265_2 n 1 s) Q
section
variable {g : Int → Int} {e F E B o : Int} {ask : Bool} {W C : List Int} {s t s0 : zS} {Q : Int → zS → Prop} {rd : Int → Int → Int → Int → qR} {n : Nat}
theorem rK2_fr {y : qR} (hf : Fr rqF s t) (h : rK2 g e ask B W C o s Q y) : rK2 g e ask B W C o t Q y := by
  rcases y with q | q
  · exact fun r u a b c => h r u a b (fr_trans hf c)
  · exact fun n n3 n4 u a b => h n n3 n4 u a (fr_trans hf b)
/-- the chain of BOTH -/
theorem rL1 (ht : tOk g e) (h2 : rP2 g e ask rd o) (hlen : ∀ lv o F E q, rd lv o F E = .inr q → lxW g e F E → qLen g e F E q) (hB : B ≤ (W.length : Int)) (hW : W.headD 0 ≠ 10) : ∀ (j : Nat) (F E : Int) (l pd C' : List Int) (n n3 : Nat) (s : zS), rG g e ask B F E (pd ++ W) C' o s → Fr rqF s0 s → C' ++ pd = C ++ l → (∀ y ∈ pd, y = 10) → 1600 ≤ F + (j : Int) → 1700 ≤ (n : Int) + F → 1700 ≤ (n3 : Int) + F → rK1 g e ask B W C o s0 Q (qL g e (rd 2 o) 1 j F E l) → Ok (tPost n n3 s) Q := by
  intro j
  induction j with
  | zero =>
    intro F E l pd C' n n3 s h hf hC hp hj f1 f3 hK
    have hle := ht.2.1
    have hFe := h.1.2.1
    unfold qL at hK
    refine hK n n3 s pd C' h hf hC hp (Classical.byContradiction fun z => ?_) f1 f3
    have z : F < e := isW_F (qJ1 z).1
    omega
  | succ j ih =>
    intro F E l pd C' n n3 s h hf hC hp hj f1 f3 hK
    have hle := ht.2.1
    have hFe := h.1.2.1
    unfold qL at hK
    by_cases z : qJ g e 1 F E = -1
    · rw [if_pos z] at hK
      exact hK n n3 s pd C' h hf hC hp z f1 f3
    · rw [if_neg z] at hK
      obtain ⟨hw, ek⟩ := qJ1 z
      have gx := nx_any h.1 (isW_F hw)
      obtain ⟨n3, rfl⟩ : ∃ m, n3 = m + 1 := ⟨n3 - 1, by omega⟩
      refine tAnd ht h hB hw hp hW (fun t t1 t2 => ?_)
      refine h2 B _ _ (10 :: W) (C' ++ pd) n t Q t1 (by omega) (Or.inr (Or.inl rfl)) ?_
      rcases hy : rd 2 o (nxF g e F) (nxE g e F E) with q | q
      · rw [hy] at hK
        intro r u a b c
        exact hK r u a b (fr_trans hf (fr_trans t2 c))
      · rw [hy] at hK
        have hl := hlen _ _ _ _ _ hy gx.1
        have hl2 := hl.2.1
        intro n' n3' n4 u u1 u2 f1' f3' hn4
        obtain ⟨n4, rfl⟩ : ∃ m, n4 = m + 1 := ⟨n4 - 1, by omega⟩
        have h16 := rG_len ht u1
        unfold tEnd
        rw [e264n u1.2.2.1 (by omega) u1.2.1.2.1 (by show (10 : Int) ≠ 12; decide), oC_some]
        refine ih q.1 q.2.1 (l ++ (q.2.2 ++ [qJ g e 1 F E])) [10] (C' ++ pd ++ q.2.2) n' n3' u u1 (fr_trans hf (fr_trans t2 u2)) ?_ (fun y hy => List.mem_singleton.mp hy) ?_ f1' f3' hK
        · rw [hC, ek]
          simp only [List.append_assoc]
        · omega
theorem rP1_of (ht : tOk g e) (h2 : rP2 g e ask rd o) (hlen : ∀ lv o F E q, rd lv o F E = .inr q → lxW g e F E → qLen g e F E q) : rP1 g e ask (qT g e ask rd) o := by
  intro B F E W C n s Q h f1 hh hW hW12 hK
  have eq : qT g e ask rd 1 o F E = qB (rd 2 o F E) fun F1 E1 l => qL g e (rd 2 o) 1 1600 F1 E1 l := by
    unfold qT
    rw [if_neg (by decide), if_pos (by decide)]
    rfl
  rw [eq] at hK
  refine h2 B F E W C n s Q h f1 hh ?_
  rcases hy : rd 2 o F E with q | q
  · rw [hy] at hK
    exact hK
  · rw [hy] at hK
    intro n' n3' n4 u u1 u2 f1' f3' hn4
    obtain ⟨n4, rfl⟩ : ∃ m, n4 = m + 1 := ⟨n4 - 1, by omega⟩
    have h16 := rG_len ht u1
    have q0 := u1.1.1
    unfold tEnd
    rw [e264n u1.2.2.1 (by omega) u1.2.1.2.1 hW12, oC_some]
    exact rL1 ht h2 hlen h.2.2.2.2.2.1.2 hW 1600 q.1 q.2.1 q.2.2 [] (C ++ q.2.2) n' n3' u u1 u2 (by rw [List.append_nil]) (fun y hy => absurd hy (List.not_mem_nil)) (by omega) f1' f3' hK
/-- the chain of a TEST -/
theorem rL0 (ht : tOk g e) (h1 : rP1 g e ask rd o) (hlen : ∀ lv o F E q, rd lv o F E = .inr q → lxW g e F E → qLen g e F E q) (hB : B ≤ (W.length : Int)) (hW : W.headD 0 ≠ 10) (hW' : W.headD 0 ≠ 11) : ∀ (j : Nat) (F E : Int) (l pd C' : List Int) (n n3 : Nat) (s : zS), rG g e ask B F E (pd ++ W) C' o s → Fr rqF s0 s → C' ++ pd = C ++ l → (∀ y ∈ pd, y = 10 ∨ y = 11) → qJ g e 1 F E = -1 → 1600 ≤ F + (j : Int) → 1700 ≤ (n : Int) + F → 1700 ≤ (n3 : Int) + F → rK0 g e ask B W C o s0 Q (qL g e (rd 1 o) 0 j F E l) → Ok (tPost n n3 s) Q := by
  intro j
  induction j with
  | zero =>
    intro F E l pd C' n n3 s h hf hC hp j1 hj f1 f3 hK
    have hle := ht.2.1
    have hFe := h.1.2.1
    unfold qL at hK
    refine hK n n3 s pd C' h hf hC hp (Classical.byContradiction fun z => ?_) j1 f1 f3
    have z : F < e := isW_F (qJ0 z).1
    omega
  | succ j ih =>
    intro F E l pd C' n n3 s h hf hC hp j1 hj f1 f3 hK
    have hle := ht.2.1
    have hFe := h.1.2.1
    unfold qL at hK
    by_cases z : qJ g e 0 F E = -1
    · rw [if_pos z] at hK
      exact hK n n3 s pd C' h hf hC hp z j1 f1 f3
    · rw [if_neg z] at hK
      obtain ⟨hw, ek⟩ := qJ0 z
      have gx := nx_any h.1 (isW_F hw)
      obtain ⟨n3, rfl⟩ : ∃ m, n3 = m + 1 := ⟨n3 - 1, by omega⟩
      refine tOr ht h hB hw hp hW hW' (fun t t1 t2 => ?_)
      refine h1 B _ _ (11 :: W) (C' ++ pd) n t Q t1 (by omega) (Or.inr (Or.inr (Or.inl rfl))) (by show (11 : Int) ≠ 10; decide) (by show (11 : Int) ≠ 12; decide) ?_
      rcases hy : rd 1 o (nxF g e F) (nxE g e F E) with q | q
      · rw [hy] at hK
        intro r u a b c
        exact hK r u a b (fr_trans hf (fr_trans t2 c))
      · rw [hy] at hK
        have hl := hlen _ _ _ _ _ hy gx.1
        have hl2 := hl.2.1
        intro n' n3' u pd1 C1 u1 u2 hC1 hp1 hj1 f1' f3'
        refine ih q.1 q.2.1 (l ++ (q.2.2 ++ [qJ g e 0 F E])) (pd1 ++ [11]) C1 n' n3' u ?_ (fr_trans hf (fr_trans t2 u2)) ?_ (fun y hy => ?_) hj1 ?_ f1' f3' hK
        · rw [List.append_assoc]
          exact u1
        · rw [← List.append_assoc, hC1, hC, ek]
          simp only [List.append_assoc]
        · rcases List.mem_append.mp hy with hy | hy
          · exact Or.inl (hp1 y hy)
          · exact Or.inr (List.mem_singleton.mp hy)
        · omega
theorem rP0_of (ht : tOk g e) (h1 : rP1 g e ask rd o) (hlen : ∀ lv o F E q, rd lv o F E = .inr q → lxW g e F E → qLen g e F E q) : rP0 g e ask (qT g e ask rd) o := by
  intro B F E W C n s Q h f1 hh hW hW' hW12 hK
  have eq : qT g e ask rd 0 o F E = qB (rd 1 o F E) fun F1 E1 l => qL g e (rd 1 o) 0 1600 F1 E1 l := by
    unfold qT
    rw [if_neg (by decide), if_pos (by decide)]
    rfl
  rw [eq] at hK
  refine h1 B F E W C n s Q h f1 hh hW hW12 ?_
  rcases hy : rd 1 o F E with q | q
  · rw [hy] at hK
    exact hK
  · rw [hy] at hK
    intro n' n3' u pd C' u1 u2 hC hp hj f1' f3'
    have q0 := u1.1.1
    exact rL0 ht h1 hlen h.2.2.2.2.2.1.2 hW hW' 1600 q.1 q.2.1 q.2.2 pd C' n' n3' u u1 u2 hC (fun y hy => Or.inl (hp y hy)) hj (by omega) f1' f3' hK
theorem p248f {c : Int} (h : 0 ≤ s.1 209 100 ∧ s.1 209 100 ≤ 1610) : Ok (m248 c s) (fun _ t => Fr rkF s t ∧ t.1 209 100 = s.1 209 100 + 1) := by
  unfold m248
  refine k_v (k_x h.1 (by omega) (k_v (k_v ?_)))
  rw [sI_a (by omega)]
  refine k_z (by omega) (by omega) (k_v (k_r ⟨fr_trans (fr_I (by omega)) (fr_I (by omega)), sI_e⟩))
/-- how a fact that is read goes on -/
theorem tEnd_mk {n : Nat} (ht : tOk g e) (h : rG g e ask B F E W C o t) (hQ : Ok (tEnd n zFu zFu t) Q) : Ok (oC (m264 t) fun _ s24 => oV (s24.1 209 5) fun z26 => if z26 = (0 : Int) then oC (m266 s24) fun z28 s29 => if z28 = (0 : Int) then m265_2 n (0 : Int) s29 else m265_2 n (1 : Int) s29 else m265_2 n (0 : Int) s24) Q := by
  have h16 := rG_len ht h
  have a := ok_un hQ
  have b := p264_5 W zFu C o t h.2.2.1 h.2.1.2.1 h16 (by unfold zFu; omega) (by have := h.2.2.2.2.2.2; omega) (by have := h.2.2.2.2.2.2; omega)
  refine k_c (ok_and a b) ?_
  rintro r u ⟨u1, u2⟩
  refine k_v ?_
  rw [u2]
  exact k_p rfl u1
theorem tBad_mk {n : Nat} (h5 : t.1 209 5 ≠ 0) (hQ : Q 0 t) : Ok (oC (m264 t) fun _ s24 => oV (s24.1 209 5) fun z26 => if z26 = (0 : Int) then oC (m266 s24) fun z28 s29 => if z28 = (0 : Int) then m265_2 (n + 1) (0 : Int) s29 else m265_2 (n + 1) (1 : Int) s29 else m265_2 (n + 1) (0 : Int) s24) Q := by
  have e264 : m264 t = some (0, t) := by
    have hz : zFu = 999999 + 1 := rfl
    unfold m264
    rw [hz, m264_0, oV_eq, if_neg h5]
  refine k_e e264 (k_v (k_q h5 ?_))
  rw [t_bad0 h5]
  exact k_r hQ
/-- a FACT, n levels deep at the most -/
theorem rP2_of {m : Nat} (ht : tOk g e) (h0 : o < 6 → rP0 g e ask (qM g e ask m) (o + 1)) (h2 : o < 6 → rP2 g e ask (qM g e ask m) (o + 1)) (hm : 3 * (6 - o) + 3 < (m : Int)) : rP2 g e ask (qT g e ask (qM g e ask m)) o := by
  have hlen : ∀ lv o F E q, qM g e ask m lv o F E = .inr q → lxW g e F E → qLen g e F E q := fun lv o F E q h hW => qM_len m lv o F E q h hW
  intro B F E W C n s Q h f1 hh hK
  have hle := ht.2.1
  have hF0 := h.1.1
  have hFe := h.1.2.1
  have hoo := h.2.2.2.2.2.2
  have hB := h.2.2.2.2.2.1.2
  have eq : qT g e ask (qM g e ask m) 2 o F E = qK g e (qM g e ask m) o F E := by
    unfold qT
    rw [if_pos rfl]
  rw [eq] at hK
  obtain ⟨n, rfl⟩ : ∃ k, n = k + 1 + 1 := ⟨n - 2, by omega⟩
  rw [m265_2]
  refine k_q (by decide) (k_v ?_)
  rw [h.2.1.2.1]
  refine k_p rfl (k_c (rG_look ht h) ?_)
  rintro r t ⟨rfl, t2, t3, t4⟩
  have h16 := rG_len ht t3
  have hlen3 := t3.2.2.2.1
  have hK := rK2_fr t4 hK
  unfold qK at hK
  by_cases d2 : F < e ∧ g F = 91
  · -- a square bracket
    have gx := nx_any h.1 d2.1
    rw [if_neg (fun z => by have := kB_1.mp (tkK_1 (isW_t z).1).2.1; omega), if_pos d2] at hK
    refine k_p (by unfold lkV; rw [if_pos d2.1]; exact d2.2) (k_v ?_)
    rw [t2]
    unfold qO at hK
    by_cases oo : o < 6
    · rw [if_pos oo] at hK
      dsimp only at hK
      refine k_c (p249t t3.2.2.1 t3.2.1.2.1 oo hoo.1 (by omega)) ?_
      rintro _ v ⟨v1, v2⟩
      refine k_v ?_
      rw [v2.1 209 2 (by omega), t2]
      refine k_z (by omega) (by omega) (k_v ?_)
      have lv : rLx g e F E v := rLx_fr (A := rkF) (fun a k z => by omega) (frj_of v2) t3.2.1
      have gw := rG_open t3 v1 (rLx_sign h.1 d2.1 (by rw [d2.2]; decide) lv) d2.1 oo v2 (fr_I (by omega))
      have fw : Fr rqF t (sI v 209 2 (F + 1)) := fr_trans (rk_rq v2) (fr_I (by omega))
      generalize sI v 209 2 (F + 1) = w at *
      have hK := rK2_fr fw hK
      refine h0 oo B _ _ (25 :: W) C (n + 1) w Q gw (by omega) (Or.inr (Or.inr (Or.inr (Or.inr rfl)))) (by show (25 : Int) ≠ 10; decide) (by show (25 : Int) ≠ 11; decide) (by show (25 : Int) ≠ 12; decide) ?_
      rcases hy : qM g e ask m 0 (o + 1) (nxF g e F) (nxE g e F E) with q | q
      · rw [hy] at hK
        exact hK
      · rw [hy] at hK
        intro n' n3' y0 pd C' y1 y2 hC hp j0 j1 f1' f3'
        have hK : rK2 g e ask B W C o w Q (if q.1 < e ∧ g q.1 = 93 then .inr (nxF g e q.1, nxE g e q.1 q.2.1, q.2.2) else .inl (1, q.1)) := hK
        have hq0 := y1.1.1
        have hqe := y1.1.2.1
        obtain ⟨n', rfl⟩ : ∃ k, n' = k + 1 := ⟨n' - 1, by omega⟩
        obtain ⟨n3', rfl⟩ : ∃ k, n3' = k + 1 := ⟨n3' - 1, by omega⟩
        by_cases x : q.1 < e ∧ g q.1 = 93
        · rw [if_pos x] at hK
          have gz := nx_any y1.1 x.1
          refine tClose ht y1 hB x hp (by omega) (fun a a1 a2 => ?_)
          refine hK (n' + 1) n3' zFu a ?_ (fr_trans y2 a2) (by show 1700 ≤ ((n' + 1 : Nat) : Int) + nxF g e q.1; omega) (by show 1700 ≤ (n3' : Int) + nxF g e q.1; omega) (by have h16' := rG_len ht a1; unfold zFu; omega)
          rw [hC, show o + 1 - 1 = o by omega] at a1
          exact a1
        · rw [if_neg x] at hK
          exact tFail ht y1 x (List.mem_append_right _ (List.mem_cons_self ..)) j0 j1 (fun r a b c d => hK r a b c (fr_trans y2 d.1))
    · rw [if_neg oo] at hK
      refine k_c (p249f t3.2.2.1 t3.2.1.2.1 (by omega)) ?_
      rintro _ v ⟨v1, v2, v3⟩
      refine k_v ?_
      rw [v3.1 209 2 (by omega), t2]
      refine k_z (by omega) (by omega) (k_v ?_)
      rw [t_bad1 (by rw [sI_k (by omega), v1]; decide)]
      exact k_r (hK _ _ (by rw [sI_k (by omega)]; exact v1) (by rw [sI_k (by omega)]; exact v2) (fr_trans (f56_rq v3) (fr_I (by omega))))
  · have nlk : lkV g e F ≠ 91 := by
      intro y
      unfold lkV at y
      by_cases f : F < e
      · rw [if_pos f] at y; exact d2 ⟨f, y⟩
      · rw [if_neg f] at y; omega
    refine k_q nlk (k_c (rG_here ht t3 (k := 14) (by decide) (by decide) (by decide)) ?_)
    rintro z16 u ⟨rfl, u2, u3, u4⟩
    have hK := rK2_fr u4 hK
    by_cases d1 : isW g e F E (sL 14) = true
    · -- not
      have gx := nx_any h.1 (isW_F d1)
      rw [if_pos d1] at hK ⊢
      refine k_q (by decide) (k_v ?_)
      rw [u2]
      unfold qO at hK
      by_cases oo : o < 6
      · rw [if_pos oo] at hK
        dsimp only at hK
        refine k_c (p249t u3.2.2.1 u3.2.1.2.1 oo hoo.1 (by omega)) ?_
        rintro _ v ⟨v1, v2⟩
        have lv : rLx g e F E v := rLx_fr (A := rkF) (fun a k z => by omega) (frj_of v2) u3.2.1
        refine k_c (p159t (l := sL 14) ht h.1 lv (by decide) (by decide) ((rX_fr (fr_mono (fun a k z => by omega) v2) u3.2.2.2.2.1).2 (269, sL 14) (by decide)) (by decide) d1) ?_
        rintro _ w ⟨w1, w2⟩
        have gw := rG_open u3 v1 w1 (isW_F d1) oo v2 w2
        have hK := rK2_fr (fr_trans (rk_rq v2) (yF_rq w2)) hK
        refine h2 oo B _ _ (12 :: W) C (n + 1) w Q gw (by omega) (Or.inr (Or.inr (Or.inr (Or.inl rfl)))) ?_
        rcases hy : qM g e ask m 2 (o + 1) (nxF g e F) (nxE g e F E) with q | q
        · rw [hy] at hK
          exact hK
        · rw [hy] at hK
          have hl := hlen _ _ _ _ _ hy gw.1
          have hl2 := hl.2.1
          intro n' n3' n4 b0 b1 b2 f1' f3' hn4
          rw [List.length_cons] at hn4
          obtain ⟨n4, rfl⟩ : ∃ k, n4 = k + 1 := ⟨n4 - 1, by omega⟩
          have h16' := rG_len ht b1
          rw [List.length_cons] at h16'
          have hlb := b1.2.2.2.1
          unfold tEnd
          refine k_c (Q := fun r c => Ok (tPost n' n3' c) Q) (p264s b1.2.2.1 b1.2.1.2.1 (by omega) (by omega) (by omega) (fun c c1 c2 => ?_)) (fun r c q => q)
          have gc : rG g e ask B q.1 q.2.1 W (C ++ q.2.2 ++ [12]) o c := by
            rw [show o + 1 - 1 = o by omega] at c1
            refine rG_st b1 c1 c2 ?_ hB hoo
            simp only [List.length_append, List.length_cons, List.length_nil] at hlb ⊢
            omega
          rw [List.append_assoc] at gc
          exact ok_un (hK n' n3' n4 c gc (fr_trans b2 (rk_rq c2)) f1' f3' (by omega))
      · rw [if_neg oo] at hK
        refine k_c (p249f u3.2.2.1 u3.2.1.2.1 (by omega)) ?_
        rintro _ v ⟨v1, v2, v3⟩
        have e159 : m159 3 269 v = some (0, v) := by unfold m159; rw [oV_eq, v1, if_neg (by decide)]
        refine k_e e159 ?_
        rw [t_bad1 (by rw [v1]; decide)]
        exact k_r (hK _ _ v1 v2 (f56_rq v3))
    rw [if_neg d1, if_neg d2] at hK
    rw [if_neg d1]
    refine k_p rfl ?_
    by_cases d3 : isW g e F E (sL 15) = true
    · -- all
      have gx := nx_any h.1 (isW_F d3)
      rw [if_pos d3] at hK
      refine k_c (Q := fun _ w => rG g e ask B (nxF g e F) (nxE g e F E) W (C ++ [13]) o w ∧ Fr rqF u w) ?_ ?_
      · unfold m262
        refine k_c (rG_take ht u3 (k := 15) (by decide) (by decide) (by decide) d3) ?_
        rintro r v ⟨rfl, v1, v2⟩
        refine k_q (by decide) (k_c (p248 v1.2.2.1 (by omega)) ?_)
        rintro _ w ⟨w1, w2⟩
        refine k_r ⟨rG_st v1 w1 w2 ?_ v1.2.2.2.2.2.1.2 v1.2.2.2.2.2.2, fr_trans v2 (rk_rq w2)⟩
        rw [List.length_append, List.length_singleton]; omega
      · rintro _ w ⟨w1, w2⟩
        exact tEnd_mk ht w1 (hK (n + 1) zFu zFu w w1 w2 (by show 1700 ≤ ((n + 1 : Nat) : Int) + nxF g e F; omega) (by show 1700 ≤ (zFu : Int) + nxF g e F; unfold zFu; omega) (by unfold zFu; omega))
    rw [if_neg d3] at hK
    -- a comparison
    refine k_c (Q := fun _ w => Ok (oC (m264 w) fun _ s24 => oV (s24.1 209 5) fun z26 => if z26 = (0 : Int) then oC (m266 s24) fun z28 s29 => if z28 = (0 : Int) then m265_2 (n + 1) (0 : Int) s29 else m265_2 (n + 1) (1 : Int) s29 else m265_2 (n + 1) (0 : Int) s24) Q) ?_ (fun _ w q => q)
    unfold m262
    refine k_c (rG_notake ht u3 (k := 15) (by decide) (by decide) (by decide) (by rw [Bool.not_eq_true] at d3; exact d3)) ?_
    rintro r v ⟨rfl, v1, v2, v3⟩
    have hK := rK2_fr v3 hK
    have hr := p261 (n := m) ht v2 hm (by omega) (by omega) (by omega) (by omega) (by omega)
    refine k_p rfl (k_c hr ?_)
    intro _ w hw
    rcases hy : qM g e ask m 3 o F E with q | q
    · rw [hy] at hK hw
      have hq1 : q.1 ≠ 0 := qM_nz m 3 o F E q (by omega) (by omega) hoo.1 hoo.2 (by omega) hy
      refine k_v (k_q (by rw [hw.1]; exact hq1) (k_r (tBad_mk (by rw [hw.1]; exact hq1) (hK 0 w hw.1 hw.2.1 hw.2.2.1))))
    · rw [hy] at hK hw
      obtain ⟨w1, w2⟩ := hw
      have hl := hlen _ _ _ _ _ hy v2.1
      have hl2 := hl.2.1
      have hK : rK2 g e ask B W C o v Q (if qX g e q.1 = -1 then .inl (1, q.1) else qB (qM g e ask m 3 o (nxF g e q.1) (nxE g e q.1 q.2.1)) fun F2 E2 l' => .inr (F2, E2, q.2.2 ++ (l' ++ [qX g e q.1]))) := hK
      refine k_v ?_
      rw [w1.2.1.2.1]
      refine k_p rfl (k_c (rG_look ht w1) ?_)
      rintro z10 y ⟨rfl, y2, y3, y4⟩
      have go : ∀ c, q.1 < e → g q.1 = c → kindB c = 3 → (if c = 60 then (7 : Int) else if c = 62 then 8 else 9) = qX g e q.1 → qX g e q.1 ≠ -1 → Ok (m262_63 c y) (fun _ w => Ok (oC (m264 w) fun _ s24 => oV (s24.1 209 5) fun z26 => if z26 = (0 : Int) then oC (m266 s24) fun z28 s29 => if z28 = (0 : Int) then m265_2 (n + 1) (0 : Int) s29 else m265_2 (n + 1) (1 : Int) s29 else m265_2 (n + 1) (0 : Int) s24) Q) := by
        intro c qe gc kc cx nx
        have gx := nx_any w1.1 qe
        rw [if_neg nx] at hK
        have hq0 := w1.1.1
        have hqe := w1.1.2.1
        unfold m262_63
        refine k_v ?_
        rw [y2]
        refine k_z (by omega) (by omega) (k_v ?_)
        have ga : rG g e ask B (nxF g e q.1) (nxE g e q.1 q.2.1) W (C ++ q.2.2) o (sI y 209 2 (q.1 + 1)) := rG_lex y3 (rLx_sign w1.1 qe (by rw [gc]; exact kc) y3.2.1) gx.1 (by omega) (fr_I (by omega))
        have fa : Fr rqF v (sI y 209 2 (q.1 + 1)) := fr_trans w2 (fr_trans y4 (fr_I (by omega)))
        generalize sI y 209 2 (q.1 + 1) = a at *
        have hr' := p261 (n := m) ht ga hm (by omega) (by omega) (by omega) (by omega) (by omega)
        refine k_c hr' ?_
        intro _ b hb
        -- the code is told in any case
        have last : ∀ x : Int, x = qX g e q.1 → Ok (oC (m248 x b) fun _ s10 => some ((0 : Int), s10)) (fun _ w => Ok (oC (m264 w) fun _ s24 => oV (s24.1 209 5) fun z26 => if z26 = (0 : Int) then oC (m266 s24) fun z28 s29 => if z28 = (0 : Int) then m265_2 (n + 1) (0 : Int) s29 else m265_2 (n + 1) (1 : Int) s29 else m265_2 (n + 1) (0 : Int) s24) Q) := by
          intro x ex
          rcases hy' : qM g e ask m 3 o (nxF g e q.1) (nxE g e q.1 q.2.1) with q' | q'
          · rw [hy'] at hK hb
            have hq1 : q'.1 ≠ 0 := qM_nz m 3 o _ _ q' (by omega) (by omega) hoo.1 hoo.2 (by omega) hy'
            refine k_c (p248f hb.2.2.2) ?_
            rintro _ d ⟨d1, d2⟩
            have d5 : d.1 209 5 = q'.1 := by rw [d1.1 209 5 (by omega)]; exact hb.1
            have d6 : d.1 209 6 = q'.2 := by rw [d1.1 209 6 (by omega)]; exact hb.2.1
            have fd : Fr rqF v d := fr_trans fa (fr_trans hb.2.2.1 (rk_rq d1))
            exact k_r (tBad_mk (by rw [d5]; exact hq1) (hK 0 d d5 d6 fd))
          · rw [hy'] at hK hb
            obtain ⟨b1, b2⟩ := hb
            have hl' := hlen _ _ _ _ _ hy' ga.1
            have hl2' := hl'.2.1
            have h16b := rG_len ht b1
            have hlb := b1.2.2.2.1
            have hla := ga.2.2.2.1
            refine k_c (p248 b1.2.2.1 (by omega)) ?_
            rintro _ d ⟨d1, d2⟩
            have gd' : rG g e ask B q'.1 q'.2.1 W (C ++ q.2.2 ++ q'.2.2 ++ [x]) o d := by
              refine rG_st b1 d1 d2 ?_ b1.2.2.2.2.2.1.2 b1.2.2.2.2.2.2
              have hlv := v2.2.2.2.1
              simp only [List.length_append, List.length_cons, List.length_nil] at hlb hla ⊢
              omega
            rw [ex, List.append_assoc, List.append_assoc] at gd'
            have hq0' := b1.1.1
            exact k_r (tEnd_mk ht gd' (hK (n + 1) zFu zFu d gd' (fr_trans fa (fr_trans b2 (rk_rq d2))) (by show 1700 ≤ ((n + 1 : Nat) : Int) + q'.1; omega) (by show 1700 ≤ (zFu : Int) + q'.1; unfold zFu; omega) (by rw [List.length_append] at h16b; unfold zFu; omega)))
        by_cases c1 : c = 60
        · rw [if_pos c1] at cx
          exact k_p c1 (last 7 cx)
        · rw [if_neg c1] at cx
          refine k_q c1 ?_
          by_cases c2 : c = 62
          · rw [if_pos c2] at cx
            exact k_p c2 (last 8 cx)
          · rw [if_neg c2] at cx
            exact k_q c2 (last 9 cx)
      have lk : ∀ c, 0 ≤ c → (lkV g e q.1 = c ↔ q.1 < e ∧ g q.1 = c) := by
        intro c c0
        unfold lkV
        by_cases f : q.1 < e
        · rw [if_pos f]; exact ⟨fun z => ⟨f, z⟩, fun z => z.2⟩
        · rw [if_neg f]; exact ⟨fun z => by omega, fun z => absurd z.1 f⟩
      by_cases x1 : q.1 < e ∧ g q.1 = 60
      · have ex : lkV g e q.1 = 60 := (lk 60 (by decide)).mpr x1
        have eX : qX g e q.1 = 7 := by unfold qX; rw [if_pos x1]
        rw [ex]
        exact k_p rfl (go 60 x1.1 x1.2 (by decide) (by rw [eX]; rfl) (by rw [eX]; decide))
      refine k_q (fun z => x1 ((lk 60 (by decide)).mp z)) ?_
      by_cases x2 : q.1 < e ∧ g q.1 = 62
      · have ex : lkV g e q.1 = 62 := (lk 62 (by decide)).mpr x2
        have eX : qX g e q.1 = 8 := by unfold qX; rw [if_neg x1, if_pos x2]
        rw [ex]
        exact k_p rfl (go 62 x2.1 x2.2 (by decide) (by rw [eX]; rfl) (by rw [eX]; decide))
      refine k_q (fun z => x2 ((lk 62 (by decide)).mp z)) ?_
      by_cases x3 : q.1 < e ∧ g q.1 = 61
      · have ex : lkV g e q.1 = 61 := (lk 61 (by decide)).mpr x3
        have eX : qX g e q.1 = 9 := by unfold qX; rw [if_neg x1, if_neg x2, if_pos x3]
        rw [ex]
        exact k_p rfl (go 61 x3.1 x3.2 (by decide) (by rw [eX]; rfl) (by rw [eX]; decide))
      refine k_q (fun z => x3 ((lk 61 (by decide)).mp z)) (k_v ?_)
      have eX : qX g e q.1 = -1 := by unfold qX; rw [if_neg x1, if_neg x2, if_neg x3]
      rw [if_pos eX] at hK
      rw [y2]
      refine k_c (p153 y3.2.1.2.1) ?_
      rintro _ a ⟨a1, a2, a3⟩
      exact k_r (tBad_mk (by rw [a1]; decide) (hK 0 a a1 a2 (fr_trans w2 (fr_trans y4 (f56_rq a3)))))
end
/-- all of a TEST's -/
theorem rT_all {g : Int → Int} {e : Int} {ask : Bool} (ht : tOk g e) : ∀ (n : Nat) (o : Int), 0 ≤ o → o ≤ 6 → (3 * (6 - o) + 4 < (n : Int) → rP2 g e ask (qM g e ask n) o) ∧ (3 * (6 - o) + 5 < (n : Int) → rP1 g e ask (qM g e ask n) o) ∧ (3 * (6 - o) + 6 < (n : Int) → rP0 g e ask (qM g e ask n) o) := by
  intro n
  induction n with
  | zero => intro o a b; exact ⟨fun h => by omega, fun h => by omega, fun h => by omega⟩
  | succ n ih =>
    intro o a b
    have hl : ∀ lv o F E q, qM g e ask n lv o F E = .inr q → lxW g e F E → qLen g e F E q := fun lv o F E q h hW => qM_len n lv o F E q h hW
    refine ⟨fun h => ?_, fun h => ?_, fun h => ?_⟩
    · exact rP2_of ht (fun oo => (ih (o + 1) (by omega) (by omega)).2.2 (by omega)) (fun oo => (ih (o + 1) (by omega) (by omega)).1 (by omega)) (by omega)
    · exact rP1_of ht ((ih o a b).1 (by omega)) hl
    · exact rP0_of ht ((ih o a b).2.1 (by omega)) hl
/-- qTest -/
theorem p265 {g : Int → Int} {e F E o : Int} {ask : Bool} {C : List Int} {s : zS} {n : Nat} (ht : tOk g e) (h : rG g e ask 0 F E [] C o s) (hn : 3 * (6 - o) + 6 < (n : Int)) : Ok (m265 s) (fun _ t => match qM g e ask n 0 o F E with
    | .inl q => t.1 209 5 = q.1 ∧ t.1 209 6 = q.2 ∧ Fr rqF s t
    | .inr q => rG g e ask 0 q.1 q.2.1 [] (C ++ q.2.2) o t ∧ Fr rqF s t) := by
  have hF0 := h.1.1
  have hle := ht.2.1
  have hoo := h.2.2.2.2.2.2
  unfold m265
  refine (rT_all ht n o hoo.1 hoo.2).2.2 hn 0 F E [] C zFu s _ h (by unfold zFu; omega) (Or.inl rfl) (by show (0 : Int) ≠ 10; decide) (by show (0 : Int) ≠ 11; decide) (by show (0 : Int) ≠ 12; decide) ?_
  generalize qM g e ask n 0 o F E = y
  rcases y with q | q
  · exact fun r t a b c => ⟨a, b, c⟩
  · intro n' n3' t pd C' t1 t2 hC hp j0 j1 f1' f3'
    have hq0 := t1.1.1
    have hqe := t1.1.2.1
    obtain ⟨n', rfl⟩ : ∃ m, n' = m + 1 := ⟨n' - 1, by omega⟩
    obtain ⟨n3', rfl⟩ : ∃ m, n3' = m + 1 := ⟨n3' - 1, by omega⟩
    rw [List.append_nil] at t1
    refine tStop ht t1 (fun z => by have := hp 25 z; omega) j0 j1 (fun r v v1 v2 => ⟨?_, fr_trans t2 v2⟩)
    rw [hC] at v1
    exact v1
