/-! ===== names, in both ===== -/
theorem nmV_ps {l : Int → Int} : ∀ n : Nat, (∀ k : Int, 0 ≤ k → k < (n : Int) → 1 ≤ l k ∧ l k ≤ 26) → 0 ≤ nmV l n ∧ (1 ≤ n → 1 ≤ nmV l n) := by
  intro n
  induction n with
  | zero => intro _; exact ⟨by show (0 : Int) ≤ 0; omega, fun h => by omega⟩
  | succ n ih =>
    intro h
    have h1 := ih (fun k a b => h k a (by omega))
    have h2 := h (n : Int) (by omega) (by omega)
    show 0 ≤ 27 * nmV l n + l (n : Int) ∧ (_ → 1 ≤ 27 * nmV l n + l (n : Int))
    exact ⟨by omega, fun _ => by omega⟩
theorem nmV_inj {l l' : Int → Int} : ∀ (n n' : Nat), (∀ k : Int, 0 ≤ k → k < (n : Int) → 1 ≤ l k ∧ l k ≤ 26) → (∀ k : Int, 0 ≤ k → k < (n' : Int) → 1 ≤ l' k ∧ l' k ≤ 26) → nmV l n = nmV l' n' → n = n' ∧ ∀ k : Int, 0 ≤ k → k < (n : Int) → l k = l' k := by
  intro n
  induction n with
  | zero =>
    intro n' _ h' e
    have := (nmV_ps n' h').2
    have e : (0 : Int) = nmV l' n' := e
    by_cases c : n' = 0
    · exact ⟨c.symm, fun k a b => by omega⟩
    · have := this (by omega)
      omega
  | succ n ih =>
    intro n' h h' e
    cases n' with
    | zero =>
      have := (nmV_ps (n + 1) h).2 (by omega)
      have e : nmV l (n + 1) = 0 := e
      omega
    | succ n' =>
      have a1 := h (n : Int) (by omega) (by omega)
      have a2 := h' (n' : Int) (by omega) (by omega)
      have e : 27 * nmV l n + l (n : Int) = 27 * nmV l' n' + l' (n' : Int) := e
      obtain ⟨e1, e2⟩ := ih n' (fun k a b => h k a (by omega)) (fun k a b => h' k a (by omega)) (by omega)
      subst e1
      refine ⟨rfl, fun k k0 k1 => ?_⟩
      by_cases d : k = (n : Int)
      · rw [d]; omega
      · exact e2 k k0 (by omega)
theorem nmV_congr {l l' : Int → Int} : ∀ n : Nat, (∀ k : Int, 0 ≤ k → k < (n : Int) → l k = l' k) → nmV l n = nmV l' n := by
  intro n
  induction n with
  | zero => intro _; rfl
  | succ n ih =>
    intro h
    show 27 * nmV l n + l (n : Int) = 27 * nmV l' n + l' (n : Int)
    rw [ih (fun k a b => h k a (by omega)), h (n : Int) (by omega) (by omega)]
/-- names are alike where their numbers are -/
theorem nmRel_inj {l l' : Int → Int} {v v' : Int} (h : nmRel l v) (h' : nmRel l' v') : (∀ k : Int, 0 ≤ k → k < 6 → l k = l' k) ↔ v = v' := by
  obtain ⟨n, n1, n6, a1, a2, a3⟩ := h
  obtain ⟨n', n1', n6', b1, b2, b3⟩ := h'
  constructor
  · intro e
    have en : n = n' := by
      by_cases c : n < n'
      · have x := a2 (n : Int) (by omega) (by omega)
        have y := b1 (n : Int) (by omega) (by omega)
        rw [e (n : Int) (by omega) (by omega)] at x
        omega
      · by_cases d : n' < n
        · have x := b2 (n' : Int) (by omega) (by omega)
          have y := a1 (n' : Int) (by omega) (by omega)
          rw [e (n' : Int) (by omega) (by omega)] at y
          omega
        · omega
    subst en
    rw [a3, b3]
    exact nmV_congr n (fun k k0 k1 => e k k0 (by omega))
  · intro e k k0 k6
    rw [a3, b3] at e
    obtain ⟨en, ek⟩ := nmV_inj n n' a1 b1 e
    subst en
    by_cases c : k < (n : Int)
    · exact ek k k0 c
    · rw [a2 k (by omega) k6, b2 k (by omega) k6]
/-- the own words: where the reference has them, and the class's number of them where it has one -/
def ownT : List (Nat × List Int) := wTab.take 30
def isOwn (g : Int → Int) (e F E : Int) : Bool := ownT.any fun q => isW g e F E q.2
/-- a name that is asked: a fault, or it and where one is behind it -/
def lxNm (g : Int → Int) (e F E : Int) : (Int × Int) ⊕ (Int × Int × Int) :=
  if tkK g e F E = 1 ∧ ¬ isOwn g e F E = true then (if 6 < tkB g e F - F then .inl (1, F + 6) else .inr (nmV (fun k => g (F + k) - 96) (tkB g e F - F).toNat, nxF g e F, nxE g e F E)) else .inl (1, F)
section
variable {g : Int → Int} {e F E : Int} {s : zS}
theorem lxNm_1 (h : ¬ (tkK g e F E = 1 ∧ ¬ isOwn g e F E = true)) : lxNm g e F E = .inl (1, F) := if_neg h
theorem lxNm_6 (h : tkK g e F E = 1 ∧ ¬ isOwn g e F E = true) (h6 : 6 < tkB g e F - F) : lxNm g e F E = .inl (1, F + 6) := by unfold lxNm; rw [if_pos h, if_pos h6]
theorem lxNm_n (h : tkK g e F E = 1 ∧ ¬ isOwn g e F E = true) (h6 : ¬ 6 < tkB g e F - F) : lxNm g e F E = .inr (nmV (fun k => g (F + k) - 96) (tkB g e F - F).toNat, nxF g e F, nxE g e F E) := by unfold lxNm; rw [if_pos h, if_neg h6]
theorem word_let (hW : lxW g e F E) (h : tkK g e F E = 1) {i : Int} (h0 : F ≤ i) (h1 : i < tkB g e F) : 97 ≤ g i ∧ g i ≤ 122 := by
  obtain ⟨k1, k2, k3⟩ := tkK_1 h
  rw [tkB_1 k1 (Or.inl k2), k2] at h1
  exact kB_1.mp ((lxS_p (g := g) (k := 1) hW.2.1).2.2.1 i h0 h1)
theorem word_end (hW : lxW g e F E) (h : tkK g e F E = 1) (h1 : tkB g e F < e) : ¬ (97 ≤ g (tkB g e F) ∧ g (tkB g e F) ≤ 122) := by
  obtain ⟨k1, k2, k3⟩ := tkK_1 h
  rw [tkB_1 k1 (Or.inl k2), k2] at h1 ⊢
  exact fun z => (lxS_p (g := g) (k := 1) hW.2.1).2.2.2 h1 (kB_1.mpr z)
/-- the class's list of words with blanks behind them, from a place in one on -/
def owS (g : Int → Int) (F B : Int) : List Int → Int → Bool
  | [], _ => false
  | c :: cs, a => if c = 32 then (if a = B - F then true else owS g F B cs 0) else if a = -1 then owS g F B cs (-1) else if F + a < B ∧ g (F + a) = c then owS g F B cs (a + 1) else owS g F B cs (-1)
theorem owS_no {B : Int} : ∀ (w : List Int) (rest : List Int), (∀ c ∈ w, c ≠ 32) → F ≤ B → owS g F B (w ++ 32 :: rest) (-1) = owS g F B rest 0 := by
  intro w
  induction w with
  | nil =>
    intro rest _ hB
    show (if (32 : Int) = 32 then (if (-1 : Int) = B - F then true else owS g F B rest 0) else _) = _
    rw [if_pos rfl, if_neg (by omega)]
  | cons c w ih =>
    intro rest h hB
    show (if c = 32 then _ else if (-1 : Int) = -1 then owS g F B (w ++ 32 :: rest) (-1) else _) = _
    rw [if_neg (h c (List.mem_cons_self ..)), if_pos rfl]
    exact ih rest (fun x hx => h x (List.mem_cons_of_mem _ hx)) hB
theorem owS_w {B : Int} : ∀ (w : List Int) (rest : List Int) (a : Int), (∀ c ∈ w, c ≠ 32) → F ≤ B → 0 ≤ a → F + a ≤ B → owS g F B (w ++ 32 :: rest) a = ((decide (B = F + a + (w.length : Int)) && lxE g (F + a) w) || owS g F B rest 0) := by
  intro w
  induction w with
  | nil =>
    intro rest a _ hB a0 a1
    show (if (32 : Int) = 32 then (if a = B - F then true else owS g F B rest 0) else _) = ((decide (B = F + a + 0) && true) || owS g F B rest 0)
    rw [if_pos rfl]
    by_cases c : a = B - F
    · rw [if_pos c, decide_eq_true (by omega : B = F + a + 0)]; rfl
    · rw [if_neg c, decide_eq_false (by omega : ¬ B = F + a + 0)]; rfl
  | cons c w ih =>
    intro rest a h hB a0 a1
    show (if c = 32 then _ else if a = -1 then _ else if F + a < B ∧ g (F + a) = c then owS g F B (w ++ 32 :: rest) (a + 1) else owS g F B (w ++ 32 :: rest) (-1)) = ((decide (B = F + a + ((c :: w).length : Int)) && (decide (g (F + a) = c) && lxE g (F + a + 1) w)) || owS g F B rest 0)
    rw [if_neg (h c (List.mem_cons_self ..)), if_neg (by omega)]
    by_cases d : F + a < B ∧ g (F + a) = c
    · rw [if_pos d, ih rest (a + 1) (fun x hx => h x (List.mem_cons_of_mem _ hx)) hB (by omega) (by omega), decide_eq_true d.2, show F + (a + 1) = F + a + 1 by omega, List.length_cons, show F + a + 1 + (w.length : Int) = F + a + ((w.length + 1 : Nat) : Int) by omega, Bool.true_and]
    · rw [if_neg d, owS_no w rest (fun x hx => h x (List.mem_cons_of_mem _ hx)) hB]
      by_cases x : g (F + a) = c
      · rw [List.length_cons, decide_eq_false (by intro y; exact d ⟨by omega, x⟩)]; rfl
      · rw [decide_eq_false x, Bool.false_and, Bool.and_false]; rfl
/-- words, each with a blank behind it -/
def catW : List (List Int) → List Int
  | [] => []
  | w :: ws => w ++ 32 :: catW ws
theorem owS_cat {B : Int} (hB : F ≤ B) : ∀ ws : List (List Int), (∀ w ∈ ws, ∀ c ∈ w, c ≠ 32) → owS g F B (catW ws) 0 = ws.any fun w => decide (B = F + (w.length : Int)) && lxE g F w := by
  intro ws
  induction ws with
  | nil => intro _; rfl
  | cons w ws ih =>
    intro h
    show owS g F B (w ++ 32 :: catW ws) 0 = ((decide (B = F + (w.length : Int)) && lxE g F w) || ws.any _)
    rw [owS_w w (catW ws) 0 (h w (List.mem_cons_self ..)) hB (by omega) (by omega), ih (fun x hx => h x (List.mem_cons_of_mem _ hx)), show F + 0 = F by omega]
def own1 : List (List Int) := (wTab.take 13).map Prod.snd
def own2 : List (List Int) := ((wTab.take 30).drop 13).map Prod.snd
theorem own1_s : sL 1 = catW own1 := by decide
theorem own2_s : sL 2 = catW own2 := by decide
theorem own_no : (∀ w ∈ own1, ∀ c ∈ w, c ≠ 32) ∧ ∀ w ∈ own2, ∀ c ∈ w, c ≠ 32 := by decide
theorem isOwn_eq (h : tkK g e F E = 1) : isOwn g e F E = (owS g F (tkB g e F) (sL 1) 0 || owS g F (tkB g e F) (sL 2) 0) ∨ ¬ F ≤ tkB g e F := by
  by_cases hB : F ≤ tkB g e F
  · left
    rw [own1_s, own2_s, owS_cat hB own1 own_no.1, owS_cat hB own2 own_no.2, ← List.any_append]
    have e1 : own1 ++ own2 = ownT.map Prod.snd := by decide
    rw [e1, List.any_map]
    unfold isOwn isW
    rw [decide_eq_true h]
    simp only [Bool.true_and]
    rfl
  · exact Or.inr hB
theorem e85_4 (ht : tOk g e) (hW : lxW g e F E) (h : cLx g e F E s) {k : Nat} : ∀ (n j i : Nat) (a : Int), i + j = (sL k).length → j < n → -1 ≤ a → a ≤ (i : Int) → (sL k).length ≤ 200 → m85_4 n k a (i : Int) s = some (if owS g F (tkB g e F) ((sL k).drop i) a = true then 1 else 0, s) := by
  have hB := tkB_in hW
  have hle := ht.2.1
  have hF0 := hW.1
  intro n
  induction n with
  | zero => intro j i a _ h; omega
  | succ n ih =>
    intro j i a hij hj a0 a1 h200
    rw [m85_4, oV_eq, sL_len]
    cases j with
    | zero =>
      rw [if_neg (by omega), List.drop_of_length_le (by omega)]
      rfl
    | succ j =>
      have hi : i < (sL k).length := by omega
      have e0 : (sL k).getD i 0 = (sL k)[i] := by rw [List.getD_eq_getElem?_getD, List.getElem?_eq_getElem hi]; rfl
      rw [if_pos (by omega)]
      unfold oW
      rw [if_pos ⟨by omega, by omega⟩, oV_eq, sL_at, e0, List.drop_eq_getElem_cons hi]
      generalize (sL k)[i] = c
      have nx : ∀ a', -1 ≤ a' → a' ≤ (i : Int) + 1 → m85_4 n k a' ((i : Int) + 1) s = some (if owS g F (tkB g e F) ((sL k).drop (i + 1)) a' = true then 1 else 0, s) := by
        intro a' x y
        have := ih j (i + 1) a' (by omega) (by omega) x (by omega) h200
        rw [show ((i + 1 : Nat) : Int) = (i : Int) + 1 by omega] at this
        exact this
      show _ = some (if (if c = 32 then (if a = tkB g e F - F then true else owS g F (tkB g e F) ((sL k).drop (i + 1)) 0) else if a = -1 then owS g F (tkB g e F) ((sL k).drop (i + 1)) (-1) else if F + a < tkB g e F ∧ g (F + a) = c then owS g F (tkB g e F) ((sL k).drop (i + 1)) (a + 1) else owS g F (tkB g e F) ((sL k).drop (i + 1)) (-1)) = true then 1 else 0, s)
      by_cases c32 : c = 32
      · rw [if_pos c32, if_pos c32, oV_eq, h.2.2.2, oV_eq, h.2.2.1, oZ_pos (by omega) (by omega)]
        by_cases d : a = tkB g e F - F
        · rw [if_pos d, if_pos d, if_pos rfl]
        · rw [if_neg d, if_neg d, oZ_pos (by omega) (by omega), nx 0 (by omega) (by omega)]
      · rw [if_neg c32, if_neg c32]
        by_cases d : a = -1
        · rw [if_pos d, if_pos d, oZ_pos (by omega) (by omega), nx (-1) (by omega) (by omega)]
        · rw [if_neg d, if_neg d, oV_eq, h.2.2.1, oZ_pos (by omega) (by omega), oV_eq, h.2.2.2]
          by_cases x : F + a < tkB g e F
          · rw [if_pos x, oV_eq, oZ_pos (by omega) (by omega), oX_pos (by omega) (by omega), oV_eq, h.1.2.1 _ (by omega) (by omega)]
            by_cases y : g (F + a) = c
            · rw [if_pos y, if_pos (show F + a < tkB g e F ∧ g (F + a) = c from ⟨x, y⟩), oZ_pos (by omega) (by omega), oZ_pos (by omega) (by omega), nx (a + 1) (by omega) (by omega)]
            · rw [if_neg y, if_neg (show ¬ (F + a < tkB g e F ∧ g (F + a) = c) from fun z => y z.2), oZ_pos (by omega) (by omega), nx (-1) (by omega) (by omega)]
          · rw [if_neg x, if_neg (show ¬ (F + a < tkB g e F ∧ g (F + a) = c) from fun z => x z.1), oZ_pos (by omega) (by omega), nx (-1) (by omega) (by omega)]
theorem e85 (ht : tOk g e) (hW : lxW g e F E) (h : cLx g e F E s) {k : Nat} (h200 : (sL k).length ≤ 200) : m85 k s = some (if owS g F (tkB g e F) (sL k) 0 = true then 1 else 0, s) := by
  have := e85_4 ht hW h (k := k) zFu (sL k).length 0 0 (by omega) (by unfold zFu; omega) (by omega) (by omega) h200
  rw [List.drop_zero] at this
  exact this
/-- the class spells a name -/
def cNam (g : Int → Int) (e F : Int) (s : zS) (x : (Int × Int) ⊕ (Int × Int × Int)) (r : Int) (t : zS) : Prop := match x with
  | .inl q => r = 0 ∧ t.1 1 5 = q.1 ∧ t.1 1 6 = q.2 ∧ Fr (fun a k => cpF a k ∨ a = 3) s t
  | .inr q => r = 1 ∧ nmRel (fun k => t.1 3 k) q.1 ∧ Fr (fun a _ => a = 3) s t
theorem p84 (ht : tOk g e) (hW : lxW g e F E) (h : cLx g e F E s) : Ok (m84 s) (cNam g e F s (lxNm g e F E)) := by
  have hB := tkB_in hW
  have hle := ht.2.1
  have hF0 := hW.1
  have no : ¬ (tkK g e F E = 1 ∧ ¬ isOwn g e F E = true) → Ok (oC (m78 s) fun z31 s32 => oD z31 (some (z31, s32))) (cNam g e F s (lxNm g e F E)) := by
    intro z
    rw [lxNm_1 z]
    refine k_c (p78 h.2.2.1) ?_
    rintro r t ⟨rfl, t1, t2, t3⟩
    exact k_d (Or.inl rfl) (k_r ⟨rfl, t1, t2, fr_mono (fun a k z => Or.inl (by omega)) t3⟩)
  unfold m84
  refine k_v ?_
  rw [h.2.1]
  by_cases k1 : tkK g e F E = 1
  · have own := (isOwn_eq k1).resolve_right (fun z => z hB.1)
    refine k_p k1 (k_e (e85 ht hW h (by decide)) ?_)
    by_cases o1 : owS g F (tkB g e F) (sL 1) 0 = true
    · rw [if_pos o1]
      exact k_q (by decide) (no (fun z => z.2 (by rw [own, o1]; rfl)))
    · rw [if_neg o1]
      refine k_p rfl (k_e (e85 ht hW h (by decide)) ?_)
      by_cases o2 : owS g F (tkB g e F) (sL 2) 0 = true
      · rw [if_pos o2]
        exact k_q (by decide) (no (fun z => z.2 (by rw [own, o2, Bool.or_true])))
      · rw [if_neg o2]
        have nown : ¬ isOwn g e F E = true := by
          rw [own]
          rw [Bool.not_eq_true] at o1 o2
          rw [o1, o2]
          decide
        refine k_p rfl (k_v (k_v ?_))
        rw [h.2.2.1, h.2.2.2]
        refine k_z (by omega) (by omega) (k_i (fun z => k_v ?_) (fun z => ?_))
        · refine k_z (by omega) (by omega) (k_c p77 ?_)
          rintro r t ⟨rfl, t1, t2, t3⟩
          rw [lxNm_6 ⟨k1, nown⟩ z]
          exact k_d (Or.inl rfl) (k_r ⟨rfl, t1, t2, fr_mono (fun a k z => Or.inl (by omega)) t3⟩)
        · rw [lxNm_n ⟨k1, nown⟩ z]
          have hlt := hB.2.2 (tkK_1 k1).1
          have loop : ∀ (n j i : Nat) (u : zS), i + j = 6 → j < n → (∀ k : Int, 0 ≤ k → k < (i : Int) → u.1 3 k = if F + k < tkB g e F then g (F + k) - 96 else 0) → Fr (fun a _ => a = 3) s u → Ok (m84_60 n (i : Int) u) (fun r t => r = 1 ∧ (∀ k : Int, 0 ≤ k → k < 6 → t.1 3 k = if F + k < tkB g e F then g (F + k) - 96 else 0) ∧ Fr (fun a _ => a = 3) s t) := by
            intro n
            induction n with
            | zero => intro j i u _ h; omega
            | succ n ih =>
              intro j i u hij hj hu fu
              rw [m84_60]
              cases j with
              | zero => exact k_q (by omega) (k_r ⟨rfl, fun k k0 k1 => hu k k0 (by omega), fu⟩)
              | succ j =>
                refine k_p (by omega) (k_v ?_)
                rw [fu.1 1 4 (by omega), h.2.2.1]
                refine k_z (by omega) (by omega) (k_v ?_)
                rw [fu.1 1 8 (by omega), h.2.2.2]
                have nx : ∀ x, x = (if F + (i : Int) < tkB g e F then g (F + (i : Int)) - 96 else 0) → Ok (m84_60 n ((i : Int) + 1) (sI u 3 (i : Int) x)) (fun r t => r = 1 ∧ (∀ k : Int, 0 ≤ k → k < 6 → t.1 3 k = if F + k < tkB g e F then g (F + k) - 96 else 0) ∧ Fr (fun a _ => a = 3) s t) := by
                  intro x hx
                  have := ih j (i + 1) (sI u 3 (i : Int) x) (by omega) (by omega) (fun k k0 k1 => by
                    by_cases d : k = (i : Int)
                    · rw [d, sI_e, hx]
                    · rw [sI_k d]; exact hu k k0 (by omega)) (fr_trans fu (fr_I rfl))
                  rw [show ((i + 1 : Nat) : Int) = (i : Int) + 1 by omega] at this
                  exact this
                by_cases c : F + (i : Int) < tkB g e F
                · have hlet := word_let hW k1 (i := F + (i : Int)) (by omega) c
                  refine k_p c (k_v (k_z (by omega) (by omega) (k_x (by omega) (by omega) (k_v ?_))))
                  rw [fu.1 2 _ (by omega), h.1.2.1 _ (by omega) (by omega)]
                  refine k_z (by omega) (by omega) (k_z (by omega) (by omega) (k_x (by omega) (by omega) (k_v (k_z (by omega) (by omega) (nx _ ?_)))))
                  rw [if_pos c]; omega
                · refine k_q c (k_x (by omega) (by omega) (k_v (k_z (by omega) (by omega) (nx _ ?_))))
                  rw [if_neg c]
          refine k_m (loop zFu 6 0 s (by omega) (by unfold zFu; omega) (fun k k0 k1 => by omega) fr_refl) ?_
          rintro r t ⟨r1, t1, t2⟩
          refine ⟨r1, ⟨(tkB g e F - F).toNat, by omega, by omega, fun k k0 kx => ?_, fun k k0 kx => ?_, ?_⟩, t2⟩
          · show 1 ≤ t.1 3 k ∧ t.1 3 k ≤ 26
            rw [t1 k k0 (by omega), if_pos (by omega)]
            have := word_let hW k1 (i := F + k) (by omega) (by omega)
            omega
          · show t.1 3 k = 0
            rw [t1 k (by omega) kx, if_neg (by omega)]
          · refine nmV_congr _ (fun k k0 k1 => ?_)
            show g (F + k) - 96 = t.1 3 k
            rw [t1 k k0 (by omega), if_pos (by omega)]
  · exact k_q k1 (no (fun z => k1 z.1))
end
