/-! ===== a SUM, a TEST read: what both do ===== -/
/-- a fault and its place, or where one is behind it and the codes -/
abbrev qR : Type := (Int × Int) ⊕ (Int × Int × List Int)
def qB (x : qR) (k : Int → Int → List Int → qR) : qR := match x with
  | .inl q => .inl q
  | .inr q => k q.1 q.2.1 q.2.2
def qO (g : Int → Int) (e o F E : Int) (k : Int → Int → qR) : qR := if o < 6 then k (nxF g e F) (nxE g e F E) else .inl (4, F)
def qS (g : Int → Int) (e c F E : Int) (k : Int → Int → qR) : qR := if F < e ∧ g F = c then k (nxF g e F) (nxE g e F E) else .inl (1, F)
def qJ (g : Int → Int) (e lv F E : Int) : Int := if lv = 0 then (if isW g e F E (sL 28) = true then 11 else -1) else if lv = 1 then (if isW g e F E (sL 29) = true then 10 else -1) else if lv = 3 then (if F < e ∧ g F = 43 then 1 else if F < e ∧ g F = 45 then 2 else -1) else (if F < e ∧ g F = 42 then 3 else if F < e ∧ g F = 47 then 4 else -1)
def qL (g : Int → Int) (e : Int) (rd : Int → Int → qR) (lv : Int) : Nat → Int → Int → List Int → qR
  | 0, F, E, l => .inr (F, E, l)
  | n + 1, F, E, l => if qJ g e lv F E = -1 then .inr (F, E, l) else qB (rd (nxF g e F) (nxE g e F E)) fun F' E' l' => qL g e rd lv n F' E' (l ++ (l' ++ [qJ g e lv F E]))
def qF (g : Int → Int) (e : Int) (ask : Bool) (F E : Int) : Int := if isW g e F E (sL 19) = true then 0 else if isW g e F E (sL 20) = true then 1 else if isW g e F E (sL 21) = true then 2 else if isW g e F E (sL 22) = true then 3 else if isW g e F E (sL 23) = true then 4 else if ask = true then (if isW g e F E (sL 24) = true then 5 else if isW g e F E (sL 25) = true then 6 else if isW g e F E (sL 26) = true then 7 else if isW g e F E (sL 27) = true then 8 else -1) else -1
def qC (g : Int → Int) (e : Int) (rd : Int → Int → Int → Int → qR) (act o F E : Int) : qR := if nxF g e F < e ∧ g (nxF g e F) = 40 then qO g e o (nxF g e F) (nxE g e F E) (fun F2 E2 => qB (rd 3 (o + 1) F2 E2) fun F3 E3 l => qS g e 44 F3 E3 fun F4 E4 => qB (rd 3 (o + 1) F4 E4) fun F5 E5 l' => qS g e 41 F5 E5 fun F6 E6 => .inr (F6, E6, l ++ (l' ++ [act]))) else .inl (1, nxF g e F)
def qN (x : (Int × Int) ⊕ (Int × Int × Int)) : qR := match x with
  | .inl q => .inl q
  | .inr q => .inr (q.2.1, q.2.2, [1000 + q.1])
/-- a PART -/
def qP (g : Int → Int) (e : Int) (ask : Bool) (rd : Int → Int → Int → Int → qR) (o F E : Int) : qR :=
  if tkK g e F E = 2 then qN (lxNum g e F E 0 9999)
  else if F < e ∧ g F = 40 then qO g e o F E (fun F1 E1 => qB (rd 3 (o + 1) F1 E1) fun F2 E2 l => qS g e 41 F2 E2 fun F3 E3 => .inr (F3, E3, l))
  else if isW g e F E (sL 16) = true then qC g e rd 5 o F E
  else if isW g e F E (sL 17) = true then qC g e rd 6 o F E
  else if ask = true ∧ isW g e F E (sL 18) = true then qO g e o F E (fun F1 E1 => qB (rd 5 (o + 1) F1 E1) fun F2 E2 l => .inr (F2, E2, l ++ [60]))
  else if qF g e ask F E = -1 then .inl (1, F) else .inr (nxF g e F, nxE g e F E, [40 + qF g e ask F E])
def qX (g : Int → Int) (e F : Int) : Int := if F < e ∧ g F = 60 then 7 else if F < e ∧ g F = 62 then 8 else if F < e ∧ g F = 61 then 9 else -1
/-- a FACT -/
def qK (g : Int → Int) (e : Int) (rd : Int → Int → Int → Int → qR) (o F E : Int) : qR :=
  if isW g e F E (sL 14) = true then qO g e o F E (fun F1 E1 => qB (rd 2 (o + 1) F1 E1) fun F2 E2 l => .inr (F2, E2, l ++ [12]))
  else if F < e ∧ g F = 91 then qO g e o F E (fun F1 E1 => qB (rd 0 (o + 1) F1 E1) fun F2 E2 l => qS g e 93 F2 E2 fun F3 E3 => .inr (F3, E3, l))
  else if isW g e F E (sL 15) = true then .inr (nxF g e F, nxE g e F E, [13])
  else qB (rd 3 o F E) fun F1 E1 l => if qX g e F1 = -1 then .inl (1, F1) else qB (rd 3 o (nxF g e F1) (nxE g e F1 E1)) fun F2 E2 l' => .inr (F2, E2, l ++ (l' ++ [qX g e F1]))
def qT (g : Int → Int) (e : Int) (ask : Bool) (rd : Int → Int → Int → Int → qR) (lv o F E : Int) : qR := if lv = 2 then qK g e rd o F E else if lv < 5 then qB (rd (lv + 1) o F E) fun F1 E1 l => qL g e (rd (lv + 1) o) lv 1600 F1 E1 l else qP g e ask rd o F E
def qM (g : Int → Int) (e : Int) (ask : Bool) : Nat → Int → Int → Int → Int → qR
  | 0 => fun _ _ _ _ => .inl (0, 0)
  | n + 1 => qT g e ask (qM g e ask n)
section
variable {g : Int → Int} {e F E o c : Int} {x : qR} {q : Int × Int × List Int}
theorem nx_any (hW : lxW g e F E) (hF : F < e) : lxW g e (nxF g e F) (nxE g e F E) ∧ F < nxF g e F := by
  have hB := tkB_in hW
  have hp := lxS_p (g := g) (k := 4) hB.2.1
  have h1 := hp.1
  have h2 := hB.2.2 hF
  have h0 := hW.1
  have h3 := hW.2.2.1
  refine ⟨⟨?_, hp.2.1, ?_, hp.2.2.2⟩, ?_⟩
  · unfold nxF; omega
  · unfold nxF nxE; split <;> omega
  · unfold nxF; omega
theorem qB_r {k : Int → Int → List Int → qR} (h : qB x k = .inr q) : ∃ y, x = .inr y ∧ k y.1 y.2.1 y.2.2 = .inr q := by
  rcases x with y | y
  · exact absurd h (by unfold qB; simp)
  · exact ⟨y, rfl, h⟩
theorem qO_r {k : Int → Int → qR} (h : qO g e o F E k = .inr q) : o < 6 ∧ k (nxF g e F) (nxE g e F E) = .inr q := by
  unfold qO at h
  by_cases z : o < 6
  · rw [if_pos z] at h; exact ⟨z, h⟩
  · rw [if_neg z] at h; exact absurd h (by simp)
theorem qS_r {k : Int → Int → qR} (h : qS g e c F E k = .inr q) : (F < e ∧ g F = c) ∧ k (nxF g e F) (nxE g e F E) = .inr q := by
  unfold qS at h
  by_cases z : F < e ∧ g F = c
  · rw [if_pos z] at h; exact ⟨z, h⟩
  · rw [if_neg z] at h; exact absurd h (by simp)
theorem isW_F {l : List Int} (h : isW g e F E l = true) : F < e := (tkK_1 (isW_t h).1).1
theorem qJ_F {lv : Int} (h : qJ g e lv F E ≠ -1) : F < e := by
  apply Classical.byContradiction
  intro z
  apply h
  have w : ∀ l, ¬ isW g e F E l = true := fun l y => z (isW_F y)
  have f : ∀ d, ¬ (F < e ∧ g F = d) := fun d y => z y.1
  unfold qJ
  simp only [w, f, Bool.false_eq_true, if_false]
  repeat' split
  all_goals rfl
theorem qF_F {ask : Bool} (h : qF g e ask F E ≠ -1) : F < e := by
  apply Classical.byContradiction
  intro z
  apply h
  have w : ∀ l, ¬ isW g e F E l = true := fun l y => z (isW_F y)
  unfold qF
  simp only [w, Bool.false_eq_true, if_false]
  split <;> rfl
theorem qX_F (h : qX g e F ≠ -1) : F < e := by
  apply Classical.byContradiction
  intro z
  apply h
  have f : ∀ d, ¬ (F < e ∧ g F = d) := fun d y => z y.1
  unfold qX
  simp only [f, if_false]
/-- codes are fewer than bytes -/
def qLen (g : Int → Int) (e F E : Int) (q : Int × Int × List Int) : Prop := lxW g e q.1 q.2.1 ∧ F + (q.2.2.length : Int) ≤ q.1 ∧ 1 ≤ q.2.2.length
theorem qL_len {rd : Int → Int → qR} {lv : Int} (hr : ∀ F E q, rd F E = .inr q → lxW g e F E → qLen g e F E q) : ∀ (n : Nat) (F E : Int) (l : List Int) (F0 : Int) (q : Int × Int × List Int), lxW g e F E → F0 + (l.length : Int) ≤ F → 1 ≤ l.length → qL g e rd lv n F E l = .inr q → lxW g e q.1 q.2.1 ∧ F0 + (q.2.2.length : Int) ≤ q.1 ∧ 1 ≤ q.2.2.length := by
  intro n
  induction n with
  | zero =>
    intro F E l F0 q hW hl h1 h
    unfold qL at h
    cases h
    exact ⟨hW, hl, h1⟩
  | succ n ih =>
    intro F E l F0 q hW hl h1 h
    unfold qL at h
    by_cases z : qJ g e lv F E = -1
    · rw [if_pos z] at h
      cases h
      exact ⟨hW, hl, h1⟩
    · rw [if_neg z] at h
      obtain ⟨y, y1, y2⟩ := qB_r h
      have hx := nx_any hW (qJ_F z)
      have hy := hr _ _ _ y1 hx.1
      have a2 := hy.2.1
      refine ih y.1 y.2.1 _ F0 q hy.1 ?_ ?_ y2
      · simp only [List.length_append, List.length_singleton]
        omega
      · simp only [List.length_append, List.length_singleton]
        omega
theorem qM_len {ask : Bool} : ∀ (n : Nat) (lv o F E : Int) (q : Int × Int × List Int), qM g e ask n lv o F E = .inr q → lxW g e F E → qLen g e F E q := by
  intro n
  induction n with
  | zero => intro lv o F E q h; exact absurd h (by unfold qM; simp)
  | succ n ih =>
    intro lv o F E q h hW
    have h : qT g e ask (qM g e ask n) lv o F E = .inr q := h
    have choice : ∀ act, F < e → qC g e (qM g e ask n) act o F E = .inr q → qLen g e F E q := by
      intro act hF h
      have hx := nx_any hW hF
      unfold qC at h
      by_cases z : nxF g e F < e ∧ g (nxF g e F) = 40
      · rw [if_pos z] at h
        obtain ⟨_, h⟩ := qO_r h
        have hx2 := nx_any hx.1 z.1
        obtain ⟨y, y1, h⟩ := qB_r h
        have hy := ih _ _ _ _ _ y1 hx2.1
        obtain ⟨z3, h⟩ := qS_r h
        have hx3 := nx_any hy.1 z3.1
        obtain ⟨y', y1', h⟩ := qB_r h
        have hy' := ih _ _ _ _ _ y1' hx3.1
        obtain ⟨z4, h⟩ := qS_r h
        have hx4 := nx_any hy'.1 z4.1
        cases h
        have := hy.2.1
        have := hy'.2.1
        refine ⟨hx4.1, ?_, ?_⟩
        · simp only [List.length_append, List.length_singleton]
          omega
        · simp only [List.length_append, List.length_singleton]
          omega
      · rw [if_neg z] at h; exact absurd h (by simp)
    unfold qT at h
    by_cases c2 : lv = 2
    · rw [if_pos c2] at h
      unfold qK at h
      by_cases d1 : isW g e F E (sL 14) = true
      · rw [if_pos d1] at h
        have hx := nx_any hW (isW_F d1)
        obtain ⟨_, h⟩ := qO_r h
        obtain ⟨y, y1, h⟩ := qB_r h
        have hy := ih _ _ _ _ _ y1 hx.1
        cases h
        have := hy.2.1
        refine ⟨hy.1, ?_, ?_⟩ <;> simp only [List.length_append, List.length_singleton] <;> omega
      · rw [if_neg d1] at h
        by_cases d2 : F < e ∧ g F = 91
        · rw [if_pos d2] at h
          have hx := nx_any hW d2.1
          obtain ⟨_, h⟩ := qO_r h
          obtain ⟨y, y1, h⟩ := qB_r h
          have hy := ih _ _ _ _ _ y1 hx.1
          obtain ⟨z3, h⟩ := qS_r h
          have hx3 := nx_any hy.1 z3.1
          cases h
          have := hy.2.1
          exact ⟨hx3.1, by show F + (y.2.2.length : Int) ≤ nxF g e y.1; omega, hy.2.2⟩
        · rw [if_neg d2] at h
          by_cases d3 : isW g e F E (sL 15) = true
          · rw [if_pos d3] at h
            have hx := nx_any hW (isW_F d3)
            cases h
            exact ⟨hx.1, by show F + 1 ≤ nxF g e F; omega, Nat.le_refl 1⟩
          · rw [if_neg d3] at h
            obtain ⟨y, y1, h⟩ := qB_r h
            have hy := ih _ _ _ _ _ y1 hW
            by_cases d4 : qX g e y.1 = -1
            · rw [if_pos d4] at h; exact absurd h (by simp)
            · rw [if_neg d4] at h
              have hx := nx_any hy.1 (qX_F d4)
              obtain ⟨y', y1', h⟩ := qB_r h
              have hy' := ih _ _ _ _ _ y1' hx.1
              cases h
              have := hy.2.1
              have := hy'.2.1
              refine ⟨hy'.1, ?_, ?_⟩ <;> simp only [List.length_append, List.length_singleton] <;> omega
    · rw [if_neg c2] at h
      by_cases c5 : lv < 5
      · rw [if_pos c5] at h
        obtain ⟨y, y1, h⟩ := qB_r h
        have hy := ih _ _ _ _ _ y1 hW
        exact qL_len (fun F E q h hW => ih _ _ _ _ _ h hW) 1600 _ _ _ F q hy.1 hy.2.1 hy.2.2 h
      · rw [if_neg c5] at h
        unfold qP at h
        by_cases d1 : tkK g e F E = 2
        · rw [if_pos d1] at h
          have hx := nx_any hW (tkK_2 d1).1
          generalize hz : lxNum g e F E 0 9999 = z at h
          rcases z with z | z
          · exact absurd h (by unfold qN; simp)
          · have hi := lxNum_in hW hz
            cases h
            refine ⟨?_, ?_, Nat.le_refl 1⟩
            · show lxW g e z.2.1 z.2.2
              rw [hi.2.2.2.2.2.2.1, hi.2.2.2.2.2.2.2]; exact hx.1
            · show F + 1 ≤ z.2.1
              omega
        · rw [if_neg d1] at h
          by_cases d2 : F < e ∧ g F = 40
          · rw [if_pos d2] at h
            have hx := nx_any hW d2.1
            obtain ⟨_, h⟩ := qO_r h
            obtain ⟨y, y1, h⟩ := qB_r h
            have hy := ih _ _ _ _ _ y1 hx.1
            obtain ⟨z3, h⟩ := qS_r h
            have hx3 := nx_any hy.1 z3.1
            cases h
            have := hy.2.1
            exact ⟨hx3.1, by show F + (y.2.2.length : Int) ≤ nxF g e y.1; omega, hy.2.2⟩
          · rw [if_neg d2] at h
            by_cases d3 : isW g e F E (sL 16) = true
            · rw [if_pos d3] at h
              exact choice 5 (isW_F d3) h
            · rw [if_neg d3] at h
              by_cases d4 : isW g e F E (sL 17) = true
              · rw [if_pos d4] at h
                exact choice 6 (isW_F d4) h
              · rw [if_neg d4] at h
                by_cases d5 : ask = true ∧ isW g e F E (sL 18) = true
                · rw [if_pos d5] at h
                  have hx := nx_any hW (isW_F d5.2)
                  obtain ⟨_, h⟩ := qO_r h
                  obtain ⟨y, y1, h⟩ := qB_r h
                  have hy := ih _ _ _ _ _ y1 hx.1
                  cases h
                  have := hy.2.1
                  refine ⟨hy.1, ?_, ?_⟩ <;> simp only [List.length_append, List.length_singleton] <;> omega
                · rw [if_neg d5] at h
                  by_cases d6 : qF g e ask F E = -1
                  · rw [if_pos d6] at h; exact absurd h (by simp)
                  · rw [if_neg d6] at h
                    have hx := nx_any hW (qF_F d6)
                    cases h
                    exact ⟨hx.1, by show F + 1 ≤ nxF g e F; omega, Nat.le_refl 1⟩
end
