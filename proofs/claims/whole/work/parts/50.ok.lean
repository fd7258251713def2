/-! ===== runs that end well ===== -/
def Ok (x : Option (Int × zS)) (P : Int → zS → Prop) : Prop := ∃ r s, x = some (r, s) ∧ P r s
section
variable {P Q : Int → zS → Prop} {r : Int} {s : zS}
theorem k_r (h : P r s) : Ok (some (r, s)) P := ⟨r, s, rfl, h⟩
theorem k_z {x : Int} {k : Int → Option (Int × zS)} (h1 : -2147483648 ≤ x) (h2 : x ≤ 2147483647) (h : Ok (k x) P) : Ok (oZ x k) P := by
  unfold oZ; rw [if_pos ⟨h1, h2⟩]; exact h
theorem k_j {x : Int} {k : Int → Option (Int × zS)} (h1 : -9223372036854775808 ≤ x) (h2 : x ≤ 9223372036854775807) (h : Ok (k x) P) : Ok (oJ x k) P := by
  unfold oJ; rw [if_pos ⟨h1, h2⟩]; exact h
theorem k_x {i : Int} {n : Nat} {k : Option (Int × zS)} (h1 : 0 ≤ i) (h2 : i < (n : Int)) (h : Ok k P) : Ok (oX i n k) P := by
  unfold oX; rw [if_pos ⟨h1, h2⟩]; exact h
theorem k_w {i n : Int} {k : Option (Int × zS)} (h1 : 0 ≤ i) (h2 : i < n) (h : Ok k P) : Ok (oW i n k) P := by
  unfold oW; rw [if_pos ⟨h1, h2⟩]; exact h
theorem k_v {β : Type} {x : β} {k : β → Option (Int × zS)} (h : Ok (k x) P) : Ok (oV x k) P := h
theorem k_n {y : Int} {k : Option (Int × zS)} (h0 : y ≠ 0) (h : Ok k P) : Ok (oN y k) P := by
  unfold oN; rw [if_neg h0]; exact h
theorem k_d {x : Int} {k : Option (Int × zS)} (h0 : x = 0 ∨ x = 1) (h : Ok k P) : Ok (oD x k) P := by
  unfold oD; rw [if_pos h0]; exact h
theorem k_y {n1 n2 : Nat} {sp dp n : Int} {k : Option (Int × zS)} (h1 : 0 ≤ sp) (h2 : 0 ≤ dp) (h3 : 0 ≤ n) (h4 : sp + n ≤ (n1 : Int)) (h5 : dp + n ≤ (n2 : Int)) (h : Ok k P) : Ok (oY n1 n2 sp dp n k) P := by
  unfold oY; rw [if_pos ⟨h1, h2, h3, h4, h5⟩]; exact h
theorem k_c {x : Option (Int × zS)} {k : Int → zS → Option (Int × zS)} (hx : Ok x Q) (h : ∀ r s, Q r s → Ok (k r s) P) : Ok (oC x k) P := by
  obtain ⟨r, s, e, q⟩ := hx
  rw [e]
  exact h r s q
theorem k_e {x : Option (Int × zS)} {k : Int → zS → Option (Int × zS)} (hx : x = some (r, s)) (h : Ok (k r s) P) : Ok (oC x k) P := by
  rw [hx]; exact h
theorem k_i {c : Prop} [Decidable c] {x y : Option (Int × zS)} (h1 : c → Ok x P) (h2 : ¬ c → Ok y P) : Ok (if c then x else y) P := by
  by_cases h : c
  · rw [if_pos h]; exact h1 h
  · rw [if_neg h]; exact h2 h
theorem k_p {c : Prop} [Decidable c] {x y : Option (Int × zS)} (hc : c) (h : Ok x P) : Ok (if c then x else y) P := by
  rw [if_pos hc]; exact h
theorem k_q {c : Prop} [Decidable c] {x y : Option (Int × zS)} (hc : ¬ c) (h : Ok y P) : Ok (if c then x else y) P := by
  rw [if_neg hc]; exact h
theorem k_m {x : Option (Int × zS)} (h : Ok x Q) (hq : ∀ r s, Q r s → P r s) : Ok x P := by
  obtain ⟨r, s, e, q⟩ := h
  exact ⟨r, s, e, hq r s q⟩
theorem k_eq {x : Option (Int × zS)} (h : x = some (r, s)) (hp : P r s) : Ok x P := ⟨r, s, h, hp⟩
/-- which of them it is -/
theorem ok_eq {x : Option (Int × zS)} (h : Ok x (fun r' s' => r' = r ∧ s' = s)) : x = some (r, s) := by
  obtain ⟨a, b, e, q1, q2⟩ := h
  rw [e, q1, q2]
end
section
variable {s : zS} {a b a' : Nat} {k k' x sp dp n : Int} {q q' y : Nat}
theorem sI_e : (sI s a k x).1 a k = x := by simp [sI, zU]
theorem sI_a (h : a' ≠ a) : (sI s a k x).1 a' k' = s.1 a' k' := by simp [sI, zU, h]
theorem sI_k (h : k' ≠ k) : (sI s a k x).1 a' k' = s.1 a' k' := by simp [sI, zU, h]
theorem sI_if : (sI s a k x).1 a' k' = if a' = a ∧ k' = k then x else s.1 a' k' := rfl
theorem sI_21 : (sI s a k x).2.1 = s.2.1 := rfl
theorem sI_22 : (sI s a k x).2.2 = s.2.2 := rfl
theorem sI_2 : (sI s a k x).2 = s.2 := rfl
theorem sJ_1 : (sJ s a k x).1 = s.1 := rfl
theorem sJ_22 : (sJ s a k x).2.2 = s.2.2 := rfl
theorem sJ_e : (sJ s a k x).2.1 a k = x := by simp [sJ, zU]
theorem sJ_a (h : a' ≠ a) : (sJ s a k x).2.1 a' k' = s.2.1 a' k' := by simp [sJ, zU, h]
theorem sJ_k (h : k' ≠ k) : (sJ s a k x).2.1 a' k' = s.2.1 a' k' := by simp [sJ, zU, h]
theorem sJ_if : (sJ s a k x).2.1 a' k' = if a' = a ∧ k' = k then x else s.2.1 a' k' := rfl
theorem sM_1 : (sM s q y).1 = s.1 := rfl
theorem sM_21 : (sM s q y).2.1 = s.2.1 := rfl
theorem sM_e : (sM s q y).2.2 q = y := by simp [sM]
theorem sM_q (h : q' ≠ q) : (sM s q y).2.2 q' = s.2.2 q' := by simp [sM, h]
theorem sC_2 : (sC s a b sp dp n).2 = s.2 := rfl
theorem sC_21 : (sC s a b sp dp n).2.1 = s.2.1 := rfl
theorem sC_22 : (sC s a b sp dp n).2.2 = s.2.2 := rfl
theorem sC_a (h : a' ≠ b) : (sC s a b sp dp n).1 a' k = s.1 a' k := by simp [sC, h]
theorem sC_i (h1 : dp ≤ k) (h2 : k < dp + n) : (sC s a b sp dp n).1 b k = s.1 a (sp + (k - dp)) := by simp [sC, h1, h2]
theorem sC_o (h : k < dp ∨ dp + n ≤ k) : (sC s a b sp dp n).1 b k = s.1 b k := by
  have : ¬ (dp ≤ k ∧ k < dp + n) := by omega
  simp [sC, this]
end
theorem zFu_gt {n : Nat} (h : n ≤ 999999) : n < zFu := by unfold zFu; omega
/-- what is left as it was -/
def Fr (A : Nat → Int → Prop) (s t : zS) : Prop := (∀ a k, ¬ A a k → t.1 a k = s.1 a k) ∧ t.2.1 = s.2.1 ∧ t.2.2 = s.2.2
def FrJ (A : Nat → Int → Prop) (s t : zS) : Prop := (∀ a k, ¬ A a k → t.1 a k = s.1 a k ∧ t.2.1 a k = s.2.1 a k) ∧ t.2.2 = s.2.2
theorem fr_refl {A : Nat → Int → Prop} {s : zS} : Fr A s s := ⟨fun _ _ _ => rfl, rfl, rfl⟩
theorem fr_trans {A : Nat → Int → Prop} {s t u : zS} (h : Fr A s t) (h' : Fr A t u) : Fr A s u :=
  ⟨fun a k n => (h'.1 a k n).trans (h.1 a k n), h'.2.1.trans h.2.1, h'.2.2.trans h.2.2⟩
theorem fr_mono {A B : Nat → Int → Prop} {s t : zS} (hab : ∀ a k, A a k → B a k) (h : Fr A s t) : Fr B s t :=
  ⟨fun a k n => h.1 a k (fun q => n (hab a k q)), h.2⟩
theorem fr_I {A : Nat → Int → Prop} {s : zS} {a : Nat} {k x : Int} (h : A a k) : Fr A s (sI s a k x) := by
  refine ⟨fun a' k' n => ?_, rfl, rfl⟩
  by_cases e : a' = a ∧ k' = k
  · exact absurd (e.1 ▸ e.2 ▸ h) n
  · simp only [sI_if, if_neg e]
theorem fr_C {A : Nat → Int → Prop} {s : zS} {a b : Nat} {sp dp n : Int} (h : ∀ k, dp ≤ k → k < dp + n → A b k) : Fr A s (sC s a b sp dp n) := by
  refine ⟨fun a' k' n' => ?_, rfl, rfl⟩
  by_cases e : a' = b ∧ dp ≤ k' ∧ k' < dp + n
  · exact absurd (e.1 ▸ h k' e.2.1 e.2.2) n'
  · simp only [sC, if_neg e]
theorem frj_of {A : Nat → Int → Prop} {s t : zS} (h : Fr A s t) : FrJ A s t := ⟨fun a k n => ⟨h.1 a k n, by rw [h.2.1]⟩, h.2.2⟩
theorem frj_refl {A : Nat → Int → Prop} {s : zS} : FrJ A s s := ⟨fun _ _ _ => ⟨rfl, rfl⟩, rfl⟩
theorem frj_trans {A : Nat → Int → Prop} {s t u : zS} (h : FrJ A s t) (h' : FrJ A t u) : FrJ A s u :=
  ⟨fun a k n => ⟨(h'.1 a k n).1.trans (h.1 a k n).1, (h'.1 a k n).2.trans (h.1 a k n).2⟩, h'.2.trans h.2⟩
theorem frj_mono {A B : Nat → Int → Prop} {s t : zS} (hab : ∀ a k, A a k → B a k) (h : FrJ A s t) : FrJ B s t :=
  ⟨fun a k n => h.1 a k (fun q => n (hab a k q)), h.2⟩
theorem frj_J {A : Nat → Int → Prop} {s : zS} {a : Nat} {k x : Int} (h : A a k) : FrJ A s (sJ s a k x) := by
  refine ⟨fun a' k' n => ⟨rfl, ?_⟩, rfl⟩
  by_cases e : a' = a ∧ k' = k
  · exact absurd (e.1 ▸ e.2 ▸ h) n
  · simp only [sJ_if, if_neg e]
theorem frj_I {A : Nat → Int → Prop} {s : zS} {a : Nat} {k x : Int} (h : A a k) : FrJ A s (sI s a k x) := frj_of (fr_I h)
