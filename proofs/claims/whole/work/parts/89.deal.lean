/-! ===== deal: the first best row ===== -/
def rAg (c : Int) (r r' : Int → Int) : Prop := ∀ w, 0 ≤ w → w < c → r w = r' w
def rLt (c : Int) (r r' : Int → Int) : Prop := ∃ w, 0 ≤ w ∧ w < c ∧ (∀ v, 0 ≤ v → v < w → r v = r' v) ∧ r w < r' w
theorem rLt_tri {r r' : Int → Int} : ∀ (n : Nat), rAg (n : Int) r r' ∨ rLt (n : Int) r r' ∨ rLt (n : Int) r' r := by
  intro n
  induction n with
  | zero => exact Or.inl (fun w w0 w1 => by omega)
  | succ n ih =>
    rcases ih with h | ⟨w, w0, w1, w2, w3⟩ | ⟨w, w0, w1, w2, w3⟩
    · by_cases e : r (n : Int) = r' (n : Int)
      · refine Or.inl (fun w w0 w1 => ?_)
        by_cases d : w = (n : Int)
        · rw [d]; exact e
        · exact h w w0 (by omega)
      · by_cases d : r (n : Int) < r' (n : Int)
        · exact Or.inr (Or.inl ⟨(n : Int), by omega, by omega, h, d⟩)
        · exact Or.inr (Or.inr ⟨(n : Int), by omega, by omega, fun v v0 v1 => (h v v0 v1).symm, by omega⟩)
    · exact Or.inr (Or.inl ⟨w, w0, by omega, w2, w3⟩)
    · exact Or.inr (Or.inr ⟨w, w0, by omega, w2, w3⟩)
theorem rLt_trans {c : Int} {p q r : Int → Int} (h : rLt c p q) (h' : rLt c q r) : rLt c p r := by
  obtain ⟨w, w0, w1, w2, w3⟩ := h
  obtain ⟨v, v0, v1, v2, v3⟩ := h'
  by_cases e : w < v
  · exact ⟨w, w0, w1, fun i i0 i1 => (w2 i i0 i1).trans (v2 i i0 (by omega)), by rw [← v2 w w0 e]; exact w3⟩
  · by_cases d : v < w
    · exact ⟨v, v0, v1, fun i i0 i1 => (w2 i i0 (by omega)).trans (v2 i i0 i1), by rw [w2 v v0 d]; exact v3⟩
    · have : w = v := by omega
      subst this
      exact ⟨w, w0, w1, fun i i0 i1 => (w2 i i0 i1).trans (v2 i i0 i1), by omega⟩
theorem rLt_ag {c : Int} {p q r : Int → Int} (h : rAg c p q) (h' : rLt c q r) : rLt c p r := by
  obtain ⟨v, v0, v1, v2, v3⟩ := h'
  exact ⟨v, v0, v1, fun i i0 i1 => (h i i0 (by omega)).trans (v2 i i0 i1), by rw [h v v0 v1]; exact v3⟩
section
variable {c : Int} {cn hr : (Int → Int) → Int} {P Q : (Int → Int) → Prop} {r r' : Int → Int}
def bet (cn hr : (Int → Int) → Int) (a b : Int → Int) : Prop := cn b < cn a ∨ (cn a = cn b ∧ hr a < hr b)
def Best (c : Int) (cn hr : (Int → Int) → Int) (P : (Int → Int) → Prop) (r : Int → Int) : Prop := P r ∧ ∀ r', P r' → ¬ bet cn hr r' r ∧ (rLt c r' r → bet cn hr r r')
theorem best_one (c0 : 0 ≤ c) (h : Best c cn hr P r) (h' : Best c cn hr P r') : rAg c r r' := by
  have := rLt_tri (r := r) (r' := r') c.toNat
  rw [Int.toNat_of_nonneg c0] at this
  rcases this with q | q | q
  · exact q
  · exact absurd ((h'.2 r h.1).2 q) (h.2 r' h'.1).1
  · exact absurd ((h.2 r' h'.1).2 q) (h'.2 r h.1).1
/-- the best of the clean rows is the best of all -/
theorem best_up (h : Best c cn hr Q r) (hp : P r) (hc : ∀ p, P p → ∃ q, Q q ∧ cn q = cn p ∧ hr q = hr p ∧ (rAg c q p ∨ rLt c q p)) : Best c cn hr P r := by
  refine ⟨hp, fun p hP => ?_⟩
  obtain ⟨q, q1, q2, q3, q4⟩ := hc p hP
  have g := h.2 q q1
  unfold bet at g ⊢
  rw [q2, q3] at g
  refine ⟨g.1, fun z => g.2 ?_⟩
  rcases q4 with q4 | q4
  · exact rLt_ag q4 z
  · exact rLt_trans q4 z
end
