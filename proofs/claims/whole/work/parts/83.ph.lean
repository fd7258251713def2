/-! ===== as many places as pairs ===== -/
/-- the place of n - 1 is given to what stood last -/
def swp (g : Nat → Int) (k0 n : Nat) (k : Nat) : Int := if k = k0 then g n else g k
theorem ph_surj : ∀ (n : Nat) (g : Nat → Int), (∀ p : Int, 0 ≤ p → p < (n : Int) → ∃ k, k < n ∧ g k = p) → (∀ k, k < n → 0 ≤ g k ∧ g k < (n : Int)) ∧ ∀ i j, i < n → j < n → g i = g j → i = j := by
  intro n
  induction n with
  | zero => intro g _; exact ⟨fun k h => by omega, fun i j h => by omega⟩
  | succ n ih =>
    intro g h
    obtain ⟨k0, k0l, k0e⟩ := h (n : Int) (by omega) (by omega)
    have hs : ∀ p : Int, 0 ≤ p → p < (n : Int) → ∃ k, k < n ∧ swp g k0 n k = p := by
      intro p p0 p1
      obtain ⟨k, kl, ke⟩ := h p p0 (by omega)
      by_cases e : k = n
      · subst e
        have ne : k0 ≠ k := fun z => by rw [z, ke] at k0e; omega
        exact ⟨k0, by omega, by unfold swp; rw [if_pos rfl]; exact ke⟩
      · have ne : k ≠ k0 := fun z => by rw [z, k0e] at ke; omega
        exact ⟨k, by omega, by unfold swp; rw [if_neg ne]; exact ke⟩
    obtain ⟨r, inj⟩ := ih (swp g k0 n) hs
    -- g's values by swp's
    have val : ∀ k, k < n + 1 → k ≠ k0 → ∃ k', k' < n ∧ swp g k0 n k' = g k ∧ (k' = if k = n then k0 else k) := by
      intro k kl kn
      by_cases e : k = n
      · subst e
        exact ⟨k0, by omega, by unfold swp; rw [if_pos rfl], by rw [if_pos rfl]⟩
      · exact ⟨k, by omega, by unfold swp; rw [if_neg kn], by rw [if_neg e]⟩
    refine ⟨fun k kl => ?_, fun i j il jl e => ?_⟩
    · by_cases e : k = k0
      · rw [e, k0e]; omega
      · obtain ⟨k', a, b, _⟩ := val k kl e
        have := r k' a
        rw [b] at this; omega
    · by_cases ei : i = k0
      · by_cases ej : j = k0
        · omega
        · obtain ⟨k', a, b, _⟩ := val j jl ej
          have := r k' a
          rw [b, ← e, ei, k0e] at this; omega
      · by_cases ej : j = k0
        · obtain ⟨k', a, b, _⟩ := val i il ei
          have := r k' a
          rw [b, e, ej, k0e] at this; omega
        · obtain ⟨i', a, b, ci⟩ := val i il ei
          obtain ⟨j', a', b', cj⟩ := val j jl ej
          have := inj i' j' a a' (by rw [b, b']; exact e)
          rw [ci, cj] at this
          split at this <;> split at this <;> omega
theorem ph_inj : ∀ (n : Nat) (g : Nat → Int), (∀ k, k < n → 0 ≤ g k ∧ g k < (n : Int)) → (∀ i j, i < j → j < n → g i ≠ g j) → ∀ p : Int, 0 ≤ p → p < (n : Int) → ∃ k, k < n ∧ g k = p := by
  intro n
  induction n with
  | zero => intro g _ _ p p0 p1; omega
  | succ n ih =>
    intro g r inj p p0 p1
    have inj' : ∀ i j, i < n + 1 → j < n + 1 → i ≠ j → g i ≠ g j := by
      intro i j il jl ne
      by_cases lt : i < j
      · exact inj i j lt jl
      · exact fun z => inj j i (by omega) il z.symm
    by_cases ex : ∃ k, k < n + 1 ∧ g k = (n : Int)
    · obtain ⟨k0, k0l, k0e⟩ := ex
      by_cases ep : p = (n : Int)
      · exact ⟨k0, k0l, by rw [ep]; exact k0e⟩
      have rs : ∀ k, k < n → 0 ≤ swp g k0 n k ∧ swp g k0 n k < (n : Int) := by
        intro k kl
        unfold swp
        by_cases e : k = k0
        · rw [if_pos e]
          have := r n (by omega)
          have ne := inj' n k0 (by omega) k0l (by omega)
          rw [k0e] at ne
          omega
        · rw [if_neg e]
          have := r k (by omega)
          have ne := inj' k k0 (by omega) k0l e
          rw [k0e] at ne
          omega
      have is : ∀ i j, i < j → j < n → swp g k0 n i ≠ swp g k0 n j := by
        intro i j lt jl
        unfold swp
        by_cases ei : i = k0
        · rw [if_pos ei, if_neg (by omega)]; exact inj' n j (by omega) (by omega) (by omega)
        · rw [if_neg ei]
          by_cases ej : j = k0
          · rw [if_pos ej]; exact inj' i n (by omega) (by omega) (by omega)
          · rw [if_neg ej]; exact inj' i j (by omega) (by omega) (by omega)
      obtain ⟨k, kl, ke⟩ := ih (swp g k0 n) rs is p p0 (by omega)
      unfold swp at ke
      by_cases e : k = k0
      · rw [if_pos e] at ke; exact ⟨n, by omega, ke⟩
      · rw [if_neg e] at ke; exact ⟨k, by omega, ke⟩
    · have rs : ∀ k, k < n + 1 → 0 ≤ g k ∧ g k < (n : Int) := by
        intro k kl
        have := r k kl
        have ne : g k ≠ (n : Int) := fun z => ex ⟨k, kl, z⟩
        omega
      obtain ⟨k, kl, ke⟩ := ih g (fun k kl => rs k (by omega)) (fun i j lt jl => inj i j lt (by omega)) (g n) (rs n (by omega)).1 (rs n (by omega)).2
      exact absurd ke (inj' k n (by omega) (by omega) (by omega))
