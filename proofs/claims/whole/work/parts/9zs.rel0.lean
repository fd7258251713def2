/-! ===== the relation holds behind the constructors ===== -/
set_option maxRecDepth 100000 in
theorem rowI_2 (k : Nat) : iI_916 2 k = 0 := rfl
set_option maxRecDepth 100000 in
theorem rowI_210 (k : Nat) : iI_916 210 k = 0 := rfl
theorem sF_i (a : Nat) (k : Int) : sF.1 a k = (iI_916 a k.toNat).toInt := rfl
theorem sF_2 (k : Int) : sF.1 2 k = 0 := by
  rw [sF_i, rowI_2]
  decide
theorem sF_210 (k : Int) : sF.1 210 k = 0 := by
  rw [sF_i, rowI_210]
  decide
theorem tape_F : rTape sF.1 := by
  refine ⟨by decide +kernel, by decide +kernel, by decide +kernel, ?_, by decide +kernel, by decide +kernel⟩
  intro k h1 h2
  rw [sF_2, sF_210]
  exact ⟨rfl, by omega, by omega⟩
theorem refu_n : ∀ k : Nat, k < 6 → sF.1 41 (k : Int) = 0 ∧ sF.1 211 (k : Int) = 0 := by decide +kernel
theorem refu_F : rRefu 0 sF.1 := by
  intro k h1 h2
  obtain ⟨q1, q2⟩ := refu_n k.toNat (by omega)
  rw [Int.toNat_of_nonneg h1] at q1 q2
  exact ⟨by omega, by omega, by omega⟩
theorem kind_n : ∀ b : Nat, b < 256 → sF.1 4 (b : Int) = kindB (b : Int) := by decide +kernel
theorem word_n : ∀ e, e ∈ wTab → ∀ i : Nat, i < e.2.length → sF.1 e.1 (i : Int) = e.2.getD i 0 := by decide +kernel
theorem words_F : rWords sF.1 := by
  refine ⟨?_, word_n⟩
  intro b h1 h2
  have q := kind_n b.toNat (by omega)
  rw [Int.toNat_of_nonneg h1] at q
  exact q
theorem seed_F : rSeed sF.1 sF.2.1 := ⟨by decide +kernel, by decide +kernel, by decide +kernel⟩
theorem c_0_15 : sF.1 0 15 = 0 := by decide +kernel
theorem c_24_0 : sF.1 24 0 = 0 := by decide +kernel
theorem c_242_4 : sF.1 242 4 = 0 := by decide +kernel
theorem c_242_5 : sF.1 242 5 = 0 := by decide +kernel
theorem c_242_6 : sF.1 242 6 = 0 := by decide +kernel
theorem c_0_17 : sF.1 0 17 = 0 := by decide +kernel
theorem c_254_28 : sF.1 254 28 = 0 := by decide +kernel
theorem img_F : rImg sF.1 := by
  refine ⟨by decide +kernel, by decide +kernel, by decide +kernel, ?_⟩
  intro k h1 h2
  rw [c_0_15] at h2
  omega
theorem rows_F : rRows sF.1 := by
  refine ⟨by decide +kernel, by decide +kernel, by decide +kernel, ?_⟩
  intro k h1 h2
  rw [c_24_0] at h2
  omega
theorem c_242_d (d : Int) (h1 : 0 ≤ d) (h2 : d < 3) : sF.1 242 (4 + d) = 0 := by
  have h3 : d = 0 ∨ d = 1 ∨ d = 2 := by omega
  rcases h3 with h | h | h
  · rw [h]; decide +kernel
  · rw [h]; decide +kernel
  · rw [h]; decide +kernel
theorem count_F : rCount sF.1 43 := ⟨by decide +kernel, by decide +kernel, by decide +kernel, by decide +kernel, by decide +kernel, by decide +kernel, by decide +kernel, by decide +kernel, by decide +kernel, by decide +kernel⟩
theorem land_F : rLand sF.1 sF.2.1 43 := by
  refine ⟨count_F, ?_, ?_, ?_, ?_, ⟨by decide +kernel, by decide +kernel, by decide +kernel⟩, ⟨by decide +kernel, by decide +kernel, by decide +kernel⟩, Or.inr ⟨by decide +kernel, by decide +kernel⟩, Or.inr ⟨by decide +kernel, by decide +kernel⟩⟩
  · intro d w h1 h2 h3 h4
    rw [c_242_d d h1 h2] at h4
    omega
  · intro p h1 h2
    rw [c_242_5] at h2
    omega
  · intro w h1 h2
    rw [c_242_6] at h2
    omega
  · intro a b h1 h2
    rw [c_242_4] at h2
    omega
theorem nInv_0 {N : Int → Int} (h0 : N 0 = 0) (h1 : N 1 = 0) (h28 : N 28 = 0) : nInv 0 0 0 N := by
  refine ⟨⟨by omega, by omega⟩, ⟨by omega, by omega⟩, ?_, ?_, by omega, ?_, ?_, ?_, ?_⟩
  · intro p a b; omega
  · intro w a b; omega
  · intro k a b; omega
  · intro v w a b c; omega
  · intro j k a b c; omega
  · intro w k a b; omega
theorem now_F : rNow sF.1 := by
  refine ⟨⟨by decide +kernel, by decide +kernel, ?_, ?_, by decide +kernel, ?_⟩, ?_⟩
  · intro p h1 h2
    rw [c_242_5] at h2
    omega
  · intro w h1 h2
    rw [c_242_6] at h2
    omega
  · intro k h1 h2
    replace h2 : k < sF.1 254 28 := h2
    rw [c_254_28] at h2
    omega
  · rw [c_242_4, c_242_5, c_242_6]
    exact nInv_0 (by decide +kernel) (by decide +kernel) c_254_28
theorem past_F : rPast sF.1 := by
  refine ⟨by decide +kernel, by decide +kernel, by decide +kernel, by decide +kernel, by decide +kernel, by decide +kernel, by decide +kernel, ?_⟩
  intro j h1 h2
  rw [c_0_17] at h2
  omega
theorem most_F : rMost sF.1 := ⟨by decide +kernel, by decide +kernel, by decide +kernel, by decide +kernel, by decide +kernel, by decide +kernel⟩
theorem R_F : R 0 sF := ⟨⟨Or.inl ⟨rfl, rfl⟩, rfl⟩, tape_F, refu_F, words_F, seed_F, img_F, rows_F, land_F, now_F, past_F, most_F⟩
