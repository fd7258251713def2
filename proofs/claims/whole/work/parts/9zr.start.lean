/-! ===== the heap behind the constructors, as the relation has it ===== -/
noncomputable def gF (n : Nat) (x : Nat → Int32) : aHp := (289, 25404, kK_289, kL_289, iI_916, jJ_290, rR_583, n, x)
noncomputable def sF : zS := (fun a k => (iI_916 a k.toNat).toInt, fun a k => (jJ_290 a k.toNat).toInt, fun q => match q with
  | 1 => 43
  | 2 => 66
  | 3 => 43
  | _ => 0)
theorem zMut_no {a k : Nat} (h1 : ¬ (a = 0 ∧ k = 13)) (h2 : ¬ (a = 0 ∧ k = 14)) (h3 : ¬ (a = 10 ∧ k = 1)) (h4 : ¬ (a = 8 ∧ k = 1)) : zMut a k = 0 := by
  unfold zMut
  split
  · exact absurd ⟨rfl, rfl⟩ h1
  · exact absurd ⟨rfl, rfl⟩ h2
  · exact absurd ⟨rfl, rfl⟩ h3
  · exact absurd ⟨rfl, rfl⟩ h4
  · rfl
theorem rR_mut : rR_583 0 13 = some 43 ∧ rR_583 0 14 = some 66 ∧ rR_583 10 1 = some 43 ∧ rR_583 8 1 = none := by decide +kernel
theorem zRf_F {n : Nat} {x : Nat → Int32} : zRf (gF n x) sF = rR_583 := by
  funext a k
  by_cases h1 : a = 0 ∧ k = 13
  · obtain ⟨e1, e2⟩ := h1
    subst e1
    subst e2
    rw [rR_mut.1]
    rfl
  by_cases h2 : a = 0 ∧ k = 14
  · obtain ⟨e1, e2⟩ := h2
    subst e1
    subst e2
    rw [rR_mut.2.1]
    rfl
  by_cases h3 : a = 10 ∧ k = 1
  · obtain ⟨e1, e2⟩ := h3
    subst e1
    subst e2
    rw [rR_mut.2.2.1]
    rfl
  by_cases h4 : a = 8 ∧ k = 1
  · obtain ⟨e1, e2⟩ := h4
    subst e1
    subst e2
    rw [rR_mut.2.2.2]
    rfl
  unfold zRf
  rw [zMut_no h1 h2 h3 h4]
  rfl
theorem wI_F : (fun (a k : Nat) => Int32.ofInt (sF.1 a (k : Int))) = iI_916 := by
  funext a k
  exact Int32.ofInt_toInt _
theorem wJ_F : (fun (a k : Nat) => Int64.ofInt (sF.2.1 a (k : Int))) = jJ_290 := by
  funext a k
  exact Int64.ofInt_toInt _
theorem wS_F {n : Nat} {x : Nat → Int32} : wS (gF n x) sF = gF n x := by
  unfold wS
  rw [zRf_F, wI_F, wJ_F]
  rfl
theorem zOk_r {G : aHp} {k n a : Nat} (h1 : k ≠ 104) (h2 : a < aN G) (h3 : aK G a = k) (h4 : aL G a = n) : zOk G (zr k n a) := Or.inr ⟨h1, h2, h3, h4⟩
theorem zOk_F {n : Nat} {x : Nat → Int32} {k m a : Nat} (h1 : k ≠ 104) (h2 : a < 289) (h3 : kK_289 a = k) (h4 : kL_289 a = m) : zOk (gF n x) (zr k m a) := zOk_r h1 h2 h3 h4
theorem aK_F {n : Nat} {x : Nat → Int32} {k a : Nat} (h : kK_289 a = k) : aK (gF n x) a = k := h
theorem aR_F {n : Nat} {x : Nat → Int32} {a k : Nat} {v : Option Nat} (h : rR_583 a k = v) : aR (gF n x) a k = v := h
def oTab : List (Nat × Nat) := [(0, 11), (1, 8), (5, 3), (8, 4), (9, 9), (10, 1), (12, 10), (14, 7), (20, 0), (24, 2), (28, 7), (34, 7), (43, 5), (44, 6), (46, 6), (48, 6), (60, 3), (63, 3), (66, 5), (67, 6), (69, 6), (71, 6), (83, 3), (86, 3), (89, 7), (95, 7), (101, 7), (107, 7), (113, 7), (119, 7), (125, 7), (131, 7), (137, 7), (143, 7), (149, 7), (155, 7), (161, 7), (167, 7), (173, 7), (179, 7), (185, 7), (191, 7), (197, 7), (203, 7), (209, 12)]
theorem oTab_all : ∀ a, a < 289 → kK_289 a < 100 → (a, kK_289 a) ∈ oTab := by decide +kernel
theorem oTab_ref : ∀ p, p ∈ oTab → ∀ e, e ∈ zFt → p.2 = e.1 → zMut p.1 e.2.1 = 0 ∧ rR_583 p.1 e.2.1 = some (zFa e.2.2.2.2.1 e.2.2.2.2.2 p.1) ∧ e.2.2.1 ≠ 104 ∧ zFa e.2.2.2.2.1 e.2.2.2.2.2 p.1 < 289 ∧ kK_289 (zFa e.2.2.2.2.1 e.2.2.2.2.2 p.1) = e.2.2.1 ∧ kL_289 (zFa e.2.2.2.2.1 e.2.2.2.2.2 p.1) = e.2.2.2.1 := by decide +kernel
theorem oTab_six : ∀ p, p ∈ oTab → p.2 = 6 → zMut p.1 2 = 0 ∧ rR_583 p.1 2 = some (p.1 + 1) ∧ p.1 + 1 < 289 ∧ kK_289 (p.1 + 1) = 100 ∧ kL_289 (p.1 + 1) = zNl p.1 := by decide +kernel
theorem oTab_past : ∀ i, i < 20 → rR_583 40 i = some (89 + 6 * i) ∧ 89 + 6 * i < 289 ∧ kK_289 (89 + 6 * i) = 7 ∧ kL_289 (89 + 6 * i) = 0 := by decide +kernel
theorem zFt_lo : ∀ e, e ∈ zFt → e.1 < 100 := by decide +kernel
theorem kK_some : kK_289 0 = 11 ∧ kK_289 43 = 5 ∧ kK_289 66 = 5 ∧ kK_289 209 = 12 := by decide +kernel
theorem kL_some : kL_289 0 = 0 ∧ kL_289 43 = 0 ∧ kL_289 66 = 0 ∧ kL_289 209 = 0 := by decide +kernel
theorem zG_F {n : Nat} {x : Nat → Int32} : zG (gF n x) := by
  refine ⟨rfl, aK_F kK_some.1, ?_, ?_, ?_⟩
  · intro i hi
    obtain ⟨h1, h2, h3, h4⟩ := oTab_past i hi
    exact ⟨aR_F h1, zOk_F (by decide) h2 h3 h4⟩
  · intro a ha hk
    have hk' : kK_289 a = 6 := hk
    obtain ⟨h1, h2, h3, h4, h5⟩ := oTab_six (a, kK_289 a) (oTab_all a ha (by omega)) hk'
    exact ⟨h1, h2, zOk_r (by decide) h3 h4 h5⟩
  · intro e he a ha hk
    have hk' : kK_289 a = e.1 := hk
    have hlo := zFt_lo e he
    obtain ⟨h1, h2, h3, h4, h5, h6⟩ := oTab_ref (a, kK_289 a) (oTab_all a ha (by omega)) e he hk'
    exact ⟨h1, h2, zOk_r h3 h4 h5 h6⟩
theorem zInv_F {n : Nat} {x : Nat → Int32} : zInv (gF n x) sF := by
  refine ⟨fun a k => z32 _, fun a k => z64 _, ?_, Or.inl rfl⟩
  intro q hq
  rcases hq with h | h | h
  · subst h
    show zOk (gF n x) (zr 5 0 43)
    exact zOk_F (by decide) (by decide) kK_some.2.1 kL_some.2.1
  · subst h
    show zOk (gF n x) (zr 5 0 66)
    exact zOk_F (by decide) (by decide) kK_some.2.2.1 kL_some.2.2.1
  · subst h
    show zOk (gF n x) (zr 5 0 43)
    exact zOk_F (by decide) (by decide) kK_some.2.1 kL_some.2.1
theorem zOkL_F {n : Nat} {x : Nat → Int32} : zOkL (gF n x) [some (zr 104 n aXa), some (zr 11 0 0), some (zr 12 0 209), none] := by
  intro v hv
  rcases List.mem_cons.mp hv with h | hv
  · cases h
    exact Or.inl ⟨rfl, rfl, rfl⟩
  rcases List.mem_cons.mp hv with h | hv
  · cases h
    exact zOk_F (by decide) (by decide) kK_some.1 kL_some.1
  rcases List.mem_cons.mp hv with h | hv
  · cases h
    exact zOk_F (by decide) (by decide) kK_some.2.2.2 kL_some.2.2.2
  rcases List.mem_cons.mp hv with h | hv
  · cases h
  · cases hv
