/-! ===== what is owed of each call; the law out of it (by gen_top.py) ===== -/
def T101 : Prop := ∀ (n : Nat) (s : zS) (x1 x2 x3 x4 x5 : Int), zR x1 → zR x2 → zR x3 → zR x4 → zR x5 → R n s → n < 512 → Two n (m101 x1 x2 x3 x4 x5 s) (m151 x1 x2 x3 x4 x5)
def T102 : Prop := ∀ (n : Nat) (s : zS) (x1 : Int), zR x1 → R n s → n < 512 → Two n (m102 x1 s) (m152 x1)
def T103 : Prop := ∀ (n : Nat) (s : zS), R n s → n < 512 → Two n (m103 s) (m177)
def T104 : Prop := ∀ (n : Nat) (s : zS) (x1 : Int), zR x1 → R n s → n < 512 → Two n (m104 x1 s) (m179 x1)
def T105 : Prop := ∀ (n : Nat) (s : zS) (x1 : Int), zR x1 → R n s → n < 512 → Two n (m105 x1 s) (m207 x1)
def T106 : Prop := ∀ (n : Nat) (s : zS) (x1 x2 x3 : Int), zR x1 → zR x2 → zR x3 → R n s → n < 512 → Two n (m106 x1 x2 x3 s) (m208 x1 x2 x3)
def T107 : Prop := ∀ (n : Nat) (s : zS) (x1 x2 : Int), zR x1 → zR x2 → R n s → n < 512 → Two n (m107 x1 x2 s) (m209 x1 x2)
def T108 : Prop := ∀ (n : Nat) (s : zS) (x1 x2 : Int), zR x1 → zR x2 → R n s → n < 512 → Two n (m108 x1 x2 s) (m210 x1 x2)
def T109 : Prop := ∀ (n : Nat) (s : zS) (x1 x2 : Int), zR x1 → zR x2 → R n s → n < 512 → Two n (m109 x1 x2 s) (m211 x1 x2)
def T110 : Prop := ∀ (n : Nat) (s : zS) (x1 x2 : Int), zR x1 → zR x2 → R n s → n < 512 → Two n (m110 x1 x2 s) (m212 x1 x2)
def T111 : Prop := ∀ (n : Nat) (s : zS) (x1 : Int), zR x1 → R n s → n < 512 → Two n (m111 x1 s) (m213 x1)
def T112 : Prop := ∀ (n : Nat) (s : zS) (x1 : Int), zR x1 → R n s → n < 512 → Two n (m112 x1 s) (m216 x1)
def T113 : Prop := ∀ (n : Nat) (s : zS) (x1 x2 : Int), zR x1 → zR x2 → R n s → n < 512 → Two n (m113 x1 x2 s) (m219 x1 x2)
def T114 : Prop := ∀ (n : Nat) (s : zS) (x1 x2 x3 : Int), zR x1 → zR x2 → zR x3 → R n s → n < 512 → Two n (m114 x1 x2 x3 s) (m220 x1 x2 x3)
def T115 : Prop := ∀ (n : Nat) (s : zS) (x1 x2 : Int), zR x1 → zR x2 → R n s → n < 512 → Two n (m115 x1 x2 s) (m221 x1 x2)
def T116 : Prop := ∀ (n : Nat) (s : zS) (x1 x2 x3 : Int), zR x1 → zR x2 → zR x3 → R n s → n < 512 → Two n (m116 x1 x2 x3 s) (m222 x1 x2 x3)
def T117 : Prop := ∀ (n : Nat) (s : zS) (x1 : Int), zR x1 → R n s → n < 512 → Two n (m117 x1 s) (m227 x1)
def T118 : Prop := ∀ (n : Nat) (s : zS) (x1 : Int), zR x1 → R n s → n < 512 → Two n (m118 x1 s) (m229 x1)
def T119 : Prop := ∀ (n : Nat) (s : zS) (x1 x2 x3 : Int), zR x1 → zR x2 → zR x3 → R n s → n < 512 → Two n (m119 x1 x2 x3 s) (m230 x1 x2 x3)
def T120 : Prop := ∀ (n : Nat) (s : zS) (x1 : Int), zR x1 → R n s → n < 512 → Two n (m120 x1 s) (m231 x1)
def T121 : Prop := ∀ (n : Nat) (s : zS), R n s → n < 512 → Two n (m121 s) (m233)
def T122 : Prop := ∀ (n : Nat) (s : zS) (x1 : Int), zR x1 → R n s → n < 512 → Two n (m122 x1 s) (m236 x1)
def T123 : Prop := ∀ (n : Nat) (s : zS) (x1 : Int), zR x1 → R n s → n < 512 → Two n (m123 x1 s) (m238 x1)
def T124 : Prop := ∀ (n : Nat) (s : zS) (x1 : Int), zR x1 → R n s → n < 512 → Two n (m124 x1 s) (m241 x1)
def T125 : Prop := ∀ (n : Nat) (s : zS) (x1 : Int), zR x1 → R n s → n < 512 → Two n (m125 x1 s) (m242 x1)
def T126 : Prop := ∀ (n : Nat) (s : zS) (x1 : Int), zR x1 → R n s → n < 512 → Two n (m126 x1 s) (m243 x1)
def T127 : Prop := ∀ (n : Nat) (s : zS) (x1 : Int), zR x1 → R n s → n < 512 → Two n (m127 x1 s) (m244 x1)
def T128 : Prop := ∀ (n : Nat) (s : zS) (x1 : Int), zR x1 → R n s → n < 512 → Two n (m128 x1 s) (m247 x1)
def T129 : Prop := ∀ (n : Nat) (s : zS), R n s → n < 512 → Two n (m129 s) (m240)
def T130 : Prop := ∀ (n : Nat) (s : zS) (x1 : Int), zR x1 → R n s → n < 512 → Two n (m130 x1 s) (m245 x1)
def T131 : Prop := ∀ (n : Nat) (s : zS), R n s → n < 512 → Two n (m131 s) (m276)
def T132 : Prop := ∀ (n : Nat) (s : zS), R n s → n < 512 → Two n (m132 s) (m279)
def T133 : Prop := ∀ (n : Nat) (s : zS) (x1 : Int), zR x1 → R n s → n < 512 → Two n (m133 x1 s) (m280 x1)
def T134 : Prop := ∀ (n : Nat) (s : zS), R n s → n < 512 → Two n (m134 s) (m284)
def T135 : Prop := ∀ (n : Nat) (s : zS) (x1 : Int), zR x1 → R n s → n < 512 → Two n (m135 x1 s) (m285 x1)
def Towed : Prop := T101 ∧ T102 ∧ T103 ∧ T104 ∧ T105 ∧ T106 ∧ T107 ∧ T108 ∧ T109 ∧ T110 ∧ T111 ∧ T112 ∧ T113 ∧ T114 ∧ T115 ∧ T116 ∧ T117 ∧ T118 ∧ T119 ∧ T120 ∧ T121 ∧ T122 ∧ T123 ∧ T124 ∧ T125 ∧ T126 ∧ T127 ∧ T128 ∧ T129 ∧ T130 ∧ T131 ∧ T132 ∧ T133 ∧ T134 ∧ T135
set_option maxHeartbeats 4000000 in
set_option maxRecDepth 20000 in
theorem law_all (hT : Towed) (X : Nat → Int32) (n0 : Nat) (hn0 : n0 ≤ 3072) : ∀ (n : Nat) (k : Nat) (x : Int) (s : zS), x = 6 * (k : Int) → k ≤ 512 → 513 - k ≤ n → R k s → Ok (m295_18 X n n0 x s) (fun r _ => r = 1) := by
  obtain ⟨t101, t102, t103, t104, t105, t106, t107, t108, t109, t110, t111, t112, t113, t114, t115, t116, t117, t118, t119, t120, t121, t122, t123, t124, t125, t126, t127, t128, t129, t130, t131, t132, t133, t134, t135⟩ := hT
  intro n
  induction n with
  | zero => intro k x s h1 h2 h3; omega
  | succ n ih =>
  intro k x s h1 h2 h3 hR
  rw [m295_18]
  refine k_z (by omega) (by omega) ?_
  refine k_z (by omega) (by omega) ?_
  refine k_i (fun h => k_r rfl) (fun h => ?_)
  have hk : k < 512 := by omega
  refine k_x (by omega) (by omega) ?_
  refine k_v ?_
  refine k_v ?_
  refine k_i (fun _ => ?_) (fun _ => ?_)
  · refine k_z (by omega) (by omega) ?_
    refine k_x (by omega) (by omega) ?_
    refine k_v ?_
    refine k_z (by omega) (by omega) ?_
    refine k_x (by omega) (by omega) ?_
    refine k_v ?_
    refine k_z (by omega) (by omega) ?_
    refine k_x (by omega) (by omega) ?_
    refine k_v ?_
    refine k_z (by omega) (by omega) ?_
    refine k_x (by omega) (by omega) ?_
    refine k_v ?_
    refine k_z (by omega) (by omega) ?_
    refine k_x (by omega) (by omega) ?_
    refine k_v ?_
    refine k_c (t101 k s _ _ _ _ _ (z32 _) (z32 _) (z32 _) (z32 _) (z32 _) hR hk) ?_
    intro r1 s1 q1
    refine k_z (by omega) (by omega) ?_
    refine k_x (by omega) (by omega) ?_
    refine k_v ?_
    refine k_z (by omega) (by omega) ?_
    refine k_x (by omega) (by omega) ?_
    refine k_v ?_
    refine k_z (by omega) (by omega) ?_
    refine k_x (by omega) (by omega) ?_
    refine k_v ?_
    refine k_z (by omega) (by omega) ?_
    refine k_x (by omega) (by omega) ?_
    refine k_v ?_
    refine k_z (by omega) (by omega) ?_
    refine k_x (by omega) (by omega) ?_
    refine k_v ?_
    refine k_c q1 ?_
    intro r2 s2 q2
    refine k_p q2.1 ?_
    refine k_z (by omega) (by omega) ?_
    exact ih (k + 1) _ s2 (by omega) (by omega) (by omega) q2.2
  refine k_i (fun _ => ?_) (fun _ => ?_)
  · refine k_z (by omega) (by omega) ?_
    refine k_x (by omega) (by omega) ?_
    refine k_v ?_
    refine k_c (t102 k s _ (z32 _) hR hk) ?_
    intro r1 s1 q1
    refine k_z (by omega) (by omega) ?_
    refine k_x (by omega) (by omega) ?_
    refine k_v ?_
    refine k_c q1 ?_
    intro r2 s2 q2
    refine k_p q2.1 ?_
    refine k_z (by omega) (by omega) ?_
    exact ih (k + 1) _ s2 (by omega) (by omega) (by omega) q2.2
  refine k_i (fun _ => ?_) (fun _ => ?_)
  · refine k_c (t103 k s   hR hk) ?_
    intro r1 s1 q1
    refine k_c q1 ?_
    intro r2 s2 q2
    refine k_p q2.1 ?_
    refine k_z (by omega) (by omega) ?_
    exact ih (k + 1) _ s2 (by omega) (by omega) (by omega) q2.2
  refine k_i (fun _ => ?_) (fun _ => ?_)
  · refine k_z (by omega) (by omega) ?_
    refine k_x (by omega) (by omega) ?_
    refine k_v ?_
    refine k_c (t104 k s _ (z32 _) hR hk) ?_
    intro r1 s1 q1
    refine k_z (by omega) (by omega) ?_
    refine k_x (by omega) (by omega) ?_
    refine k_v ?_
    refine k_c q1 ?_
    intro r2 s2 q2
    refine k_p q2.1 ?_
    refine k_z (by omega) (by omega) ?_
    exact ih (k + 1) _ s2 (by omega) (by omega) (by omega) q2.2
  refine k_i (fun _ => ?_) (fun _ => ?_)
  · refine k_z (by omega) (by omega) ?_
    refine k_x (by omega) (by omega) ?_
    refine k_v ?_
    refine k_c (t105 k s _ (z32 _) hR hk) ?_
    intro r1 s1 q1
    refine k_z (by omega) (by omega) ?_
    refine k_x (by omega) (by omega) ?_
    refine k_v ?_
    refine k_c q1 ?_
    intro r2 s2 q2
    refine k_p q2.1 ?_
    refine k_z (by omega) (by omega) ?_
    exact ih (k + 1) _ s2 (by omega) (by omega) (by omega) q2.2
  refine k_i (fun _ => ?_) (fun _ => ?_)
  · refine k_z (by omega) (by omega) ?_
    refine k_x (by omega) (by omega) ?_
    refine k_v ?_
    refine k_z (by omega) (by omega) ?_
    refine k_x (by omega) (by omega) ?_
    refine k_v ?_
    refine k_z (by omega) (by omega) ?_
    refine k_x (by omega) (by omega) ?_
    refine k_v ?_
    refine k_c (t106 k s _ _ _ (z32 _) (z32 _) (z32 _) hR hk) ?_
    intro r1 s1 q1
    refine k_z (by omega) (by omega) ?_
    refine k_x (by omega) (by omega) ?_
    refine k_v ?_
    refine k_z (by omega) (by omega) ?_
    refine k_x (by omega) (by omega) ?_
    refine k_v ?_
    refine k_z (by omega) (by omega) ?_
    refine k_x (by omega) (by omega) ?_
    refine k_v ?_
    refine k_c q1 ?_
    intro r2 s2 q2
    refine k_p q2.1 ?_
    refine k_z (by omega) (by omega) ?_
    exact ih (k + 1) _ s2 (by omega) (by omega) (by omega) q2.2
  refine k_i (fun _ => ?_) (fun _ => ?_)
  · refine k_z (by omega) (by omega) ?_
    refine k_x (by omega) (by omega) ?_
    refine k_v ?_
    refine k_z (by omega) (by omega) ?_
    refine k_x (by omega) (by omega) ?_
    refine k_v ?_
    refine k_c (t107 k s _ _ (z32 _) (z32 _) hR hk) ?_
    intro r1 s1 q1
    refine k_z (by omega) (by omega) ?_
    refine k_x (by omega) (by omega) ?_
    refine k_v ?_
    refine k_z (by omega) (by omega) ?_
    refine k_x (by omega) (by omega) ?_
    refine k_v ?_
    refine k_c q1 ?_
    intro r2 s2 q2
    refine k_p q2.1 ?_
    refine k_z (by omega) (by omega) ?_
    exact ih (k + 1) _ s2 (by omega) (by omega) (by omega) q2.2
  refine k_i (fun _ => ?_) (fun _ => ?_)
  · refine k_z (by omega) (by omega) ?_
    refine k_x (by omega) (by omega) ?_
    refine k_v ?_
    refine k_z (by omega) (by omega) ?_
    refine k_x (by omega) (by omega) ?_
    refine k_v ?_
    refine k_c (t108 k s _ _ (z32 _) (z32 _) hR hk) ?_
    intro r1 s1 q1
    refine k_z (by omega) (by omega) ?_
    refine k_x (by omega) (by omega) ?_
    refine k_v ?_
    refine k_z (by omega) (by omega) ?_
    refine k_x (by omega) (by omega) ?_
    refine k_v ?_
    refine k_c q1 ?_
    intro r2 s2 q2
    refine k_p q2.1 ?_
    refine k_z (by omega) (by omega) ?_
    exact ih (k + 1) _ s2 (by omega) (by omega) (by omega) q2.2
  refine k_i (fun _ => ?_) (fun _ => ?_)
  · refine k_z (by omega) (by omega) ?_
    refine k_x (by omega) (by omega) ?_
    refine k_v ?_
    refine k_z (by omega) (by omega) ?_
    refine k_x (by omega) (by omega) ?_
    refine k_v ?_
    refine k_c (t109 k s _ _ (z32 _) (z32 _) hR hk) ?_
    intro r1 s1 q1
    refine k_z (by omega) (by omega) ?_
    refine k_x (by omega) (by omega) ?_
    refine k_v ?_
    refine k_z (by omega) (by omega) ?_
    refine k_x (by omega) (by omega) ?_
    refine k_v ?_
    refine k_c q1 ?_
    intro r2 s2 q2
    refine k_p q2.1 ?_
    refine k_z (by omega) (by omega) ?_
    exact ih (k + 1) _ s2 (by omega) (by omega) (by omega) q2.2
  refine k_i (fun _ => ?_) (fun _ => ?_)
  · refine k_z (by omega) (by omega) ?_
    refine k_x (by omega) (by omega) ?_
    refine k_v ?_
    refine k_z (by omega) (by omega) ?_
    refine k_x (by omega) (by omega) ?_
    refine k_v ?_
    refine k_c (t110 k s _ _ (z32 _) (z32 _) hR hk) ?_
    intro r1 s1 q1
    refine k_z (by omega) (by omega) ?_
    refine k_x (by omega) (by omega) ?_
    refine k_v ?_
    refine k_z (by omega) (by omega) ?_
    refine k_x (by omega) (by omega) ?_
    refine k_v ?_
    refine k_c q1 ?_
    intro r2 s2 q2
    refine k_p q2.1 ?_
    refine k_z (by omega) (by omega) ?_
    exact ih (k + 1) _ s2 (by omega) (by omega) (by omega) q2.2
  refine k_i (fun _ => ?_) (fun _ => ?_)
  · refine k_z (by omega) (by omega) ?_
    refine k_x (by omega) (by omega) ?_
    refine k_v ?_
    refine k_c (t111 k s _ (z32 _) hR hk) ?_
    intro r1 s1 q1
    refine k_z (by omega) (by omega) ?_
    refine k_x (by omega) (by omega) ?_
    refine k_v ?_
    refine k_c q1 ?_
    intro r2 s2 q2
    refine k_p q2.1 ?_
    refine k_z (by omega) (by omega) ?_
    exact ih (k + 1) _ s2 (by omega) (by omega) (by omega) q2.2
  refine k_i (fun _ => ?_) (fun _ => ?_)
  · refine k_z (by omega) (by omega) ?_
    refine k_x (by omega) (by omega) ?_
    refine k_v ?_
    refine k_c (t112 k s _ (z32 _) hR hk) ?_
    intro r1 s1 q1
    refine k_z (by omega) (by omega) ?_
    refine k_x (by omega) (by omega) ?_
    refine k_v ?_
    refine k_c q1 ?_
    intro r2 s2 q2
    refine k_p q2.1 ?_
    refine k_z (by omega) (by omega) ?_
    exact ih (k + 1) _ s2 (by omega) (by omega) (by omega) q2.2
  refine k_i (fun _ => ?_) (fun _ => ?_)
  · refine k_z (by omega) (by omega) ?_
    refine k_x (by omega) (by omega) ?_
    refine k_v ?_
    refine k_z (by omega) (by omega) ?_
    refine k_x (by omega) (by omega) ?_
    refine k_v ?_
    refine k_c (t113 k s _ _ (z32 _) (z32 _) hR hk) ?_
    intro r1 s1 q1
    refine k_z (by omega) (by omega) ?_
    refine k_x (by omega) (by omega) ?_
    refine k_v ?_
    refine k_z (by omega) (by omega) ?_
    refine k_x (by omega) (by omega) ?_
    refine k_v ?_
    refine k_c q1 ?_
    intro r2 s2 q2
    refine k_p q2.1 ?_
    refine k_z (by omega) (by omega) ?_
    exact ih (k + 1) _ s2 (by omega) (by omega) (by omega) q2.2
  refine k_i (fun _ => ?_) (fun _ => ?_)
  · refine k_z (by omega) (by omega) ?_
    refine k_x (by omega) (by omega) ?_
    refine k_v ?_
    refine k_z (by omega) (by omega) ?_
    refine k_x (by omega) (by omega) ?_
    refine k_v ?_
    refine k_z (by omega) (by omega) ?_
    refine k_x (by omega) (by omega) ?_
    refine k_v ?_
    refine k_c (t114 k s _ _ _ (z32 _) (z32 _) (z32 _) hR hk) ?_
    intro r1 s1 q1
    refine k_z (by omega) (by omega) ?_
    refine k_x (by omega) (by omega) ?_
    refine k_v ?_
    refine k_z (by omega) (by omega) ?_
    refine k_x (by omega) (by omega) ?_
    refine k_v ?_
    refine k_z (by omega) (by omega) ?_
    refine k_x (by omega) (by omega) ?_
    refine k_v ?_
    refine k_c q1 ?_
    intro r2 s2 q2
    refine k_p q2.1 ?_
    refine k_z (by omega) (by omega) ?_
    exact ih (k + 1) _ s2 (by omega) (by omega) (by omega) q2.2
  refine k_i (fun _ => ?_) (fun _ => ?_)
  · refine k_z (by omega) (by omega) ?_
    refine k_x (by omega) (by omega) ?_
    refine k_v ?_
    refine k_z (by omega) (by omega) ?_
    refine k_x (by omega) (by omega) ?_
    refine k_v ?_
    refine k_c (t115 k s _ _ (z32 _) (z32 _) hR hk) ?_
    intro r1 s1 q1
    refine k_z (by omega) (by omega) ?_
    refine k_x (by omega) (by omega) ?_
    refine k_v ?_
    refine k_z (by omega) (by omega) ?_
    refine k_x (by omega) (by omega) ?_
    refine k_v ?_
    refine k_c q1 ?_
    intro r2 s2 q2
    refine k_p q2.1 ?_
    refine k_z (by omega) (by omega) ?_
    exact ih (k + 1) _ s2 (by omega) (by omega) (by omega) q2.2
  refine k_i (fun _ => ?_) (fun _ => ?_)
  · refine k_z (by omega) (by omega) ?_
    refine k_x (by omega) (by omega) ?_
    refine k_v ?_
    refine k_z (by omega) (by omega) ?_
    refine k_x (by omega) (by omega) ?_
    refine k_v ?_
    refine k_z (by omega) (by omega) ?_
    refine k_x (by omega) (by omega) ?_
    refine k_v ?_
    refine k_c (t116 k s _ _ _ (z32 _) (z32 _) (z32 _) hR hk) ?_
    intro r1 s1 q1
    refine k_z (by omega) (by omega) ?_
    refine k_x (by omega) (by omega) ?_
    refine k_v ?_
    refine k_z (by omega) (by omega) ?_
    refine k_x (by omega) (by omega) ?_
    refine k_v ?_
    refine k_z (by omega) (by omega) ?_
    refine k_x (by omega) (by omega) ?_
    refine k_v ?_
    refine k_c q1 ?_
    intro r2 s2 q2
    refine k_p q2.1 ?_
    refine k_z (by omega) (by omega) ?_
    exact ih (k + 1) _ s2 (by omega) (by omega) (by omega) q2.2
  refine k_i (fun _ => ?_) (fun _ => ?_)
  · refine k_z (by omega) (by omega) ?_
    refine k_x (by omega) (by omega) ?_
    refine k_v ?_
    refine k_c (t117 k s _ (z32 _) hR hk) ?_
    intro r1 s1 q1
    refine k_z (by omega) (by omega) ?_
    refine k_x (by omega) (by omega) ?_
    refine k_v ?_
    refine k_c q1 ?_
    intro r2 s2 q2
    refine k_p q2.1 ?_
    refine k_z (by omega) (by omega) ?_
    exact ih (k + 1) _ s2 (by omega) (by omega) (by omega) q2.2
  refine k_i (fun _ => ?_) (fun _ => ?_)
  · refine k_z (by omega) (by omega) ?_
    refine k_x (by omega) (by omega) ?_
    refine k_v ?_
    refine k_c (t118 k s _ (z32 _) hR hk) ?_
    intro r1 s1 q1
    refine k_z (by omega) (by omega) ?_
    refine k_x (by omega) (by omega) ?_
    refine k_v ?_
    refine k_c q1 ?_
    intro r2 s2 q2
    refine k_p q2.1 ?_
    refine k_z (by omega) (by omega) ?_
    exact ih (k + 1) _ s2 (by omega) (by omega) (by omega) q2.2
  refine k_i (fun _ => ?_) (fun _ => ?_)
  · refine k_z (by omega) (by omega) ?_
    refine k_x (by omega) (by omega) ?_
    refine k_v ?_
    refine k_z (by omega) (by omega) ?_
    refine k_x (by omega) (by omega) ?_
    refine k_v ?_
    refine k_z (by omega) (by omega) ?_
    refine k_x (by omega) (by omega) ?_
    refine k_v ?_
    refine k_c (t119 k s _ _ _ (z32 _) (z32 _) (z32 _) hR hk) ?_
    intro r1 s1 q1
    refine k_z (by omega) (by omega) ?_
    refine k_x (by omega) (by omega) ?_
    refine k_v ?_
    refine k_z (by omega) (by omega) ?_
    refine k_x (by omega) (by omega) ?_
    refine k_v ?_
    refine k_z (by omega) (by omega) ?_
    refine k_x (by omega) (by omega) ?_
    refine k_v ?_
    refine k_c q1 ?_
    intro r2 s2 q2
    refine k_p q2.1 ?_
    refine k_z (by omega) (by omega) ?_
    exact ih (k + 1) _ s2 (by omega) (by omega) (by omega) q2.2
  refine k_i (fun _ => ?_) (fun _ => ?_)
  · refine k_z (by omega) (by omega) ?_
    refine k_x (by omega) (by omega) ?_
    refine k_v ?_
    refine k_c (t120 k s _ (z32 _) hR hk) ?_
    intro r1 s1 q1
    refine k_z (by omega) (by omega) ?_
    refine k_x (by omega) (by omega) ?_
    refine k_v ?_
    refine k_c q1 ?_
    intro r2 s2 q2
    refine k_p q2.1 ?_
    refine k_z (by omega) (by omega) ?_
    exact ih (k + 1) _ s2 (by omega) (by omega) (by omega) q2.2
  refine k_i (fun _ => ?_) (fun _ => ?_)
  · refine k_c (t121 k s   hR hk) ?_
    intro r1 s1 q1
    refine k_c q1 ?_
    intro r2 s2 q2
    refine k_p q2.1 ?_
    refine k_z (by omega) (by omega) ?_
    exact ih (k + 1) _ s2 (by omega) (by omega) (by omega) q2.2
  refine k_i (fun _ => ?_) (fun _ => ?_)
  · refine k_z (by omega) (by omega) ?_
    refine k_x (by omega) (by omega) ?_
    refine k_v ?_
    refine k_c (t122 k s _ (z32 _) hR hk) ?_
    intro r1 s1 q1
    refine k_z (by omega) (by omega) ?_
    refine k_x (by omega) (by omega) ?_
    refine k_v ?_
    refine k_c q1 ?_
    intro r2 s2 q2
    refine k_p q2.1 ?_
    refine k_z (by omega) (by omega) ?_
    exact ih (k + 1) _ s2 (by omega) (by omega) (by omega) q2.2
  refine k_i (fun _ => ?_) (fun _ => ?_)
  · refine k_z (by omega) (by omega) ?_
    refine k_x (by omega) (by omega) ?_
    refine k_v ?_
    refine k_c (t123 k s _ (z32 _) hR hk) ?_
    intro r1 s1 q1
    refine k_z (by omega) (by omega) ?_
    refine k_x (by omega) (by omega) ?_
    refine k_v ?_
    refine k_c q1 ?_
    intro r2 s2 q2
    refine k_p q2.1 ?_
    refine k_z (by omega) (by omega) ?_
    exact ih (k + 1) _ s2 (by omega) (by omega) (by omega) q2.2
  refine k_i (fun _ => ?_) (fun _ => ?_)
  · refine k_z (by omega) (by omega) ?_
    refine k_x (by omega) (by omega) ?_
    refine k_v ?_
    refine k_c (t124 k s _ (z32 _) hR hk) ?_
    intro r1 s1 q1
    refine k_z (by omega) (by omega) ?_
    refine k_x (by omega) (by omega) ?_
    refine k_v ?_
    refine k_c q1 ?_
    intro r2 s2 q2
    refine k_p q2.1 ?_
    refine k_z (by omega) (by omega) ?_
    exact ih (k + 1) _ s2 (by omega) (by omega) (by omega) q2.2
  refine k_i (fun _ => ?_) (fun _ => ?_)
  · refine k_z (by omega) (by omega) ?_
    refine k_x (by omega) (by omega) ?_
    refine k_v ?_
    refine k_c (t125 k s _ (z32 _) hR hk) ?_
    intro r1 s1 q1
    refine k_z (by omega) (by omega) ?_
    refine k_x (by omega) (by omega) ?_
    refine k_v ?_
    refine k_c q1 ?_
    intro r2 s2 q2
    refine k_p q2.1 ?_
    refine k_z (by omega) (by omega) ?_
    exact ih (k + 1) _ s2 (by omega) (by omega) (by omega) q2.2
  refine k_i (fun _ => ?_) (fun _ => ?_)
  · refine k_z (by omega) (by omega) ?_
    refine k_x (by omega) (by omega) ?_
    refine k_v ?_
    refine k_c (t126 k s _ (z32 _) hR hk) ?_
    intro r1 s1 q1
    refine k_z (by omega) (by omega) ?_
    refine k_x (by omega) (by omega) ?_
    refine k_v ?_
    refine k_c q1 ?_
    intro r2 s2 q2
    refine k_p q2.1 ?_
    refine k_z (by omega) (by omega) ?_
    exact ih (k + 1) _ s2 (by omega) (by omega) (by omega) q2.2
  refine k_i (fun _ => ?_) (fun _ => ?_)
  · refine k_z (by omega) (by omega) ?_
    refine k_x (by omega) (by omega) ?_
    refine k_v ?_
    refine k_c (t127 k s _ (z32 _) hR hk) ?_
    intro r1 s1 q1
    refine k_z (by omega) (by omega) ?_
    refine k_x (by omega) (by omega) ?_
    refine k_v ?_
    refine k_c q1 ?_
    intro r2 s2 q2
    refine k_p q2.1 ?_
    refine k_z (by omega) (by omega) ?_
    exact ih (k + 1) _ s2 (by omega) (by omega) (by omega) q2.2
  refine k_i (fun _ => ?_) (fun _ => ?_)
  · refine k_z (by omega) (by omega) ?_
    refine k_x (by omega) (by omega) ?_
    refine k_v ?_
    refine k_c (t128 k s _ (z32 _) hR hk) ?_
    intro r1 s1 q1
    refine k_z (by omega) (by omega) ?_
    refine k_x (by omega) (by omega) ?_
    refine k_v ?_
    refine k_c q1 ?_
    intro r2 s2 q2
    refine k_p q2.1 ?_
    refine k_z (by omega) (by omega) ?_
    exact ih (k + 1) _ s2 (by omega) (by omega) (by omega) q2.2
  refine k_i (fun _ => ?_) (fun _ => ?_)
  · refine k_c (t129 k s   hR hk) ?_
    intro r1 s1 q1
    refine k_c q1 ?_
    intro r2 s2 q2
    refine k_p q2.1 ?_
    refine k_z (by omega) (by omega) ?_
    exact ih (k + 1) _ s2 (by omega) (by omega) (by omega) q2.2
  refine k_i (fun _ => ?_) (fun _ => ?_)
  · refine k_z (by omega) (by omega) ?_
    refine k_x (by omega) (by omega) ?_
    refine k_v ?_
    refine k_c (t130 k s _ (z32 _) hR hk) ?_
    intro r1 s1 q1
    refine k_z (by omega) (by omega) ?_
    refine k_x (by omega) (by omega) ?_
    refine k_v ?_
    refine k_c q1 ?_
    intro r2 s2 q2
    refine k_p q2.1 ?_
    refine k_z (by omega) (by omega) ?_
    exact ih (k + 1) _ s2 (by omega) (by omega) (by omega) q2.2
  refine k_i (fun _ => ?_) (fun _ => ?_)
  · refine k_c (t131 k s   hR hk) ?_
    intro r1 s1 q1
    refine k_c q1 ?_
    intro r2 s2 q2
    refine k_v ?_
    refine k_p (by rw [q2.1]; simp [zCmp]) ?_
    refine k_z (by omega) (by omega) ?_
    exact ih (k + 1) _ s2 (by omega) (by omega) (by omega) q2.2
  refine k_i (fun _ => ?_) (fun _ => ?_)
  · refine k_c (t132 k s   hR hk) ?_
    intro r1 s1 q1
    refine k_c q1 ?_
    intro r2 s2 q2
    refine k_p q2.1 ?_
    refine k_z (by omega) (by omega) ?_
    exact ih (k + 1) _ s2 (by omega) (by omega) (by omega) q2.2
  refine k_i (fun _ => ?_) (fun _ => ?_)
  · refine k_z (by omega) (by omega) ?_
    refine k_x (by omega) (by omega) ?_
    refine k_v ?_
    refine k_c (t133 k s _ (z32 _) hR hk) ?_
    intro r1 s1 q1
    refine k_z (by omega) (by omega) ?_
    refine k_x (by omega) (by omega) ?_
    refine k_v ?_
    refine k_c q1 ?_
    intro r2 s2 q2
    refine k_p q2.1 ?_
    refine k_z (by omega) (by omega) ?_
    exact ih (k + 1) _ s2 (by omega) (by omega) (by omega) q2.2
  refine k_i (fun _ => ?_) (fun _ => ?_)
  · refine k_c (t134 k s   hR hk) ?_
    intro r1 s1 q1
    refine k_c q1 ?_
    intro r2 s2 q2
    refine k_p q2.1 ?_
    refine k_z (by omega) (by omega) ?_
    exact ih (k + 1) _ s2 (by omega) (by omega) (by omega) q2.2
  refine k_i (fun _ => ?_) (fun _ => ?_)
  · refine k_z (by omega) (by omega) ?_
    refine k_x (by omega) (by omega) ?_
    refine k_v ?_
    refine k_c (t135 k s _ (z32 _) hR hk) ?_
    intro r1 s1 q1
    refine k_z (by omega) (by omega) ?_
    refine k_x (by omega) (by omega) ?_
    refine k_v ?_
    refine k_c q1 ?_
    intro r2 s2 q2
    refine k_p q2.1 ?_
    refine k_z (by omega) (by omega) ?_
    exact ih (k + 1) _ s2 (by omega) (by omega) (by omega) q2.2
  refine k_z (by omega) (by omega) ?_
  exact ih (k + 1) _ s (by omega) (by omega) (by omega) (R_up hR)
theorem law_one (hT : Towed) (X : Nat → Int32) (n0 : Nat) (hn0 : n0 ≤ 3072) (s : zS) (hR : R 0 s) : ∃ t, m295 X n0 s = some (1, t) := by
  obtain ⟨r, t, e, h⟩ := law_all hT X n0 hn0 zFu 0 0 s rfl (by omega) (by unfold zFu; omega) hR
  refine ⟨t, ?_⟩
  unfold m295
  rw [e, h]
