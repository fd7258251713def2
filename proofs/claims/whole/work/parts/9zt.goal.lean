/-! ===== the law runs to 1 on every script ===== -/
theorem towed_all : Towed := ⟨t101, t102, t103, t104, t105, t106, t107, t108, t109, t110, t111, t112, t113, t114, t115, t116, t117, t118, t119, t120, t121, t122, t123, t124, t125, t126, t127, t128, t129, t130, t131, t132, t133, t134, t135⟩
theorem i_goal : aGoal 3072 := by
  intro L xs hL
  obtain ⟨t, ht⟩ := law_one towed_all xs L hL sF R_F
  have hz : Zp (gF L xs) (667 + 333) 295 16 [some (zr 104 L aXa), some (zr 11 0 0), some (zr 12 0 209), none] [] sF (zRet (some (zi 1)) t) := c295 (G := gF L xs) zG_F ht
  have hw := hz zInv_F zOkL_F (fun v hv => by cases hv)
  rw [wS_F] at hw
  obtain ⟨n, v, h', hr, hq⟩ := c_law (n := L) (x := xs) hw
  obtain ⟨v', s', e1, e2, _, _, e3, e4⟩ := hq
  have hr2 : aRun aMs aSS n 1000 295 0 [some (.ref aXa), none, none, none] [] (aH0 L xs) = some (v, h') := hr
  have e5 : Int32.ofInt 1 = 1 := by decide
  have e6 : Option.map cv (some (zi 1)) = some (Value.int 1) := by
    show some (Value.int (Int32.ofInt 1)) = some (Value.int 1)
    rw [e5]
  rw [e1, e3, e6] at hr2
  refine ⟨n, h', hr2, ?_, ?_⟩
  · rw [e2]
    show 289 ≤ 600000
    omega
  · rw [e2]
    show 25404 ≤ 7302250
    omega
