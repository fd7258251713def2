/-! ===== the constructors: their steps 2 (by gen_init.py) ===== -/
theorem c_21 {n : Nat} {x : Nat → Int32} : Wp 998 38 0 [some (.ref 43)] [] (44, 4166, kK_44, kL_44, iI_362, jJ_44, rR_92, n, x) (fun v h => v = none ∧ h = (66, 7830, kK_66, kL_66, iI_397, jJ_66, rR_136, n, x)) := by
  refine w_seg 6 g_147 ?_
  refine w_call (zAt eM_38 rfl) rfl eM_49 rfl rfl rfl c_16 ?_
  refine w_seg 5 g_149 ?_
  refine w_call (zAt eM_38 rfl) rfl eM_49 rfl rfl rfl c_17 ?_
  refine w_seg 5 g_151 ?_
  refine w_call (zAt eM_38 rfl) rfl eM_49 rfl rfl rfl c_18 ?_
  refine w_seg 24 g_153 ?_
  refine w_seg 20 g_154 ?_
  refine w_call (zAt eM_38 rfl) rfl eM_18 rfl rfl rfl c_19 ?_
  refine w_seg 4 g_156 ?_
  refine w_call (zAt eM_38 rfl) rfl eM_18 rfl rfl rfl c_20 ?_
  refine w_seg 16 g_158 ?_
  exact w_ret (zAt eM_38 rfl) rfl ⟨rfl, rfl⟩
set_option maxRecDepth 100000 in
theorem g_159 {n : Nat} {x : Nat → Int32} : aSeg 999 100 4 163 [some (.ref 0), none] [.ref 43, .ref 0] (66, 7830, kK_66, kL_66, iI_397, jJ_66, rR_136, n, x) = some (171, [some (.ref 0), none], [.ref 66, .ref 66, .ref 0], (67, 7850, kK_67, kL_67, iI_398, jJ_67, rR_138, n, x)) := rfl
set_option maxRecDepth 100000 in
theorem g_160 {n : Nat} {x : Nat → Int32} : aSeg 998 38 6 0 [some (.ref 66)] [] (67, 7850, kK_67, kL_67, iI_398, jJ_67, rR_138, n, x) = some (11, [some (.ref 66)], [.int (Int32.ofInt 7), .ref 67, .ref 67, .ref 66], (68, 7853, kK_68, kL_68, iI_399, jJ_68, rR_139, n, x)) := rfl
set_option maxRecDepth 100000 in
theorem g_161 {n : Nat} {x : Nat → Int32} : aSeg 997 49 14 0 [some (.ref 67), some (.int (Int32.ofInt 7))] [] (68, 7853, kK_68, kL_68, iI_399, jJ_68, rR_139, n, x) = some (24, [some (.ref 67), some (.int (Int32.ofInt 7))], [], (69, 7895, kK_69, kL_69, iI_402, jJ_69, rR_141, n, x)) := rfl
theorem c_22 {n : Nat} {x : Nat → Int32} : Wp 997 49 0 [some (.ref 67), some (.int (Int32.ofInt 7))] [] (68, 7853, kK_68, kL_68, iI_399, jJ_68, rR_139, n, x) (fun v h => v = none ∧ h = (69, 7895, kK_69, kL_69, iI_402, jJ_69, rR_141, n, x)) := by
  refine w_seg 14 g_161 ?_
  exact w_ret (zAt eM_49 rfl) rfl ⟨rfl, rfl⟩
set_option maxRecDepth 100000 in
theorem g_162 {n : Nat} {x : Nat → Int32} : aSeg 998 38 5 14 [some (.ref 66)] [.ref 67, .ref 66] (69, 7895, kK_69, kL_69, iI_402, jJ_69, rR_141, n, x) = some (24, [some (.ref 66)], [.int (Int32.ofInt 8), .ref 69, .ref 69, .ref 66], (70, 7898, kK_70, kL_70, iI_403, jJ_70, rR_143, n, x)) := rfl
set_option maxRecDepth 100000 in
theorem g_163 {n : Nat} {x : Nat → Int32} : aSeg 997 49 14 0 [some (.ref 69), some (.int (Int32.ofInt 8))] [] (70, 7898, kK_70, kL_70, iI_403, jJ_70, rR_143, n, x) = some (24, [some (.ref 69), some (.int (Int32.ofInt 8))], [], (71, 7946, kK_71, kL_71, iI_406, jJ_71, rR_145, n, x)) := rfl
theorem c_23 {n : Nat} {x : Nat → Int32} : Wp 997 49 0 [some (.ref 69), some (.int (Int32.ofInt 8))] [] (70, 7898, kK_70, kL_70, iI_403, jJ_70, rR_143, n, x) (fun v h => v = none ∧ h = (71, 7946, kK_71, kL_71, iI_406, jJ_71, rR_145, n, x)) := by
  refine w_seg 14 g_163 ?_
  exact w_ret (zAt eM_49 rfl) rfl ⟨rfl, rfl⟩
set_option maxRecDepth 100000 in
theorem g_164 {n : Nat} {x : Nat → Int32} : aSeg 998 38 5 27 [some (.ref 66)] [.ref 69, .ref 66] (71, 7946, kK_71, kL_71, iI_406, jJ_71, rR_145, n, x) = some (37, [some (.ref 66)], [.int (Int32.ofInt 6), .ref 71, .ref 71, .ref 66], (72, 7949, kK_72, kL_72, iI_407, jJ_72, rR_147, n, x)) := rfl
set_option maxRecDepth 100000 in
theorem g_165 {n : Nat} {x : Nat → Int32} : aSeg 997 49 14 0 [some (.ref 71), some (.int (Int32.ofInt 6))] [] (72, 7949, kK_72, kL_72, iI_407, jJ_72, rR_147, n, x) = some (24, [some (.ref 71), some (.int (Int32.ofInt 6))], [], (73, 7985, kK_73, kL_73, iI_410, jJ_73, rR_149, n, x)) := rfl
theorem c_24 {n : Nat} {x : Nat → Int32} : Wp 997 49 0 [some (.ref 71), some (.int (Int32.ofInt 6))] [] (72, 7949, kK_72, kL_72, iI_407, jJ_72, rR_147, n, x) (fun v h => v = none ∧ h = (73, 7985, kK_73, kL_73, iI_410, jJ_73, rR_149, n, x)) := by
  refine w_seg 14 g_165 ?_
  exact w_ret (zAt eM_49 rfl) rfl ⟨rfl, rfl⟩
set_option maxRecDepth 100000 in
theorem g_166 {n : Nat} {x : Nat → Int32} : aSeg 998 38 24 40 [some (.ref 66)] [.ref 71, .ref 66] (73, 7985, kK_73, kL_73, iI_410, jJ_73, rR_149, n, x) = some (88, [some (.ref 66)], [.ref 78, .ref 66], (79, 8156, kK_79, kL_79, iI_416, jJ_79, rR_161, n, x)) := rfl
set_option maxRecDepth 100000 in
theorem g_167 {n : Nat} {x : Nat → Int32} : aSeg 998 38 20 88 [some (.ref 66)] [.ref 78, .ref 66] (79, 8156, kK_79, kL_79, iI_416, jJ_79, rR_161, n, x) = some (128, [some (.ref 66)], [.ref 83, .ref 83, .ref 66], (84, 8183, kK_84, kL_84, iI_421, jJ_84, rR_171, n, x)) := rfl
set_option maxRecDepth 100000 in
theorem g_168 {n : Nat} {x : Nat → Int32} : aSeg 997 18 13 0 [some (.ref 83)] [] (84, 8183, kK_84, kL_84, iI_421, jJ_84, rR_171, n, x) = some (26, [some (.ref 83)], [], (86, 9847, kK_86, kL_86, iI_424, jJ_86, rR_175, n, x)) := rfl
theorem c_25 {n : Nat} {x : Nat → Int32} : Wp 997 18 0 [some (.ref 83)] [] (84, 8183, kK_84, kL_84, iI_421, jJ_84, rR_171, n, x) (fun v h => v = none ∧ h = (86, 9847, kK_86, kL_86, iI_424, jJ_86, rR_175, n, x)) := by
  refine w_seg 13 g_168 ?_
  exact w_ret (zAt eM_18 rfl) rfl ⟨rfl, rfl⟩
set_option maxRecDepth 100000 in
theorem g_169 {n : Nat} {x : Nat → Int32} : aSeg 998 38 4 131 [some (.ref 66)] [.ref 83, .ref 66] (86, 9847, kK_86, kL_86, iI_424, jJ_86, rR_175, n, x) = some (139, [some (.ref 66)], [.ref 86, .ref 86, .ref 66], (87, 9850, kK_87, kL_87, iI_425, jJ_87, rR_177, n, x)) := rfl
set_option maxRecDepth 100000 in
theorem g_170 {n : Nat} {x : Nat → Int32} : aSeg 997 18 13 0 [some (.ref 86)] [] (87, 9850, kK_87, kL_87, iI_425, jJ_87, rR_177, n, x) = some (26, [some (.ref 86)], [], (89, 11514, kK_89, kL_89, iI_428, jJ_89, rR_181, n, x)) := rfl
theorem c_26 {n : Nat} {x : Nat → Int32} : Wp 997 18 0 [some (.ref 86)] [] (87, 9850, kK_87, kL_87, iI_425, jJ_87, rR_177, n, x) (fun v h => v = none ∧ h = (89, 11514, kK_89, kL_89, iI_428, jJ_89, rR_181, n, x)) := by
  refine w_seg 13 g_170 ?_
  exact w_ret (zAt eM_18 rfl) rfl ⟨rfl, rfl⟩
set_option maxRecDepth 100000 in
theorem g_171 {n : Nat} {x : Nat → Int32} : aSeg 998 38 16 142 [some (.ref 66)] [.ref 86, .ref 66] (89, 11514, kK_89, kL_89, iI_428, jJ_89, rR_181, n, x) = some (170, [some (.ref 66)], [], (89, 11514, kK_89, kL_89, iI_433, jJ_89, rR_182, n, x)) := rfl
theorem c_27 {n : Nat} {x : Nat → Int32} : Wp 998 38 0 [some (.ref 66)] [] (67, 7850, kK_67, kL_67, iI_398, jJ_67, rR_138, n, x) (fun v h => v = none ∧ h = (89, 11514, kK_89, kL_89, iI_433, jJ_89, rR_182, n, x)) := by
  refine w_seg 6 g_160 ?_
  refine w_call (zAt eM_38 rfl) rfl eM_49 rfl rfl rfl c_22 ?_
  refine w_seg 5 g_162 ?_
  refine w_call (zAt eM_38 rfl) rfl eM_49 rfl rfl rfl c_23 ?_
  refine w_seg 5 g_164 ?_
  refine w_call (zAt eM_38 rfl) rfl eM_49 rfl rfl rfl c_24 ?_
  refine w_seg 24 g_166 ?_
  refine w_seg 20 g_167 ?_
  refine w_call (zAt eM_38 rfl) rfl eM_18 rfl rfl rfl c_25 ?_
  refine w_seg 4 g_169 ?_
  refine w_call (zAt eM_38 rfl) rfl eM_18 rfl rfl rfl c_26 ?_
  refine w_seg 16 g_171 ?_
  exact w_ret (zAt eM_38 rfl) rfl ⟨rfl, rfl⟩
set_option maxRecDepth 100000 in
theorem g_172 {n : Nat} {x : Nat → Int32} : aSeg 999 100 23 174 [some (.ref 0), none] [.ref 66, .ref 0] (89, 11514, kK_89, kL_89, iI_433, jJ_89, rR_182, n, x) = some (214, [some (.ref 0), some (.int (Int32.ofInt 0))], [.ref 89, .ref 89, .int (Int32.ofInt 0), .ref 40], (90, 11522, kK_90, kL_90, iI_438, jJ_90, rR_184, n, x)) := rfl
set_option maxRecDepth 100000 in
theorem g_173 {n : Nat} {x : Nat → Int32} : aSeg 998 55 24 0 [some (.ref 89)] [] (90, 11522, kK_90, kL_90, iI_438, jJ_90, rR_184, n, x) = some (46, [some (.ref 89)], [.int (Int32.ofInt 0), .ref 89], (95, 11556, kK_95, kL_95, iI_443, jJ_95, rR_194, n, x)) := rfl
set_option maxRecDepth 100000 in
theorem g_174 {n : Nat} {x : Nat → Int32} : aSeg 998 55 7 46 [some (.ref 89)] [.int (Int32.ofInt 0), .ref 89] (95, 11556, kK_95, kL_95, iI_443, jJ_95, rR_194, n, x) = some (59, [some (.ref 89)], [], (95, 11556, kK_95, kL_95, iI_446, jJ_95, rR_194, n, x)) := rfl
theorem c_28 {n : Nat} {x : Nat → Int32} : Wp 998 55 0 [some (.ref 89)] [] (90, 11522, kK_90, kL_90, iI_438, jJ_90, rR_184, n, x) (fun v h => v = none ∧ h = (95, 11556, kK_95, kL_95, iI_446, jJ_95, rR_194, n, x)) := by
  refine w_seg 24 g_173 ?_
  refine w_seg 7 g_174 ?_
  exact w_ret (zAt eM_55 rfl) rfl ⟨rfl, rfl⟩
set_option maxRecDepth 100000 in
theorem g_175 {n : Nat} {x : Nat → Int32} : aSeg 999 100 11 217 [some (.ref 0), some (.int (Int32.ofInt 0))] [.ref 89, .int (Int32.ofInt 0), .ref 40] (95, 11556, kK_95, kL_95, iI_446, jJ_95, rR_194, n, x) = some (214, [some (.ref 0), some (.int (Int32.ofInt 1))], [.ref 95, .ref 95, .int (Int32.ofInt 1), .ref 40], (96, 11564, kK_96, kL_96, iI_447, jJ_96, rR_196, n, x)) := rfl
set_option maxRecDepth 100000 in
theorem g_176 {n : Nat} {x : Nat → Int32} : aSeg 998 55 24 0 [some (.ref 95)] [] (96, 11564, kK_96, kL_96, iI_447, jJ_96, rR_196, n, x) = some (46, [some (.ref 95)], [.int (Int32.ofInt 0), .ref 95], (101, 11598, kK_101, kL_101, iI_452, jJ_101, rR_206, n, x)) := rfl
set_option maxRecDepth 100000 in
theorem g_177 {n : Nat} {x : Nat → Int32} : aSeg 998 55 7 46 [some (.ref 95)] [.int (Int32.ofInt 0), .ref 95] (101, 11598, kK_101, kL_101, iI_452, jJ_101, rR_206, n, x) = some (59, [some (.ref 95)], [], (101, 11598, kK_101, kL_101, iI_455, jJ_101, rR_206, n, x)) := rfl
theorem c_29 {n : Nat} {x : Nat → Int32} : Wp 998 55 0 [some (.ref 95)] [] (96, 11564, kK_96, kL_96, iI_447, jJ_96, rR_196, n, x) (fun v h => v = none ∧ h = (101, 11598, kK_101, kL_101, iI_455, jJ_101, rR_206, n, x)) := by
  refine w_seg 24 g_176 ?_
  refine w_seg 7 g_177 ?_
  exact w_ret (zAt eM_55 rfl) rfl ⟨rfl, rfl⟩
set_option maxRecDepth 100000 in
theorem g_178 {n : Nat} {x : Nat → Int32} : aSeg 999 100 11 217 [some (.ref 0), some (.int (Int32.ofInt 1))] [.ref 95, .int (Int32.ofInt 1), .ref 40] (101, 11598, kK_101, kL_101, iI_455, jJ_101, rR_206, n, x) = some (214, [some (.ref 0), some (.int (Int32.ofInt 2))], [.ref 101, .ref 101, .int (Int32.ofInt 2), .ref 40], (102, 11606, kK_102, kL_102, iI_456, jJ_102, rR_208, n, x)) := rfl
set_option maxRecDepth 100000 in
theorem g_179 {n : Nat} {x : Nat → Int32} : aSeg 998 55 24 0 [some (.ref 101)] [] (102, 11606, kK_102, kL_102, iI_456, jJ_102, rR_208, n, x) = some (46, [some (.ref 101)], [.int (Int32.ofInt 0), .ref 101], (107, 11640, kK_107, kL_107, iI_461, jJ_107, rR_218, n, x)) := rfl
set_option maxRecDepth 100000 in
theorem g_180 {n : Nat} {x : Nat → Int32} : aSeg 998 55 7 46 [some (.ref 101)] [.int (Int32.ofInt 0), .ref 101] (107, 11640, kK_107, kL_107, iI_461, jJ_107, rR_218, n, x) = some (59, [some (.ref 101)], [], (107, 11640, kK_107, kL_107, iI_464, jJ_107, rR_218, n, x)) := rfl
theorem c_30 {n : Nat} {x : Nat → Int32} : Wp 998 55 0 [some (.ref 101)] [] (102, 11606, kK_102, kL_102, iI_456, jJ_102, rR_208, n, x) (fun v h => v = none ∧ h = (107, 11640, kK_107, kL_107, iI_464, jJ_107, rR_218, n, x)) := by
  refine w_seg 24 g_179 ?_
  refine w_seg 7 g_180 ?_
  exact w_ret (zAt eM_55 rfl) rfl ⟨rfl, rfl⟩
set_option maxRecDepth 100000 in
theorem g_181 {n : Nat} {x : Nat → Int32} : aSeg 999 100 11 217 [some (.ref 0), some (.int (Int32.ofInt 2))] [.ref 101, .int (Int32.ofInt 2), .ref 40] (107, 11640, kK_107, kL_107, iI_464, jJ_107, rR_218, n, x) = some (214, [some (.ref 0), some (.int (Int32.ofInt 3))], [.ref 107, .ref 107, .int (Int32.ofInt 3), .ref 40], (108, 11648, kK_108, kL_108, iI_465, jJ_108, rR_220, n, x)) := rfl
set_option maxRecDepth 100000 in
theorem g_182 {n : Nat} {x : Nat → Int32} : aSeg 998 55 24 0 [some (.ref 107)] [] (108, 11648, kK_108, kL_108, iI_465, jJ_108, rR_220, n, x) = some (46, [some (.ref 107)], [.int (Int32.ofInt 0), .ref 107], (113, 11682, kK_113, kL_113, iI_470, jJ_113, rR_230, n, x)) := rfl
set_option maxRecDepth 100000 in
theorem g_183 {n : Nat} {x : Nat → Int32} : aSeg 998 55 7 46 [some (.ref 107)] [.int (Int32.ofInt 0), .ref 107] (113, 11682, kK_113, kL_113, iI_470, jJ_113, rR_230, n, x) = some (59, [some (.ref 107)], [], (113, 11682, kK_113, kL_113, iI_473, jJ_113, rR_230, n, x)) := rfl
theorem c_31 {n : Nat} {x : Nat → Int32} : Wp 998 55 0 [some (.ref 107)] [] (108, 11648, kK_108, kL_108, iI_465, jJ_108, rR_220, n, x) (fun v h => v = none ∧ h = (113, 11682, kK_113, kL_113, iI_473, jJ_113, rR_230, n, x)) := by
  refine w_seg 24 g_182 ?_
  refine w_seg 7 g_183 ?_
  exact w_ret (zAt eM_55 rfl) rfl ⟨rfl, rfl⟩
set_option maxRecDepth 100000 in
theorem g_184 {n : Nat} {x : Nat → Int32} : aSeg 999 100 11 217 [some (.ref 0), some (.int (Int32.ofInt 3))] [.ref 107, .int (Int32.ofInt 3), .ref 40] (113, 11682, kK_113, kL_113, iI_473, jJ_113, rR_230, n, x) = some (214, [some (.ref 0), some (.int (Int32.ofInt 4))], [.ref 113, .ref 113, .int (Int32.ofInt 4), .ref 40], (114, 11690, kK_114, kL_114, iI_474, jJ_114, rR_232, n, x)) := rfl
set_option maxRecDepth 100000 in
theorem g_185 {n : Nat} {x : Nat → Int32} : aSeg 998 55 24 0 [some (.ref 113)] [] (114, 11690, kK_114, kL_114, iI_474, jJ_114, rR_232, n, x) = some (46, [some (.ref 113)], [.int (Int32.ofInt 0), .ref 113], (119, 11724, kK_119, kL_119, iI_479, jJ_119, rR_242, n, x)) := rfl
set_option maxRecDepth 100000 in
theorem g_186 {n : Nat} {x : Nat → Int32} : aSeg 998 55 7 46 [some (.ref 113)] [.int (Int32.ofInt 0), .ref 113] (119, 11724, kK_119, kL_119, iI_479, jJ_119, rR_242, n, x) = some (59, [some (.ref 113)], [], (119, 11724, kK_119, kL_119, iI_482, jJ_119, rR_242, n, x)) := rfl
theorem c_32 {n : Nat} {x : Nat → Int32} : Wp 998 55 0 [some (.ref 113)] [] (114, 11690, kK_114, kL_114, iI_474, jJ_114, rR_232, n, x) (fun v h => v = none ∧ h = (119, 11724, kK_119, kL_119, iI_482, jJ_119, rR_242, n, x)) := by
  refine w_seg 24 g_185 ?_
  refine w_seg 7 g_186 ?_
  exact w_ret (zAt eM_55 rfl) rfl ⟨rfl, rfl⟩
set_option maxRecDepth 100000 in
theorem g_187 {n : Nat} {x : Nat → Int32} : aSeg 999 100 11 217 [some (.ref 0), some (.int (Int32.ofInt 4))] [.ref 113, .int (Int32.ofInt 4), .ref 40] (119, 11724, kK_119, kL_119, iI_482, jJ_119, rR_242, n, x) = some (214, [some (.ref 0), some (.int (Int32.ofInt 5))], [.ref 119, .ref 119, .int (Int32.ofInt 5), .ref 40], (120, 11732, kK_120, kL_120, iI_483, jJ_120, rR_244, n, x)) := rfl
set_option maxRecDepth 100000 in
theorem g_188 {n : Nat} {x : Nat → Int32} : aSeg 998 55 24 0 [some (.ref 119)] [] (120, 11732, kK_120, kL_120, iI_483, jJ_120, rR_244, n, x) = some (46, [some (.ref 119)], [.int (Int32.ofInt 0), .ref 119], (125, 11766, kK_125, kL_125, iI_488, jJ_125, rR_254, n, x)) := rfl
set_option maxRecDepth 100000 in
theorem g_189 {n : Nat} {x : Nat → Int32} : aSeg 998 55 7 46 [some (.ref 119)] [.int (Int32.ofInt 0), .ref 119] (125, 11766, kK_125, kL_125, iI_488, jJ_125, rR_254, n, x) = some (59, [some (.ref 119)], [], (125, 11766, kK_125, kL_125, iI_491, jJ_125, rR_254, n, x)) := rfl
theorem c_33 {n : Nat} {x : Nat → Int32} : Wp 998 55 0 [some (.ref 119)] [] (120, 11732, kK_120, kL_120, iI_483, jJ_120, rR_244, n, x) (fun v h => v = none ∧ h = (125, 11766, kK_125, kL_125, iI_491, jJ_125, rR_254, n, x)) := by
  refine w_seg 24 g_188 ?_
  refine w_seg 7 g_189 ?_
  exact w_ret (zAt eM_55 rfl) rfl ⟨rfl, rfl⟩
set_option maxRecDepth 100000 in
theorem g_190 {n : Nat} {x : Nat → Int32} : aSeg 999 100 11 217 [some (.ref 0), some (.int (Int32.ofInt 5))] [.ref 119, .int (Int32.ofInt 5), .ref 40] (125, 11766, kK_125, kL_125, iI_491, jJ_125, rR_254, n, x) = some (214, [some (.ref 0), some (.int (Int32.ofInt 6))], [.ref 125, .ref 125, .int (Int32.ofInt 6), .ref 40], (126, 11774, kK_126, kL_126, iI_492, jJ_126, rR_256, n, x)) := rfl
set_option maxRecDepth 100000 in
theorem g_191 {n : Nat} {x : Nat → Int32} : aSeg 998 55 24 0 [some (.ref 125)] [] (126, 11774, kK_126, kL_126, iI_492, jJ_126, rR_256, n, x) = some (46, [some (.ref 125)], [.int (Int32.ofInt 0), .ref 125], (131, 11808, kK_131, kL_131, iI_497, jJ_131, rR_266, n, x)) := rfl
set_option maxRecDepth 100000 in
theorem g_192 {n : Nat} {x : Nat → Int32} : aSeg 998 55 7 46 [some (.ref 125)] [.int (Int32.ofInt 0), .ref 125] (131, 11808, kK_131, kL_131, iI_497, jJ_131, rR_266, n, x) = some (59, [some (.ref 125)], [], (131, 11808, kK_131, kL_131, iI_500, jJ_131, rR_266, n, x)) := rfl
theorem c_34 {n : Nat} {x : Nat → Int32} : Wp 998 55 0 [some (.ref 125)] [] (126, 11774, kK_126, kL_126, iI_492, jJ_126, rR_256, n, x) (fun v h => v = none ∧ h = (131, 11808, kK_131, kL_131, iI_500, jJ_131, rR_266, n, x)) := by
  refine w_seg 24 g_191 ?_
  refine w_seg 7 g_192 ?_
  exact w_ret (zAt eM_55 rfl) rfl ⟨rfl, rfl⟩
set_option maxRecDepth 100000 in
theorem g_193 {n : Nat} {x : Nat → Int32} : aSeg 999 100 11 217 [some (.ref 0), some (.int (Int32.ofInt 6))] [.ref 125, .int (Int32.ofInt 6), .ref 40] (131, 11808, kK_131, kL_131, iI_500, jJ_131, rR_266, n, x) = some (214, [some (.ref 0), some (.int (Int32.ofInt 7))], [.ref 131, .ref 131, .int (Int32.ofInt 7), .ref 40], (132, 11816, kK_132, kL_132, iI_501, jJ_132, rR_268, n, x)) := rfl
set_option maxRecDepth 100000 in
theorem g_194 {n : Nat} {x : Nat → Int32} : aSeg 998 55 24 0 [some (.ref 131)] [] (132, 11816, kK_132, kL_132, iI_501, jJ_132, rR_268, n, x) = some (46, [some (.ref 131)], [.int (Int32.ofInt 0), .ref 131], (137, 11850, kK_137, kL_137, iI_506, jJ_137, rR_278, n, x)) := rfl
set_option maxRecDepth 100000 in
theorem g_195 {n : Nat} {x : Nat → Int32} : aSeg 998 55 7 46 [some (.ref 131)] [.int (Int32.ofInt 0), .ref 131] (137, 11850, kK_137, kL_137, iI_506, jJ_137, rR_278, n, x) = some (59, [some (.ref 131)], [], (137, 11850, kK_137, kL_137, iI_509, jJ_137, rR_278, n, x)) := rfl
theorem c_35 {n : Nat} {x : Nat → Int32} : Wp 998 55 0 [some (.ref 131)] [] (132, 11816, kK_132, kL_132, iI_501, jJ_132, rR_268, n, x) (fun v h => v = none ∧ h = (137, 11850, kK_137, kL_137, iI_509, jJ_137, rR_278, n, x)) := by
  refine w_seg 24 g_194 ?_
  refine w_seg 7 g_195 ?_
  exact w_ret (zAt eM_55 rfl) rfl ⟨rfl, rfl⟩
set_option maxRecDepth 100000 in
theorem g_196 {n : Nat} {x : Nat → Int32} : aSeg 999 100 11 217 [some (.ref 0), some (.int (Int32.ofInt 7))] [.ref 131, .int (Int32.ofInt 7), .ref 40] (137, 11850, kK_137, kL_137, iI_509, jJ_137, rR_278, n, x) = some (214, [some (.ref 0), some (.int (Int32.ofInt 8))], [.ref 137, .ref 137, .int (Int32.ofInt 8), .ref 40], (138, 11858, kK_138, kL_138, iI_510, jJ_138, rR_280, n, x)) := rfl
set_option maxRecDepth 100000 in
theorem g_197 {n : Nat} {x : Nat → Int32} : aSeg 998 55 24 0 [some (.ref 137)] [] (138, 11858, kK_138, kL_138, iI_510, jJ_138, rR_280, n, x) = some (46, [some (.ref 137)], [.int (Int32.ofInt 0), .ref 137], (143, 11892, kK_143, kL_143, iI_515, jJ_143, rR_290, n, x)) := rfl
set_option maxRecDepth 100000 in
theorem g_198 {n : Nat} {x : Nat → Int32} : aSeg 998 55 7 46 [some (.ref 137)] [.int (Int32.ofInt 0), .ref 137] (143, 11892, kK_143, kL_143, iI_515, jJ_143, rR_290, n, x) = some (59, [some (.ref 137)], [], (143, 11892, kK_143, kL_143, iI_518, jJ_143, rR_290, n, x)) := rfl
theorem c_36 {n : Nat} {x : Nat → Int32} : Wp 998 55 0 [some (.ref 137)] [] (138, 11858, kK_138, kL_138, iI_510, jJ_138, rR_280, n, x) (fun v h => v = none ∧ h = (143, 11892, kK_143, kL_143, iI_518, jJ_143, rR_290, n, x)) := by
  refine w_seg 24 g_197 ?_
  refine w_seg 7 g_198 ?_
  exact w_ret (zAt eM_55 rfl) rfl ⟨rfl, rfl⟩
set_option maxRecDepth 100000 in
theorem g_199 {n : Nat} {x : Nat → Int32} : aSeg 999 100 11 217 [some (.ref 0), some (.int (Int32.ofInt 8))] [.ref 137, .int (Int32.ofInt 8), .ref 40] (143, 11892, kK_143, kL_143, iI_518, jJ_143, rR_290, n, x) = some (214, [some (.ref 0), some (.int (Int32.ofInt 9))], [.ref 143, .ref 143, .int (Int32.ofInt 9), .ref 40], (144, 11900, kK_144, kL_144, iI_519, jJ_144, rR_292, n, x)) := rfl
set_option maxRecDepth 100000 in
theorem g_200 {n : Nat} {x : Nat → Int32} : aSeg 998 55 24 0 [some (.ref 143)] [] (144, 11900, kK_144, kL_144, iI_519, jJ_144, rR_292, n, x) = some (46, [some (.ref 143)], [.int (Int32.ofInt 0), .ref 143], (149, 11934, kK_149, kL_149, iI_524, jJ_149, rR_302, n, x)) := rfl
set_option maxRecDepth 100000 in
theorem g_201 {n : Nat} {x : Nat → Int32} : aSeg 998 55 7 46 [some (.ref 143)] [.int (Int32.ofInt 0), .ref 143] (149, 11934, kK_149, kL_149, iI_524, jJ_149, rR_302, n, x) = some (59, [some (.ref 143)], [], (149, 11934, kK_149, kL_149, iI_527, jJ_149, rR_302, n, x)) := rfl
theorem c_37 {n : Nat} {x : Nat → Int32} : Wp 998 55 0 [some (.ref 143)] [] (144, 11900, kK_144, kL_144, iI_519, jJ_144, rR_292, n, x) (fun v h => v = none ∧ h = (149, 11934, kK_149, kL_149, iI_527, jJ_149, rR_302, n, x)) := by
  refine w_seg 24 g_200 ?_
  refine w_seg 7 g_201 ?_
  exact w_ret (zAt eM_55 rfl) rfl ⟨rfl, rfl⟩
set_option maxRecDepth 100000 in
theorem g_202 {n : Nat} {x : Nat → Int32} : aSeg 999 100 11 217 [some (.ref 0), some (.int (Int32.ofInt 9))] [.ref 143, .int (Int32.ofInt 9), .ref 40] (149, 11934, kK_149, kL_149, iI_527, jJ_149, rR_302, n, x) = some (214, [some (.ref 0), some (.int (Int32.ofInt 10))], [.ref 149, .ref 149, .int (Int32.ofInt 10), .ref 40], (150, 11942, kK_150, kL_150, iI_528, jJ_150, rR_304, n, x)) := rfl
set_option maxRecDepth 100000 in
theorem g_203 {n : Nat} {x : Nat → Int32} : aSeg 998 55 24 0 [some (.ref 149)] [] (150, 11942, kK_150, kL_150, iI_528, jJ_150, rR_304, n, x) = some (46, [some (.ref 149)], [.int (Int32.ofInt 0), .ref 149], (155, 11976, kK_155, kL_155, iI_533, jJ_155, rR_314, n, x)) := rfl
set_option maxRecDepth 100000 in
theorem g_204 {n : Nat} {x : Nat → Int32} : aSeg 998 55 7 46 [some (.ref 149)] [.int (Int32.ofInt 0), .ref 149] (155, 11976, kK_155, kL_155, iI_533, jJ_155, rR_314, n, x) = some (59, [some (.ref 149)], [], (155, 11976, kK_155, kL_155, iI_536, jJ_155, rR_314, n, x)) := rfl
theorem c_38 {n : Nat} {x : Nat → Int32} : Wp 998 55 0 [some (.ref 149)] [] (150, 11942, kK_150, kL_150, iI_528, jJ_150, rR_304, n, x) (fun v h => v = none ∧ h = (155, 11976, kK_155, kL_155, iI_536, jJ_155, rR_314, n, x)) := by
  refine w_seg 24 g_203 ?_
  refine w_seg 7 g_204 ?_
  exact w_ret (zAt eM_55 rfl) rfl ⟨rfl, rfl⟩
set_option maxRecDepth 100000 in
theorem g_205 {n : Nat} {x : Nat → Int32} : aSeg 999 100 11 217 [some (.ref 0), some (.int (Int32.ofInt 10))] [.ref 149, .int (Int32.ofInt 10), .ref 40] (155, 11976, kK_155, kL_155, iI_536, jJ_155, rR_314, n, x) = some (214, [some (.ref 0), some (.int (Int32.ofInt 11))], [.ref 155, .ref 155, .int (Int32.ofInt 11), .ref 40], (156, 11984, kK_156, kL_156, iI_537, jJ_156, rR_316, n, x)) := rfl
set_option maxRecDepth 100000 in
theorem g_206 {n : Nat} {x : Nat → Int32} : aSeg 998 55 24 0 [some (.ref 155)] [] (156, 11984, kK_156, kL_156, iI_537, jJ_156, rR_316, n, x) = some (46, [some (.ref 155)], [.int (Int32.ofInt 0), .ref 155], (161, 12018, kK_161, kL_161, iI_542, jJ_161, rR_326, n, x)) := rfl
set_option maxRecDepth 100000 in
theorem g_207 {n : Nat} {x : Nat → Int32} : aSeg 998 55 7 46 [some (.ref 155)] [.int (Int32.ofInt 0), .ref 155] (161, 12018, kK_161, kL_161, iI_542, jJ_161, rR_326, n, x) = some (59, [some (.ref 155)], [], (161, 12018, kK_161, kL_161, iI_545, jJ_161, rR_326, n, x)) := rfl
theorem c_39 {n : Nat} {x : Nat → Int32} : Wp 998 55 0 [some (.ref 155)] [] (156, 11984, kK_156, kL_156, iI_537, jJ_156, rR_316, n, x) (fun v h => v = none ∧ h = (161, 12018, kK_161, kL_161, iI_545, jJ_161, rR_326, n, x)) := by
  refine w_seg 24 g_206 ?_
  refine w_seg 7 g_207 ?_
  exact w_ret (zAt eM_55 rfl) rfl ⟨rfl, rfl⟩
set_option maxRecDepth 100000 in
theorem g_208 {n : Nat} {x : Nat → Int32} : aSeg 999 100 11 217 [some (.ref 0), some (.int (Int32.ofInt 11))] [.ref 155, .int (Int32.ofInt 11), .ref 40] (161, 12018, kK_161, kL_161, iI_545, jJ_161, rR_326, n, x) = some (214, [some (.ref 0), some (.int (Int32.ofInt 12))], [.ref 161, .ref 161, .int (Int32.ofInt 12), .ref 40], (162, 12026, kK_162, kL_162, iI_546, jJ_162, rR_328, n, x)) := rfl
set_option maxRecDepth 100000 in
theorem g_209 {n : Nat} {x : Nat → Int32} : aSeg 998 55 24 0 [some (.ref 161)] [] (162, 12026, kK_162, kL_162, iI_546, jJ_162, rR_328, n, x) = some (46, [some (.ref 161)], [.int (Int32.ofInt 0), .ref 161], (167, 12060, kK_167, kL_167, iI_551, jJ_167, rR_338, n, x)) := rfl
set_option maxRecDepth 100000 in
theorem g_210 {n : Nat} {x : Nat → Int32} : aSeg 998 55 7 46 [some (.ref 161)] [.int (Int32.ofInt 0), .ref 161] (167, 12060, kK_167, kL_167, iI_551, jJ_167, rR_338, n, x) = some (59, [some (.ref 161)], [], (167, 12060, kK_167, kL_167, iI_554, jJ_167, rR_338, n, x)) := rfl
theorem c_40 {n : Nat} {x : Nat → Int32} : Wp 998 55 0 [some (.ref 161)] [] (162, 12026, kK_162, kL_162, iI_546, jJ_162, rR_328, n, x) (fun v h => v = none ∧ h = (167, 12060, kK_167, kL_167, iI_554, jJ_167, rR_338, n, x)) := by
  refine w_seg 24 g_209 ?_
  refine w_seg 7 g_210 ?_
  exact w_ret (zAt eM_55 rfl) rfl ⟨rfl, rfl⟩
set_option maxRecDepth 100000 in
theorem g_211 {n : Nat} {x : Nat → Int32} : aSeg 999 100 11 217 [some (.ref 0), some (.int (Int32.ofInt 12))] [.ref 161, .int (Int32.ofInt 12), .ref 40] (167, 12060, kK_167, kL_167, iI_554, jJ_167, rR_338, n, x) = some (214, [some (.ref 0), some (.int (Int32.ofInt 13))], [.ref 167, .ref 167, .int (Int32.ofInt 13), .ref 40], (168, 12068, kK_168, kL_168, iI_555, jJ_168, rR_340, n, x)) := rfl
set_option maxRecDepth 100000 in
theorem g_212 {n : Nat} {x : Nat → Int32} : aSeg 998 55 24 0 [some (.ref 167)] [] (168, 12068, kK_168, kL_168, iI_555, jJ_168, rR_340, n, x) = some (46, [some (.ref 167)], [.int (Int32.ofInt 0), .ref 167], (173, 12102, kK_173, kL_173, iI_560, jJ_173, rR_350, n, x)) := rfl
set_option maxRecDepth 100000 in
theorem g_213 {n : Nat} {x : Nat → Int32} : aSeg 998 55 7 46 [some (.ref 167)] [.int (Int32.ofInt 0), .ref 167] (173, 12102, kK_173, kL_173, iI_560, jJ_173, rR_350, n, x) = some (59, [some (.ref 167)], [], (173, 12102, kK_173, kL_173, iI_563, jJ_173, rR_350, n, x)) := rfl
theorem c_41 {n : Nat} {x : Nat → Int32} : Wp 998 55 0 [some (.ref 167)] [] (168, 12068, kK_168, kL_168, iI_555, jJ_168, rR_340, n, x) (fun v h => v = none ∧ h = (173, 12102, kK_173, kL_173, iI_563, jJ_173, rR_350, n, x)) := by
  refine w_seg 24 g_212 ?_
  refine w_seg 7 g_213 ?_
  exact w_ret (zAt eM_55 rfl) rfl ⟨rfl, rfl⟩
set_option maxRecDepth 100000 in
theorem g_214 {n : Nat} {x : Nat → Int32} : aSeg 999 100 11 217 [some (.ref 0), some (.int (Int32.ofInt 13))] [.ref 167, .int (Int32.ofInt 13), .ref 40] (173, 12102, kK_173, kL_173, iI_563, jJ_173, rR_350, n, x) = some (214, [some (.ref 0), some (.int (Int32.ofInt 14))], [.ref 173, .ref 173, .int (Int32.ofInt 14), .ref 40], (174, 12110, kK_174, kL_174, iI_564, jJ_174, rR_352, n, x)) := rfl
set_option maxRecDepth 100000 in
theorem g_215 {n : Nat} {x : Nat → Int32} : aSeg 998 55 24 0 [some (.ref 173)] [] (174, 12110, kK_174, kL_174, iI_564, jJ_174, rR_352, n, x) = some (46, [some (.ref 173)], [.int (Int32.ofInt 0), .ref 173], (179, 12144, kK_179, kL_179, iI_569, jJ_179, rR_362, n, x)) := rfl
set_option maxRecDepth 100000 in
theorem g_216 {n : Nat} {x : Nat → Int32} : aSeg 998 55 7 46 [some (.ref 173)] [.int (Int32.ofInt 0), .ref 173] (179, 12144, kK_179, kL_179, iI_569, jJ_179, rR_362, n, x) = some (59, [some (.ref 173)], [], (179, 12144, kK_179, kL_179, iI_572, jJ_179, rR_362, n, x)) := rfl
theorem c_42 {n : Nat} {x : Nat → Int32} : Wp 998 55 0 [some (.ref 173)] [] (174, 12110, kK_174, kL_174, iI_564, jJ_174, rR_352, n, x) (fun v h => v = none ∧ h = (179, 12144, kK_179, kL_179, iI_572, jJ_179, rR_362, n, x)) := by
  refine w_seg 24 g_215 ?_
  refine w_seg 7 g_216 ?_
  exact w_ret (zAt eM_55 rfl) rfl ⟨rfl, rfl⟩
set_option maxRecDepth 100000 in
theorem g_217 {n : Nat} {x : Nat → Int32} : aSeg 999 100 11 217 [some (.ref 0), some (.int (Int32.ofInt 14))] [.ref 173, .int (Int32.ofInt 14), .ref 40] (179, 12144, kK_179, kL_179, iI_572, jJ_179, rR_362, n, x) = some (214, [some (.ref 0), some (.int (Int32.ofInt 15))], [.ref 179, .ref 179, .int (Int32.ofInt 15), .ref 40], (180, 12152, kK_180, kL_180, iI_573, jJ_180, rR_364, n, x)) := rfl
set_option maxRecDepth 100000 in
theorem g_218 {n : Nat} {x : Nat → Int32} : aSeg 998 55 24 0 [some (.ref 179)] [] (180, 12152, kK_180, kL_180, iI_573, jJ_180, rR_364, n, x) = some (46, [some (.ref 179)], [.int (Int32.ofInt 0), .ref 179], (185, 12186, kK_185, kL_185, iI_578, jJ_185, rR_374, n, x)) := rfl
set_option maxRecDepth 100000 in
theorem g_219 {n : Nat} {x : Nat → Int32} : aSeg 998 55 7 46 [some (.ref 179)] [.int (Int32.ofInt 0), .ref 179] (185, 12186, kK_185, kL_185, iI_578, jJ_185, rR_374, n, x) = some (59, [some (.ref 179)], [], (185, 12186, kK_185, kL_185, iI_581, jJ_185, rR_374, n, x)) := rfl
theorem c_43 {n : Nat} {x : Nat → Int32} : Wp 998 55 0 [some (.ref 179)] [] (180, 12152, kK_180, kL_180, iI_573, jJ_180, rR_364, n, x) (fun v h => v = none ∧ h = (185, 12186, kK_185, kL_185, iI_581, jJ_185, rR_374, n, x)) := by
  refine w_seg 24 g_218 ?_
  refine w_seg 7 g_219 ?_
  exact w_ret (zAt eM_55 rfl) rfl ⟨rfl, rfl⟩
set_option maxRecDepth 100000 in
theorem g_220 {n : Nat} {x : Nat → Int32} : aSeg 999 100 11 217 [some (.ref 0), some (.int (Int32.ofInt 15))] [.ref 179, .int (Int32.ofInt 15), .ref 40] (185, 12186, kK_185, kL_185, iI_581, jJ_185, rR_374, n, x) = some (214, [some (.ref 0), some (.int (Int32.ofInt 16))], [.ref 185, .ref 185, .int (Int32.ofInt 16), .ref 40], (186, 12194, kK_186, kL_186, iI_582, jJ_186, rR_376, n, x)) := rfl
set_option maxRecDepth 100000 in
theorem g_221 {n : Nat} {x : Nat → Int32} : aSeg 998 55 24 0 [some (.ref 185)] [] (186, 12194, kK_186, kL_186, iI_582, jJ_186, rR_376, n, x) = some (46, [some (.ref 185)], [.int (Int32.ofInt 0), .ref 185], (191, 12228, kK_191, kL_191, iI_587, jJ_191, rR_386, n, x)) := rfl
set_option maxRecDepth 100000 in
theorem g_222 {n : Nat} {x : Nat → Int32} : aSeg 998 55 7 46 [some (.ref 185)] [.int (Int32.ofInt 0), .ref 185] (191, 12228, kK_191, kL_191, iI_587, jJ_191, rR_386, n, x) = some (59, [some (.ref 185)], [], (191, 12228, kK_191, kL_191, iI_590, jJ_191, rR_386, n, x)) := rfl
theorem c_44 {n : Nat} {x : Nat → Int32} : Wp 998 55 0 [some (.ref 185)] [] (186, 12194, kK_186, kL_186, iI_582, jJ_186, rR_376, n, x) (fun v h => v = none ∧ h = (191, 12228, kK_191, kL_191, iI_590, jJ_191, rR_386, n, x)) := by
  refine w_seg 24 g_221 ?_
  refine w_seg 7 g_222 ?_
  exact w_ret (zAt eM_55 rfl) rfl ⟨rfl, rfl⟩
set_option maxRecDepth 100000 in
theorem g_223 {n : Nat} {x : Nat → Int32} : aSeg 999 100 11 217 [some (.ref 0), some (.int (Int32.ofInt 16))] [.ref 185, .int (Int32.ofInt 16), .ref 40] (191, 12228, kK_191, kL_191, iI_590, jJ_191, rR_386, n, x) = some (214, [some (.ref 0), some (.int (Int32.ofInt 17))], [.ref 191, .ref 191, .int (Int32.ofInt 17), .ref 40], (192, 12236, kK_192, kL_192, iI_591, jJ_192, rR_388, n, x)) := rfl
set_option maxRecDepth 100000 in
theorem g_224 {n : Nat} {x : Nat → Int32} : aSeg 998 55 24 0 [some (.ref 191)] [] (192, 12236, kK_192, kL_192, iI_591, jJ_192, rR_388, n, x) = some (46, [some (.ref 191)], [.int (Int32.ofInt 0), .ref 191], (197, 12270, kK_197, kL_197, iI_596, jJ_197, rR_398, n, x)) := rfl
set_option maxRecDepth 100000 in
theorem g_225 {n : Nat} {x : Nat → Int32} : aSeg 998 55 7 46 [some (.ref 191)] [.int (Int32.ofInt 0), .ref 191] (197, 12270, kK_197, kL_197, iI_596, jJ_197, rR_398, n, x) = some (59, [some (.ref 191)], [], (197, 12270, kK_197, kL_197, iI_599, jJ_197, rR_398, n, x)) := rfl
theorem c_45 {n : Nat} {x : Nat → Int32} : Wp 998 55 0 [some (.ref 191)] [] (192, 12236, kK_192, kL_192, iI_591, jJ_192, rR_388, n, x) (fun v h => v = none ∧ h = (197, 12270, kK_197, kL_197, iI_599, jJ_197, rR_398, n, x)) := by
  refine w_seg 24 g_224 ?_
  refine w_seg 7 g_225 ?_
  exact w_ret (zAt eM_55 rfl) rfl ⟨rfl, rfl⟩
set_option maxRecDepth 100000 in
theorem g_226 {n : Nat} {x : Nat → Int32} : aSeg 999 100 11 217 [some (.ref 0), some (.int (Int32.ofInt 17))] [.ref 191, .int (Int32.ofInt 17), .ref 40] (197, 12270, kK_197, kL_197, iI_599, jJ_197, rR_398, n, x) = some (214, [some (.ref 0), some (.int (Int32.ofInt 18))], [.ref 197, .ref 197, .int (Int32.ofInt 18), .ref 40], (198, 12278, kK_198, kL_198, iI_600, jJ_198, rR_400, n, x)) := rfl
set_option maxRecDepth 100000 in
theorem g_227 {n : Nat} {x : Nat → Int32} : aSeg 998 55 24 0 [some (.ref 197)] [] (198, 12278, kK_198, kL_198, iI_600, jJ_198, rR_400, n, x) = some (46, [some (.ref 197)], [.int (Int32.ofInt 0), .ref 197], (203, 12312, kK_203, kL_203, iI_605, jJ_203, rR_410, n, x)) := rfl
set_option maxRecDepth 100000 in
theorem g_228 {n : Nat} {x : Nat → Int32} : aSeg 998 55 7 46 [some (.ref 197)] [.int (Int32.ofInt 0), .ref 197] (203, 12312, kK_203, kL_203, iI_605, jJ_203, rR_410, n, x) = some (59, [some (.ref 197)], [], (203, 12312, kK_203, kL_203, iI_608, jJ_203, rR_410, n, x)) := rfl
theorem c_46 {n : Nat} {x : Nat → Int32} : Wp 998 55 0 [some (.ref 197)] [] (198, 12278, kK_198, kL_198, iI_600, jJ_198, rR_400, n, x) (fun v h => v = none ∧ h = (203, 12312, kK_203, kL_203, iI_608, jJ_203, rR_410, n, x)) := by
  refine w_seg 24 g_227 ?_
  refine w_seg 7 g_228 ?_
  exact w_ret (zAt eM_55 rfl) rfl ⟨rfl, rfl⟩
set_option maxRecDepth 100000 in
theorem g_229 {n : Nat} {x : Nat → Int32} : aSeg 999 100 11 217 [some (.ref 0), some (.int (Int32.ofInt 18))] [.ref 197, .int (Int32.ofInt 18), .ref 40] (203, 12312, kK_203, kL_203, iI_608, jJ_203, rR_410, n, x) = some (214, [some (.ref 0), some (.int (Int32.ofInt 19))], [.ref 203, .ref 203, .int (Int32.ofInt 19), .ref 40], (204, 12320, kK_204, kL_204, iI_609, jJ_204, rR_412, n, x)) := rfl
set_option maxRecDepth 100000 in
theorem g_230 {n : Nat} {x : Nat → Int32} : aSeg 998 55 24 0 [some (.ref 203)] [] (204, 12320, kK_204, kL_204, iI_609, jJ_204, rR_412, n, x) = some (46, [some (.ref 203)], [.int (Int32.ofInt 0), .ref 203], (209, 12354, kK_209, kL_209, iI_614, jJ_209, rR_422, n, x)) := rfl
set_option maxRecDepth 100000 in
theorem g_231 {n : Nat} {x : Nat → Int32} : aSeg 998 55 7 46 [some (.ref 203)] [.int (Int32.ofInt 0), .ref 203] (209, 12354, kK_209, kL_209, iI_614, jJ_209, rR_422, n, x) = some (59, [some (.ref 203)], [], (209, 12354, kK_209, kL_209, iI_617, jJ_209, rR_422, n, x)) := rfl
theorem c_47 {n : Nat} {x : Nat → Int32} : Wp 998 55 0 [some (.ref 203)] [] (204, 12320, kK_204, kL_204, iI_609, jJ_204, rR_412, n, x) (fun v h => v = none ∧ h = (209, 12354, kK_209, kL_209, iI_617, jJ_209, rR_422, n, x)) := by
  refine w_seg 24 g_230 ?_
  refine w_seg 7 g_231 ?_
  exact w_ret (zAt eM_55 rfl) rfl ⟨rfl, rfl⟩
set_option maxRecDepth 100000 in
theorem g_232 {n : Nat} {x : Nat → Int32} : aSeg 999 100 11 217 [some (.ref 0), some (.int (Int32.ofInt 19))] [.ref 203, .int (Int32.ofInt 19), .ref 40] (209, 12354, kK_209, kL_209, iI_617, jJ_209, rR_422, n, x) = some (235, [some (.ref 0), some (.int (Int32.ofInt 20))], [], (209, 12354, kK_209, kL_209, iI_617, jJ_209, rR_424, n, x)) := rfl
theorem c_48 {n : Nat} {x : Nat → Int32} : Wp 999 100 0 [some (.ref 0), none] [] (1, 19, kK_1, kL_1, iI_1, jJ_1, rR_1, n, x) (fun v h => v = none ∧ h = (209, 12354, kK_209, kL_209, iI_617, jJ_209, rR_424, n, x)) := by
  refine w_seg 5 g_1 ?_
  refine w_call (zAt eM_100 rfl) rfl eM_72 rfl rfl rfl c_5 ?_
  refine w_seg 4 g_122 ?_
  refine w_call (zAt eM_100 rfl) rfl eM_18 rfl rfl rfl c_6 ?_
  refine w_seg 6 g_124 ?_
  refine w_call (zAt eM_100 rfl) rfl eM_23 rfl rfl rfl c_7 ?_
  refine w_seg 8 g_126 ?_
  refine w_call (zAt eM_100 rfl) rfl eM_86 rfl rfl rfl c_8 ?_
  refine w_seg 4 g_128 ?_
  refine w_call (zAt eM_100 rfl) rfl eM_4 rfl rfl rfl c_9 ?_
  refine w_seg 6 g_130 ?_
  refine w_call (zAt eM_100 rfl) rfl eM_98 rfl rfl rfl c_11 ?_
  refine w_seg 4 g_135 ?_
  refine w_call (zAt eM_100 rfl) rfl eM_0 rfl rfl rfl c_12 ?_
  refine w_seg 4 g_137 ?_
  refine w_call (zAt eM_100 rfl) rfl eM_11 rfl rfl rfl c_13 ?_
  refine w_seg 4 g_140 ?_
  refine w_call (zAt eM_100 rfl) rfl eM_55 rfl rfl rfl c_14 ?_
  refine w_seg 4 g_143 ?_
  refine w_call (zAt eM_100 rfl) rfl eM_55 rfl rfl rfl c_15 ?_
  refine w_seg 16 g_146 ?_
  refine w_call (zAt eM_100 rfl) rfl eM_38 rfl rfl rfl c_21 ?_
  refine w_seg 4 g_159 ?_
  refine w_call (zAt eM_100 rfl) rfl eM_38 rfl rfl rfl c_27 ?_
  refine w_seg 23 g_172 ?_
  refine w_call (zAt eM_100 rfl) rfl eM_55 rfl rfl rfl c_28 ?_
  refine w_seg 11 g_175 ?_
  refine w_call (zAt eM_100 rfl) rfl eM_55 rfl rfl rfl c_29 ?_
  refine w_seg 11 g_178 ?_
  refine w_call (zAt eM_100 rfl) rfl eM_55 rfl rfl rfl c_30 ?_
  refine w_seg 11 g_181 ?_
  refine w_call (zAt eM_100 rfl) rfl eM_55 rfl rfl rfl c_31 ?_
  refine w_seg 11 g_184 ?_
  refine w_call (zAt eM_100 rfl) rfl eM_55 rfl rfl rfl c_32 ?_
  refine w_seg 11 g_187 ?_
  refine w_call (zAt eM_100 rfl) rfl eM_55 rfl rfl rfl c_33 ?_
  refine w_seg 11 g_190 ?_
  refine w_call (zAt eM_100 rfl) rfl eM_55 rfl rfl rfl c_34 ?_
  refine w_seg 11 g_193 ?_
  refine w_call (zAt eM_100 rfl) rfl eM_55 rfl rfl rfl c_35 ?_
  refine w_seg 11 g_196 ?_
  refine w_call (zAt eM_100 rfl) rfl eM_55 rfl rfl rfl c_36 ?_
  refine w_seg 11 g_199 ?_
  refine w_call (zAt eM_100 rfl) rfl eM_55 rfl rfl rfl c_37 ?_
  refine w_seg 11 g_202 ?_
  refine w_call (zAt eM_100 rfl) rfl eM_55 rfl rfl rfl c_38 ?_
  refine w_seg 11 g_205 ?_
  refine w_call (zAt eM_100 rfl) rfl eM_55 rfl rfl rfl c_39 ?_
  refine w_seg 11 g_208 ?_
  refine w_call (zAt eM_100 rfl) rfl eM_55 rfl rfl rfl c_40 ?_
  refine w_seg 11 g_211 ?_
  refine w_call (zAt eM_100 rfl) rfl eM_55 rfl rfl rfl c_41 ?_
  refine w_seg 11 g_214 ?_
  refine w_call (zAt eM_100 rfl) rfl eM_55 rfl rfl rfl c_42 ?_
  refine w_seg 11 g_217 ?_
  refine w_call (zAt eM_100 rfl) rfl eM_55 rfl rfl rfl c_43 ?_
  refine w_seg 11 g_220 ?_
  refine w_call (zAt eM_100 rfl) rfl eM_55 rfl rfl rfl c_44 ?_
  refine w_seg 11 g_223 ?_
  refine w_call (zAt eM_100 rfl) rfl eM_55 rfl rfl rfl c_45 ?_
  refine w_seg 11 g_226 ?_
  refine w_call (zAt eM_100 rfl) rfl eM_55 rfl rfl rfl c_46 ?_
  refine w_seg 11 g_229 ?_
  refine w_call (zAt eM_100 rfl) rfl eM_55 rfl rfl rfl c_47 ?_
  refine w_seg 11 g_232 ?_
  exact w_ret (zAt eM_100 rfl) rfl ⟨rfl, rfl⟩
set_option maxRecDepth 100000 in
theorem g_233 {n : Nat} {x : Nat → Int32} : aSeg 1000 295 3 7 [some (.ref aXa), none, none, none] [.ref 0] (209, 12354, kK_209, kL_209, iI_617, jJ_209, rR_424, n, x) = some (12, [some (.ref aXa), some (.ref 0), none, none], [.ref 209, .ref 209], (210, 12465, kK_210, kL_210, iI_618, jJ_210, rR_425, n, x)) := rfl
