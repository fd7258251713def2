/-! ===== the constructors: their steps 1 (by gen_init.py) ===== -/
set_option maxRecDepth 100000 in
theorem g_100 {n : Nat} {x : Nat → Int32} : aSeg 997 293 8 11 [some (.ref 4), some (.int (Int32.ofInt 3)), some (.int (Int32.ofInt 255)), some (.int (Int32.ofInt 256))] [.ref 4] (5, 1890, kK_5, kL_5, iI_266, jJ_5, rR_8, n, x) = some (20, [some (.ref 4), some (.int (Int32.ofInt 3)), some (.int (Int32.ofInt 256)), some (.int (Int32.ofInt 256))], [], (5, 1890, kK_5, kL_5, iI_267, jJ_5, rR_8, n, x)) := rfl
theorem c_0 {n : Nat} {x : Nat → Int32} : Wp 997 293 0 [some (.ref 4), some (.int (Int32.ofInt 3)), none, none] [] (5, 1890, kK_5, kL_5, iI_11, jJ_5, rR_8, n, x) (fun v h => v = none ∧ h = (5, 1890, kK_5, kL_5, iI_267, jJ_5, rR_8, n, x)) := by
  refine w_seg 24 g_4 ?_
  refine w_seg 24 g_5 ?_
  refine w_seg 24 g_6 ?_
  refine w_seg 24 g_7 ?_
  refine w_seg 24 g_8 ?_
  refine w_seg 24 g_9 ?_
  refine w_seg 24 g_10 ?_
  refine w_seg 24 g_11 ?_
  refine w_seg 24 g_12 ?_
  refine w_seg 24 g_13 ?_
  refine w_seg 24 g_14 ?_
  refine w_seg 24 g_15 ?_
  refine w_seg 24 g_16 ?_
  refine w_seg 24 g_17 ?_
  refine w_seg 24 g_18 ?_
  refine w_seg 24 g_19 ?_
  refine w_seg 24 g_20 ?_
  refine w_seg 24 g_21 ?_
  refine w_seg 24 g_22 ?_
  refine w_seg 24 g_23 ?_
  refine w_seg 24 g_24 ?_
  refine w_seg 24 g_25 ?_
  refine w_seg 24 g_26 ?_
  refine w_seg 24 g_27 ?_
  refine w_seg 24 g_28 ?_
  refine w_seg 24 g_29 ?_
  refine w_seg 24 g_30 ?_
  refine w_seg 24 g_31 ?_
  refine w_seg 24 g_32 ?_
  refine w_seg 24 g_33 ?_
  refine w_seg 24 g_34 ?_
  refine w_seg 24 g_35 ?_
  refine w_seg 24 g_36 ?_
  refine w_seg 24 g_37 ?_
  refine w_seg 24 g_38 ?_
  refine w_seg 24 g_39 ?_
  refine w_seg 24 g_40 ?_
  refine w_seg 24 g_41 ?_
  refine w_seg 24 g_42 ?_
  refine w_seg 24 g_43 ?_
  refine w_seg 24 g_44 ?_
  refine w_seg 24 g_45 ?_
  refine w_seg 24 g_46 ?_
  refine w_seg 24 g_47 ?_
  refine w_seg 24 g_48 ?_
  refine w_seg 24 g_49 ?_
  refine w_seg 24 g_50 ?_
  refine w_seg 24 g_51 ?_
  refine w_seg 24 g_52 ?_
  refine w_seg 24 g_53 ?_
  refine w_seg 24 g_54 ?_
  refine w_seg 24 g_55 ?_
  refine w_seg 24 g_56 ?_
  refine w_seg 24 g_57 ?_
  refine w_seg 24 g_58 ?_
  refine w_seg 24 g_59 ?_
  refine w_seg 24 g_60 ?_
  refine w_seg 24 g_61 ?_
  refine w_seg 24 g_62 ?_
  refine w_seg 24 g_63 ?_
  refine w_seg 24 g_64 ?_
  refine w_seg 24 g_65 ?_
  refine w_seg 24 g_66 ?_
  refine w_seg 24 g_67 ?_
  refine w_seg 24 g_68 ?_
  refine w_seg 24 g_69 ?_
  refine w_seg 24 g_70 ?_
  refine w_seg 24 g_71 ?_
  refine w_seg 24 g_72 ?_
  refine w_seg 24 g_73 ?_
  refine w_seg 24 g_74 ?_
  refine w_seg 24 g_75 ?_
  refine w_seg 24 g_76 ?_
  refine w_seg 24 g_77 ?_
  refine w_seg 24 g_78 ?_
  refine w_seg 24 g_79 ?_
  refine w_seg 24 g_80 ?_
  refine w_seg 24 g_81 ?_
  refine w_seg 24 g_82 ?_
  refine w_seg 24 g_83 ?_
  refine w_seg 24 g_84 ?_
  refine w_seg 24 g_85 ?_
  refine w_seg 24 g_86 ?_
  refine w_seg 24 g_87 ?_
  refine w_seg 24 g_88 ?_
  refine w_seg 24 g_89 ?_
  refine w_seg 24 g_90 ?_
  refine w_seg 24 g_91 ?_
  refine w_seg 24 g_92 ?_
  refine w_seg 24 g_93 ?_
  refine w_seg 24 g_94 ?_
  refine w_seg 24 g_95 ?_
  refine w_seg 24 g_96 ?_
  refine w_seg 24 g_97 ?_
  refine w_seg 24 g_98 ?_
  refine w_seg 24 g_99 ?_
  refine w_seg 8 g_100 ?_
  exact w_ret (zAt eM_293 rfl) rfl ⟨rfl, rfl⟩
set_option maxRecDepth 100000 in
theorem g_101 {n : Nat} {x : Nat → Int32} : aSeg 998 72 5 68 [some (.ref 1)] [] (5, 1890, kK_5, kL_5, iI_267, jJ_5, rR_8, n, x) = some (77, [some (.ref 1)], [.int (Int32.ofInt 1), .int (Int32.ofInt 123), .int (Int32.ofInt 97), .ref 4], (5, 1890, kK_5, kL_5, iI_267, jJ_5, rR_8, n, x)) := rfl
set_option maxRecDepth 100000 in
theorem g_102 {n : Nat} {x : Nat → Int32} : aSeg 997 294 4 0 [some (.ref 4), some (.int (Int32.ofInt 97)), some (.int (Int32.ofInt 123)), some (.int (Int32.ofInt 1)), none] [] (5, 1890, kK_5, kL_5, iI_267, jJ_5, rR_8, n, x) = some (4, [some (.ref 4), some (.int (Int32.ofInt 97)), some (.int (Int32.ofInt 123)), some (.int (Int32.ofInt 1)), none], [.int (Int32.ofInt 123), .int (Int32.ofInt 97), .int (Int32.ofInt 256)], (5, 1890, kK_5, kL_5, iI_267, jJ_5, rR_8, n, x)) := rfl
set_option maxRecDepth 100000 in
theorem g_103 {n : Nat} {x : Nat → Int32} : aSeg 996 292 8 0 [some (.int (Int32.ofInt 256)), some (.int (Int32.ofInt 97)), some (.int (Int32.ofInt 123))] [] (5, 1890, kK_5, kL_5, iI_267, jJ_5, rR_8, n, x) = some (73, [some (.int (Int32.ofInt 256)), some (.int (Int32.ofInt 97)), some (.int (Int32.ofInt 123))], [], (5, 1890, kK_5, kL_5, iI_267, jJ_5, rR_8, n, x)) := rfl
theorem c_1 {n : Nat} {x : Nat → Int32} : Wp 996 292 0 [some (.int (Int32.ofInt 256)), some (.int (Int32.ofInt 97)), some (.int (Int32.ofInt 123))] [] (5, 1890, kK_5, kL_5, iI_267, jJ_5, rR_8, n, x) (fun v h => v = none ∧ h = (5, 1890, kK_5, kL_5, iI_267, jJ_5, rR_8, n, x)) := by
  refine w_seg 8 g_103 ?_
  exact w_ret (zAt eM_292 rfl) rfl ⟨rfl, rfl⟩
set_option maxRecDepth 100000 in
theorem g_104 {n : Nat} {x : Nat → Int32} : aSeg 997 294 24 7 [some (.ref 4), some (.int (Int32.ofInt 97)), some (.int (Int32.ofInt 123)), some (.int (Int32.ofInt 1)), none] [] (5, 1890, kK_5, kL_5, iI_267, jJ_5, rR_8, n, x) = some (17, [some (.ref 4), some (.int (Int32.ofInt 97)), some (.int (Int32.ofInt 123)), some (.int (Int32.ofInt 1)), some (.int (Int32.ofInt 99))], [.ref 4], (5, 1890, kK_5, kL_5, iI_269, jJ_5, rR_8, n, x)) := rfl
set_option maxRecDepth 100000 in
theorem g_105 {n : Nat} {x : Nat → Int32} : aSeg 997 294 24 17 [some (.ref 4), some (.int (Int32.ofInt 97)), some (.int (Int32.ofInt 123)), some (.int (Int32.ofInt 1)), some (.int (Int32.ofInt 99))] [.ref 4] (5, 1890, kK_5, kL_5, iI_269, jJ_5, rR_8, n, x) = some (12, [some (.ref 4), some (.int (Int32.ofInt 97)), some (.int (Int32.ofInt 123)), some (.int (Int32.ofInt 1)), some (.int (Int32.ofInt 102))], [.int (Int32.ofInt 102)], (5, 1890, kK_5, kL_5, iI_272, jJ_5, rR_8, n, x)) := rfl
set_option maxRecDepth 100000 in
theorem g_106 {n : Nat} {x : Nat → Int32} : aSeg 997 294 24 12 [some (.ref 4), some (.int (Int32.ofInt 97)), some (.int (Int32.ofInt 123)), some (.int (Int32.ofInt 1)), some (.int (Int32.ofInt 102))] [.int (Int32.ofInt 102)] (5, 1890, kK_5, kL_5, iI_272, jJ_5, rR_8, n, x) = some (21, [some (.ref 4), some (.int (Int32.ofInt 97)), some (.int (Int32.ofInt 123)), some (.int (Int32.ofInt 1)), some (.int (Int32.ofInt 104))], [], (5, 1890, kK_5, kL_5, iI_275, jJ_5, rR_8, n, x)) := rfl
set_option maxRecDepth 100000 in
theorem g_107 {n : Nat} {x : Nat → Int32} : aSeg 997 294 24 21 [some (.ref 4), some (.int (Int32.ofInt 97)), some (.int (Int32.ofInt 123)), some (.int (Int32.ofInt 1)), some (.int (Int32.ofInt 104))] [] (5, 1890, kK_5, kL_5, iI_275, jJ_5, rR_8, n, x) = some (17, [some (.ref 4), some (.int (Int32.ofInt 97)), some (.int (Int32.ofInt 123)), some (.int (Int32.ofInt 1)), some (.int (Int32.ofInt 107))], [.ref 4], (5, 1890, kK_5, kL_5, iI_277, jJ_5, rR_8, n, x)) := rfl
set_option maxRecDepth 100000 in
theorem g_108 {n : Nat} {x : Nat → Int32} : aSeg 997 294 24 17 [some (.ref 4), some (.int (Int32.ofInt 97)), some (.int (Int32.ofInt 123)), some (.int (Int32.ofInt 1)), some (.int (Int32.ofInt 107))] [.ref 4] (5, 1890, kK_5, kL_5, iI_277, jJ_5, rR_8, n, x) = some (12, [some (.ref 4), some (.int (Int32.ofInt 97)), some (.int (Int32.ofInt 123)), some (.int (Int32.ofInt 1)), some (.int (Int32.ofInt 110))], [.int (Int32.ofInt 110)], (5, 1890, kK_5, kL_5, iI_280, jJ_5, rR_8, n, x)) := rfl
set_option maxRecDepth 100000 in
theorem g_109 {n : Nat} {x : Nat → Int32} : aSeg 997 294 24 12 [some (.ref 4), some (.int (Int32.ofInt 97)), some (.int (Int32.ofInt 123)), some (.int (Int32.ofInt 1)), some (.int (Int32.ofInt 110))] [.int (Int32.ofInt 110)] (5, 1890, kK_5, kL_5, iI_280, jJ_5, rR_8, n, x) = some (21, [some (.ref 4), some (.int (Int32.ofInt 97)), some (.int (Int32.ofInt 123)), some (.int (Int32.ofInt 1)), some (.int (Int32.ofInt 112))], [], (5, 1890, kK_5, kL_5, iI_283, jJ_5, rR_8, n, x)) := rfl
set_option maxRecDepth 100000 in
theorem g_110 {n : Nat} {x : Nat → Int32} : aSeg 997 294 24 21 [some (.ref 4), some (.int (Int32.ofInt 97)), some (.int (Int32.ofInt 123)), some (.int (Int32.ofInt 1)), some (.int (Int32.ofInt 112))] [] (5, 1890, kK_5, kL_5, iI_283, jJ_5, rR_8, n, x) = some (17, [some (.ref 4), some (.int (Int32.ofInt 97)), some (.int (Int32.ofInt 123)), some (.int (Int32.ofInt 1)), some (.int (Int32.ofInt 115))], [.ref 4], (5, 1890, kK_5, kL_5, iI_285, jJ_5, rR_8, n, x)) := rfl
set_option maxRecDepth 100000 in
theorem g_111 {n : Nat} {x : Nat → Int32} : aSeg 997 294 24 17 [some (.ref 4), some (.int (Int32.ofInt 97)), some (.int (Int32.ofInt 123)), some (.int (Int32.ofInt 1)), some (.int (Int32.ofInt 115))] [.ref 4] (5, 1890, kK_5, kL_5, iI_285, jJ_5, rR_8, n, x) = some (12, [some (.ref 4), some (.int (Int32.ofInt 97)), some (.int (Int32.ofInt 123)), some (.int (Int32.ofInt 1)), some (.int (Int32.ofInt 118))], [.int (Int32.ofInt 118)], (5, 1890, kK_5, kL_5, iI_288, jJ_5, rR_8, n, x)) := rfl
set_option maxRecDepth 100000 in
theorem g_112 {n : Nat} {x : Nat → Int32} : aSeg 997 294 24 12 [some (.ref 4), some (.int (Int32.ofInt 97)), some (.int (Int32.ofInt 123)), some (.int (Int32.ofInt 1)), some (.int (Int32.ofInt 118))] [.int (Int32.ofInt 118)] (5, 1890, kK_5, kL_5, iI_288, jJ_5, rR_8, n, x) = some (21, [some (.ref 4), some (.int (Int32.ofInt 97)), some (.int (Int32.ofInt 123)), some (.int (Int32.ofInt 1)), some (.int (Int32.ofInt 120))], [], (5, 1890, kK_5, kL_5, iI_291, jJ_5, rR_8, n, x)) := rfl
set_option maxRecDepth 100000 in
theorem g_113 {n : Nat} {x : Nat → Int32} : aSeg 997 294 23 21 [some (.ref 4), some (.int (Int32.ofInt 97)), some (.int (Int32.ofInt 123)), some (.int (Int32.ofInt 1)), some (.int (Int32.ofInt 120))] [] (5, 1890, kK_5, kL_5, iI_291, jJ_5, rR_8, n, x) = some (27, [some (.ref 4), some (.int (Int32.ofInt 97)), some (.int (Int32.ofInt 123)), some (.int (Int32.ofInt 1)), some (.int (Int32.ofInt 123))], [], (5, 1890, kK_5, kL_5, iI_293, jJ_5, rR_8, n, x)) := rfl
theorem c_2 {n : Nat} {x : Nat → Int32} : Wp 997 294 0 [some (.ref 4), some (.int (Int32.ofInt 97)), some (.int (Int32.ofInt 123)), some (.int (Int32.ofInt 1)), none] [] (5, 1890, kK_5, kL_5, iI_267, jJ_5, rR_8, n, x) (fun v h => v = none ∧ h = (5, 1890, kK_5, kL_5, iI_293, jJ_5, rR_8, n, x)) := by
  refine w_seg 4 g_102 ?_
  refine w_call (zAt eM_294 rfl) rfl eM_292 rfl rfl rfl c_1 ?_
  refine w_seg 24 g_104 ?_
  refine w_seg 24 g_105 ?_
  refine w_seg 24 g_106 ?_
  refine w_seg 24 g_107 ?_
  refine w_seg 24 g_108 ?_
  refine w_seg 24 g_109 ?_
  refine w_seg 24 g_110 ?_
  refine w_seg 24 g_111 ?_
  refine w_seg 24 g_112 ?_
  refine w_seg 23 g_113 ?_
  exact w_ret (zAt eM_294 rfl) rfl ⟨rfl, rfl⟩
set_option maxRecDepth 100000 in
theorem g_114 {n : Nat} {x : Nat → Int32} : aSeg 998 72 5 80 [some (.ref 1)] [] (5, 1890, kK_5, kL_5, iI_293, jJ_5, rR_8, n, x) = some (89, [some (.ref 1)], [.int (Int32.ofInt 2), .int (Int32.ofInt 58), .int (Int32.ofInt 48), .ref 4], (5, 1890, kK_5, kL_5, iI_293, jJ_5, rR_8, n, x)) := rfl
set_option maxRecDepth 100000 in
theorem g_115 {n : Nat} {x : Nat → Int32} : aSeg 997 294 4 0 [some (.ref 4), some (.int (Int32.ofInt 48)), some (.int (Int32.ofInt 58)), some (.int (Int32.ofInt 2)), none] [] (5, 1890, kK_5, kL_5, iI_293, jJ_5, rR_8, n, x) = some (4, [some (.ref 4), some (.int (Int32.ofInt 48)), some (.int (Int32.ofInt 58)), some (.int (Int32.ofInt 2)), none], [.int (Int32.ofInt 58), .int (Int32.ofInt 48), .int (Int32.ofInt 256)], (5, 1890, kK_5, kL_5, iI_293, jJ_5, rR_8, n, x)) := rfl
set_option maxRecDepth 100000 in
theorem g_116 {n : Nat} {x : Nat → Int32} : aSeg 996 292 8 0 [some (.int (Int32.ofInt 256)), some (.int (Int32.ofInt 48)), some (.int (Int32.ofInt 58))] [] (5, 1890, kK_5, kL_5, iI_293, jJ_5, rR_8, n, x) = some (73, [some (.int (Int32.ofInt 256)), some (.int (Int32.ofInt 48)), some (.int (Int32.ofInt 58))], [], (5, 1890, kK_5, kL_5, iI_293, jJ_5, rR_8, n, x)) := rfl
theorem c_3 {n : Nat} {x : Nat → Int32} : Wp 996 292 0 [some (.int (Int32.ofInt 256)), some (.int (Int32.ofInt 48)), some (.int (Int32.ofInt 58))] [] (5, 1890, kK_5, kL_5, iI_293, jJ_5, rR_8, n, x) (fun v h => v = none ∧ h = (5, 1890, kK_5, kL_5, iI_293, jJ_5, rR_8, n, x)) := by
  refine w_seg 8 g_116 ?_
  exact w_ret (zAt eM_292 rfl) rfl ⟨rfl, rfl⟩
set_option maxRecDepth 100000 in
theorem g_117 {n : Nat} {x : Nat → Int32} : aSeg 997 294 24 7 [some (.ref 4), some (.int (Int32.ofInt 48)), some (.int (Int32.ofInt 58)), some (.int (Int32.ofInt 2)), none] [] (5, 1890, kK_5, kL_5, iI_293, jJ_5, rR_8, n, x) = some (17, [some (.ref 4), some (.int (Int32.ofInt 48)), some (.int (Int32.ofInt 58)), some (.int (Int32.ofInt 2)), some (.int (Int32.ofInt 50))], [.ref 4], (5, 1890, kK_5, kL_5, iI_295, jJ_5, rR_8, n, x)) := rfl
set_option maxRecDepth 100000 in
theorem g_118 {n : Nat} {x : Nat → Int32} : aSeg 997 294 24 17 [some (.ref 4), some (.int (Int32.ofInt 48)), some (.int (Int32.ofInt 58)), some (.int (Int32.ofInt 2)), some (.int (Int32.ofInt 50))] [.ref 4] (5, 1890, kK_5, kL_5, iI_295, jJ_5, rR_8, n, x) = some (12, [some (.ref 4), some (.int (Int32.ofInt 48)), some (.int (Int32.ofInt 58)), some (.int (Int32.ofInt 2)), some (.int (Int32.ofInt 53))], [.int (Int32.ofInt 53)], (5, 1890, kK_5, kL_5, iI_298, jJ_5, rR_8, n, x)) := rfl
set_option maxRecDepth 100000 in
theorem g_119 {n : Nat} {x : Nat → Int32} : aSeg 997 294 24 12 [some (.ref 4), some (.int (Int32.ofInt 48)), some (.int (Int32.ofInt 58)), some (.int (Int32.ofInt 2)), some (.int (Int32.ofInt 53))] [.int (Int32.ofInt 53)] (5, 1890, kK_5, kL_5, iI_298, jJ_5, rR_8, n, x) = some (21, [some (.ref 4), some (.int (Int32.ofInt 48)), some (.int (Int32.ofInt 58)), some (.int (Int32.ofInt 2)), some (.int (Int32.ofInt 55))], [], (5, 1890, kK_5, kL_5, iI_301, jJ_5, rR_8, n, x)) := rfl
set_option maxRecDepth 100000 in
theorem g_120 {n : Nat} {x : Nat → Int32} : aSeg 997 294 23 21 [some (.ref 4), some (.int (Int32.ofInt 48)), some (.int (Int32.ofInt 58)), some (.int (Int32.ofInt 2)), some (.int (Int32.ofInt 55))] [] (5, 1890, kK_5, kL_5, iI_301, jJ_5, rR_8, n, x) = some (27, [some (.ref 4), some (.int (Int32.ofInt 48)), some (.int (Int32.ofInt 58)), some (.int (Int32.ofInt 2)), some (.int (Int32.ofInt 58))], [], (5, 1890, kK_5, kL_5, iI_303, jJ_5, rR_8, n, x)) := rfl
theorem c_4 {n : Nat} {x : Nat → Int32} : Wp 997 294 0 [some (.ref 4), some (.int (Int32.ofInt 48)), some (.int (Int32.ofInt 58)), some (.int (Int32.ofInt 2)), none] [] (5, 1890, kK_5, kL_5, iI_293, jJ_5, rR_8, n, x) (fun v h => v = none ∧ h = (5, 1890, kK_5, kL_5, iI_303, jJ_5, rR_8, n, x)) := by
  refine w_seg 4 g_115 ?_
  refine w_call (zAt eM_294 rfl) rfl eM_292 rfl rfl rfl c_3 ?_
  refine w_seg 24 g_117 ?_
  refine w_seg 24 g_118 ?_
  refine w_seg 24 g_119 ?_
  refine w_seg 23 g_120 ?_
  exact w_ret (zAt eM_294 rfl) rfl ⟨rfl, rfl⟩
set_option maxRecDepth 100000 in
theorem g_121 {n : Nat} {x : Nat → Int32} : aSeg 998 72 10 92 [some (.ref 1)] [] (5, 1890, kK_5, kL_5, iI_303, jJ_5, rR_8, n, x) = some (108, [some (.ref 1)], [], (5, 1890, kK_5, kL_5, iI_305, jJ_5, rR_8, n, x)) := rfl
theorem c_5 {n : Nat} {x : Nat → Int32} : Wp 998 72 0 [some (.ref 1)] [] (2, 28, kK_2, kL_2, iI_2, jJ_2, rR_2, n, x) (fun v h => v = none ∧ h = (5, 1890, kK_5, kL_5, iI_305, jJ_5, rR_8, n, x)) := by
  refine w_seg 24 g_2 ?_
  refine w_seg 11 g_3 ?_
  refine w_call (zAt eM_72 rfl) rfl eM_293 rfl rfl rfl c_0 ?_
  refine w_seg 5 g_101 ?_
  refine w_call (zAt eM_72 rfl) rfl eM_294 rfl rfl rfl c_2 ?_
  refine w_seg 5 g_114 ?_
  refine w_call (zAt eM_72 rfl) rfl eM_294 rfl rfl rfl c_4 ?_
  refine w_seg 10 g_121 ?_
  exact w_ret (zAt eM_72 rfl) rfl ⟨rfl, rfl⟩
set_option maxRecDepth 100000 in
theorem g_122 {n : Nat} {x : Nat → Int32} : aSeg 999 100 4 12 [some (.ref 0), none] [.ref 1, .ref 0] (5, 1890, kK_5, kL_5, iI_305, jJ_5, rR_8, n, x) = some (20, [some (.ref 0), none], [.ref 5, .ref 5, .ref 0], (6, 1893, kK_6, kL_6, iI_306, jJ_6, rR_10, n, x)) := rfl
set_option maxRecDepth 100000 in
theorem g_123 {n : Nat} {x : Nat → Int32} : aSeg 998 18 13 0 [some (.ref 5)] [] (6, 1893, kK_6, kL_6, iI_306, jJ_6, rR_10, n, x) = some (26, [some (.ref 5)], [], (8, 3557, kK_8, kL_8, iI_309, jJ_8, rR_14, n, x)) := rfl
theorem c_6 {n : Nat} {x : Nat → Int32} : Wp 998 18 0 [some (.ref 5)] [] (6, 1893, kK_6, kL_6, iI_306, jJ_6, rR_10, n, x) (fun v h => v = none ∧ h = (8, 3557, kK_8, kL_8, iI_309, jJ_8, rR_14, n, x)) := by
  refine w_seg 13 g_123 ?_
  exact w_ret (zAt eM_18 rfl) rfl ⟨rfl, rfl⟩
set_option maxRecDepth 100000 in
theorem g_124 {n : Nat} {x : Nat → Int32} : aSeg 999 100 6 23 [some (.ref 0), none] [.ref 5, .ref 0] (8, 3557, kK_8, kL_8, iI_309, jJ_8, rR_14, n, x) = some (35, [some (.ref 0), none], [.ref 1, .ref 8, .ref 8, .ref 0], (9, 3560, kK_9, kL_9, iI_310, jJ_9, rR_16, n, x)) := rfl
set_option maxRecDepth 100000 in
theorem g_125 {n : Nat} {x : Nat → Int32} : aSeg 998 23 11 0 [some (.ref 8), some (.ref 1)] [] (9, 3560, kK_9, kL_9, iI_310, jJ_9, rR_16, n, x) = some (19, [some (.ref 8), some (.ref 1)], [], (9, 3560, kK_9, kL_9, iI_311, jJ_9, rR_18, n, x)) := rfl
theorem c_7 {n : Nat} {x : Nat → Int32} : Wp 998 23 0 [some (.ref 8), some (.ref 1)] [] (9, 3560, kK_9, kL_9, iI_310, jJ_9, rR_16, n, x) (fun v h => v = none ∧ h = (9, 3560, kK_9, kL_9, iI_311, jJ_9, rR_18, n, x)) := by
  refine w_seg 11 g_125 ?_
  exact w_ret (zAt eM_23 rfl) rfl ⟨rfl, rfl⟩
set_option maxRecDepth 100000 in
theorem g_126 {n : Nat} {x : Nat → Int32} : aSeg 999 100 8 38 [some (.ref 0), none] [.ref 8, .ref 0] (9, 3560, kK_9, kL_9, iI_311, jJ_9, rR_18, n, x) = some (54, [some (.ref 0), none], [.ref 8, .ref 1, .ref 9, .ref 9, .ref 0], (10, 3562, kK_10, kL_10, iI_312, jJ_10, rR_20, n, x)) := rfl
set_option maxRecDepth 100000 in
theorem g_127 {n : Nat} {x : Nat → Int32} : aSeg 998 86 8 0 [some (.ref 9), some (.ref 1), some (.ref 8)] [] (10, 3562, kK_10, kL_10, iI_312, jJ_10, rR_20, n, x) = some (14, [some (.ref 9), some (.ref 1), some (.ref 8)], [], (10, 3562, kK_10, kL_10, iI_312, jJ_10, rR_22, n, x)) := rfl
theorem c_8 {n : Nat} {x : Nat → Int32} : Wp 998 86 0 [some (.ref 9), some (.ref 1), some (.ref 8)] [] (10, 3562, kK_10, kL_10, iI_312, jJ_10, rR_20, n, x) (fun v h => v = none ∧ h = (10, 3562, kK_10, kL_10, iI_312, jJ_10, rR_22, n, x)) := by
  refine w_seg 8 g_127 ?_
  exact w_ret (zAt eM_86 rfl) rfl ⟨rfl, rfl⟩
set_option maxRecDepth 100000 in
theorem g_128 {n : Nat} {x : Nat → Int32} : aSeg 999 100 4 57 [some (.ref 0), none] [.ref 9, .ref 0] (10, 3562, kK_10, kL_10, iI_312, jJ_10, rR_22, n, x) = some (65, [some (.ref 0), none], [.ref 10, .ref 10, .ref 0], (11, 3564, kK_11, kL_11, iI_313, jJ_11, rR_24, n, x)) := rfl
set_option maxRecDepth 100000 in
theorem g_129 {n : Nat} {x : Nat → Int32} : aSeg 998 4 9 0 [some (.ref 10)] [] (11, 3564, kK_11, kL_11, iI_313, jJ_11, rR_24, n, x) = some (17, [some (.ref 10)], [], (12, 3574, kK_12, kL_12, iI_314, jJ_12, rR_27, n, x)) := rfl
theorem c_9 {n : Nat} {x : Nat → Int32} : Wp 998 4 0 [some (.ref 10)] [] (11, 3564, kK_11, kL_11, iI_313, jJ_11, rR_24, n, x) (fun v h => v = none ∧ h = (12, 3574, kK_12, kL_12, iI_314, jJ_12, rR_27, n, x)) := by
  refine w_seg 9 g_129 ?_
  exact w_ret (zAt eM_4 rfl) rfl ⟨rfl, rfl⟩
set_option maxRecDepth 100000 in
theorem g_130 {n : Nat} {x : Nat → Int32} : aSeg 999 100 6 68 [some (.ref 0), none] [.ref 10, .ref 0] (12, 3574, kK_12, kL_12, iI_314, jJ_12, rR_27, n, x) = some (80, [some (.ref 0), none], [.ref 10, .ref 12, .ref 12, .ref 0], (13, 3577, kK_13, kL_13, iI_315, jJ_13, rR_29, n, x)) := rfl
set_option maxRecDepth 100000 in
theorem g_131 {n : Nat} {x : Nat → Int32} : aSeg 998 98 9 0 [some (.ref 12), some (.ref 10)] [] (13, 3577, kK_13, kL_13, iI_315, jJ_13, rR_29, n, x) = some (17, [some (.ref 12), some (.ref 10)], [.ref 14, .ref 14, .ref 12], (15, 3616, kK_15, kL_15, iI_317, jJ_15, rR_32, n, x)) := rfl
set_option maxRecDepth 100000 in
theorem g_132 {n : Nat} {x : Nat → Int32} : aSeg 997 55 24 0 [some (.ref 14)] [] (15, 3616, kK_15, kL_15, iI_317, jJ_15, rR_32, n, x) = some (46, [some (.ref 14)], [.int (Int32.ofInt 0), .ref 14], (20, 3650, kK_20, kL_20, iI_322, jJ_20, rR_42, n, x)) := rfl
set_option maxRecDepth 100000 in
theorem g_133 {n : Nat} {x : Nat → Int32} : aSeg 997 55 7 46 [some (.ref 14)] [.int (Int32.ofInt 0), .ref 14] (20, 3650, kK_20, kL_20, iI_322, jJ_20, rR_42, n, x) = some (59, [some (.ref 14)], [], (20, 3650, kK_20, kL_20, iI_325, jJ_20, rR_42, n, x)) := rfl
theorem c_10 {n : Nat} {x : Nat → Int32} : Wp 997 55 0 [some (.ref 14)] [] (15, 3616, kK_15, kL_15, iI_317, jJ_15, rR_32, n, x) (fun v h => v = none ∧ h = (20, 3650, kK_20, kL_20, iI_325, jJ_20, rR_42, n, x)) := by
  refine w_seg 24 g_132 ?_
  refine w_seg 7 g_133 ?_
  exact w_ret (zAt eM_55 rfl) rfl ⟨rfl, rfl⟩
set_option maxRecDepth 100000 in
theorem g_134 {n : Nat} {x : Nat → Int32} : aSeg 998 98 4 20 [some (.ref 12), some (.ref 10)] [.ref 14, .ref 12] (20, 3650, kK_20, kL_20, iI_325, jJ_20, rR_42, n, x) = some (28, [some (.ref 12), some (.ref 10)], [], (20, 3650, kK_20, kL_20, iI_325, jJ_20, rR_44, n, x)) := rfl
theorem c_11 {n : Nat} {x : Nat → Int32} : Wp 998 98 0 [some (.ref 12), some (.ref 10)] [] (13, 3577, kK_13, kL_13, iI_315, jJ_13, rR_29, n, x) (fun v h => v = none ∧ h = (20, 3650, kK_20, kL_20, iI_325, jJ_20, rR_44, n, x)) := by
  refine w_seg 9 g_131 ?_
  refine w_call (zAt eM_98 rfl) rfl eM_55 rfl rfl rfl c_10 ?_
  refine w_seg 4 g_134 ?_
  exact w_ret (zAt eM_98 rfl) rfl ⟨rfl, rfl⟩
set_option maxRecDepth 100000 in
theorem g_135 {n : Nat} {x : Nat → Int32} : aSeg 999 100 4 83 [some (.ref 0), none] [.ref 12, .ref 0] (20, 3650, kK_20, kL_20, iI_325, jJ_20, rR_44, n, x) = some (91, [some (.ref 0), none], [.ref 20, .ref 20, .ref 0], (21, 3656, kK_21, kL_21, iI_326, jJ_21, rR_46, n, x)) := rfl
set_option maxRecDepth 100000 in
theorem g_136 {n : Nat} {x : Nat → Int32} : aSeg 998 0 23 0 [some (.ref 20)] [] (21, 3656, kK_21, kL_21, iI_326, jJ_21, rR_46, n, x) = some (43, [some (.ref 20)], [], (24, 3716, kK_24, kL_24, iI_332, jJ_24, rR_52, n, x)) := rfl
theorem c_12 {n : Nat} {x : Nat → Int32} : Wp 998 0 0 [some (.ref 20)] [] (21, 3656, kK_21, kL_21, iI_326, jJ_21, rR_46, n, x) (fun v h => v = none ∧ h = (24, 3716, kK_24, kL_24, iI_332, jJ_24, rR_52, n, x)) := by
  refine w_seg 23 g_136 ?_
  exact w_ret (zAt eM_0 rfl) rfl ⟨rfl, rfl⟩
set_option maxRecDepth 100000 in
theorem g_137 {n : Nat} {x : Nat → Int32} : aSeg 999 100 4 94 [some (.ref 0), none] [.ref 20, .ref 0] (24, 3716, kK_24, kL_24, iI_332, jJ_24, rR_52, n, x) = some (102, [some (.ref 0), none], [.ref 24, .ref 24, .ref 0], (25, 3723, kK_25, kL_25, iI_333, jJ_25, rR_54, n, x)) := rfl
set_option maxRecDepth 100000 in
theorem g_138 {n : Nat} {x : Nat → Int32} : aSeg 998 11 24 0 [some (.ref 24)] [] (25, 3723, kK_25, kL_25, iI_333, jJ_25, rR_54, n, x) = some (44, [some (.ref 24)], [.int (Int32.ofInt 217), .ref 24], (27, 3755, kK_27, kL_27, iI_339, jJ_27, rR_58, n, x)) := rfl
set_option maxRecDepth 100000 in
theorem g_139 {n : Nat} {x : Nat → Int32} : aSeg 998 11 2 44 [some (.ref 24)] [.int (Int32.ofInt 217), .ref 24] (27, 3755, kK_27, kL_27, iI_339, jJ_27, rR_58, n, x) = some (49, [some (.ref 24)], [], (28, 3972, kK_28, kL_28, iI_340, jJ_28, rR_60, n, x)) := rfl
theorem c_13 {n : Nat} {x : Nat → Int32} : Wp 998 11 0 [some (.ref 24)] [] (25, 3723, kK_25, kL_25, iI_333, jJ_25, rR_54, n, x) (fun v h => v = none ∧ h = (28, 3972, kK_28, kL_28, iI_340, jJ_28, rR_60, n, x)) := by
  refine w_seg 24 g_138 ?_
  refine w_seg 2 g_139 ?_
  exact w_ret (zAt eM_11 rfl) rfl ⟨rfl, rfl⟩
set_option maxRecDepth 100000 in
theorem g_140 {n : Nat} {x : Nat → Int32} : aSeg 999 100 4 105 [some (.ref 0), none] [.ref 24, .ref 0] (28, 3972, kK_28, kL_28, iI_340, jJ_28, rR_60, n, x) = some (113, [some (.ref 0), none], [.ref 28, .ref 28, .ref 0], (29, 3980, kK_29, kL_29, iI_341, jJ_29, rR_62, n, x)) := rfl
set_option maxRecDepth 100000 in
theorem g_141 {n : Nat} {x : Nat → Int32} : aSeg 998 55 24 0 [some (.ref 28)] [] (29, 3980, kK_29, kL_29, iI_341, jJ_29, rR_62, n, x) = some (46, [some (.ref 28)], [.int (Int32.ofInt 0), .ref 28], (34, 4014, kK_34, kL_34, iI_346, jJ_34, rR_72, n, x)) := rfl
set_option maxRecDepth 100000 in
theorem g_142 {n : Nat} {x : Nat → Int32} : aSeg 998 55 7 46 [some (.ref 28)] [.int (Int32.ofInt 0), .ref 28] (34, 4014, kK_34, kL_34, iI_346, jJ_34, rR_72, n, x) = some (59, [some (.ref 28)], [], (34, 4014, kK_34, kL_34, iI_349, jJ_34, rR_72, n, x)) := rfl
theorem c_14 {n : Nat} {x : Nat → Int32} : Wp 998 55 0 [some (.ref 28)] [] (29, 3980, kK_29, kL_29, iI_341, jJ_29, rR_62, n, x) (fun v h => v = none ∧ h = (34, 4014, kK_34, kL_34, iI_349, jJ_34, rR_72, n, x)) := by
  refine w_seg 24 g_141 ?_
  refine w_seg 7 g_142 ?_
  exact w_ret (zAt eM_55 rfl) rfl ⟨rfl, rfl⟩
set_option maxRecDepth 100000 in
theorem g_143 {n : Nat} {x : Nat → Int32} : aSeg 999 100 4 116 [some (.ref 0), none] [.ref 28, .ref 0] (34, 4014, kK_34, kL_34, iI_349, jJ_34, rR_72, n, x) = some (124, [some (.ref 0), none], [.ref 34, .ref 34, .ref 0], (35, 4022, kK_35, kL_35, iI_350, jJ_35, rR_74, n, x)) := rfl
set_option maxRecDepth 100000 in
theorem g_144 {n : Nat} {x : Nat → Int32} : aSeg 998 55 24 0 [some (.ref 34)] [] (35, 4022, kK_35, kL_35, iI_350, jJ_35, rR_74, n, x) = some (46, [some (.ref 34)], [.int (Int32.ofInt 0), .ref 34], (40, 4056, kK_40, kL_40, iI_355, jJ_40, rR_84, n, x)) := rfl
set_option maxRecDepth 100000 in
theorem g_145 {n : Nat} {x : Nat → Int32} : aSeg 998 55 7 46 [some (.ref 34)] [.int (Int32.ofInt 0), .ref 34] (40, 4056, kK_40, kL_40, iI_355, jJ_40, rR_84, n, x) = some (59, [some (.ref 34)], [], (40, 4056, kK_40, kL_40, iI_358, jJ_40, rR_84, n, x)) := rfl
theorem c_15 {n : Nat} {x : Nat → Int32} : Wp 998 55 0 [some (.ref 34)] [] (35, 4022, kK_35, kL_35, iI_350, jJ_35, rR_74, n, x) (fun v h => v = none ∧ h = (40, 4056, kK_40, kL_40, iI_358, jJ_40, rR_84, n, x)) := by
  refine w_seg 24 g_144 ?_
  refine w_seg 7 g_145 ?_
  exact w_ret (zAt eM_55 rfl) rfl ⟨rfl, rfl⟩
set_option maxRecDepth 100000 in
theorem g_146 {n : Nat} {x : Nat → Int32} : aSeg 999 100 16 127 [some (.ref 0), none] [.ref 34, .ref 0] (40, 4056, kK_40, kL_40, iI_358, jJ_40, rR_84, n, x) = some (160, [some (.ref 0), none], [.ref 43, .ref 43, .ref 0], (44, 4166, kK_44, kL_44, iI_362, jJ_44, rR_92, n, x)) := rfl
set_option maxRecDepth 100000 in
theorem g_147 {n : Nat} {x : Nat → Int32} : aSeg 998 38 6 0 [some (.ref 43)] [] (44, 4166, kK_44, kL_44, iI_362, jJ_44, rR_92, n, x) = some (11, [some (.ref 43)], [.int (Int32.ofInt 7), .ref 44, .ref 44, .ref 43], (45, 4169, kK_45, kL_45, iI_363, jJ_45, rR_93, n, x)) := rfl
set_option maxRecDepth 100000 in
theorem g_148 {n : Nat} {x : Nat → Int32} : aSeg 997 49 14 0 [some (.ref 44), some (.int (Int32.ofInt 7))] [] (45, 4169, kK_45, kL_45, iI_363, jJ_45, rR_93, n, x) = some (24, [some (.ref 44), some (.int (Int32.ofInt 7))], [], (46, 4211, kK_46, kL_46, iI_366, jJ_46, rR_95, n, x)) := rfl
theorem c_16 {n : Nat} {x : Nat → Int32} : Wp 997 49 0 [some (.ref 44), some (.int (Int32.ofInt 7))] [] (45, 4169, kK_45, kL_45, iI_363, jJ_45, rR_93, n, x) (fun v h => v = none ∧ h = (46, 4211, kK_46, kL_46, iI_366, jJ_46, rR_95, n, x)) := by
  refine w_seg 14 g_148 ?_
  exact w_ret (zAt eM_49 rfl) rfl ⟨rfl, rfl⟩
set_option maxRecDepth 100000 in
theorem g_149 {n : Nat} {x : Nat → Int32} : aSeg 998 38 5 14 [some (.ref 43)] [.ref 44, .ref 43] (46, 4211, kK_46, kL_46, iI_366, jJ_46, rR_95, n, x) = some (24, [some (.ref 43)], [.int (Int32.ofInt 8), .ref 46, .ref 46, .ref 43], (47, 4214, kK_47, kL_47, iI_367, jJ_47, rR_97, n, x)) := rfl
set_option maxRecDepth 100000 in
theorem g_150 {n : Nat} {x : Nat → Int32} : aSeg 997 49 14 0 [some (.ref 46), some (.int (Int32.ofInt 8))] [] (47, 4214, kK_47, kL_47, iI_367, jJ_47, rR_97, n, x) = some (24, [some (.ref 46), some (.int (Int32.ofInt 8))], [], (48, 4262, kK_48, kL_48, iI_370, jJ_48, rR_99, n, x)) := rfl
theorem c_17 {n : Nat} {x : Nat → Int32} : Wp 997 49 0 [some (.ref 46), some (.int (Int32.ofInt 8))] [] (47, 4214, kK_47, kL_47, iI_367, jJ_47, rR_97, n, x) (fun v h => v = none ∧ h = (48, 4262, kK_48, kL_48, iI_370, jJ_48, rR_99, n, x)) := by
  refine w_seg 14 g_150 ?_
  exact w_ret (zAt eM_49 rfl) rfl ⟨rfl, rfl⟩
set_option maxRecDepth 100000 in
theorem g_151 {n : Nat} {x : Nat → Int32} : aSeg 998 38 5 27 [some (.ref 43)] [.ref 46, .ref 43] (48, 4262, kK_48, kL_48, iI_370, jJ_48, rR_99, n, x) = some (37, [some (.ref 43)], [.int (Int32.ofInt 6), .ref 48, .ref 48, .ref 43], (49, 4265, kK_49, kL_49, iI_371, jJ_49, rR_101, n, x)) := rfl
set_option maxRecDepth 100000 in
theorem g_152 {n : Nat} {x : Nat → Int32} : aSeg 997 49 14 0 [some (.ref 48), some (.int (Int32.ofInt 6))] [] (49, 4265, kK_49, kL_49, iI_371, jJ_49, rR_101, n, x) = some (24, [some (.ref 48), some (.int (Int32.ofInt 6))], [], (50, 4301, kK_50, kL_50, iI_374, jJ_50, rR_103, n, x)) := rfl
theorem c_18 {n : Nat} {x : Nat → Int32} : Wp 997 49 0 [some (.ref 48), some (.int (Int32.ofInt 6))] [] (49, 4265, kK_49, kL_49, iI_371, jJ_49, rR_101, n, x) (fun v h => v = none ∧ h = (50, 4301, kK_50, kL_50, iI_374, jJ_50, rR_103, n, x)) := by
  refine w_seg 14 g_152 ?_
  exact w_ret (zAt eM_49 rfl) rfl ⟨rfl, rfl⟩
set_option maxRecDepth 100000 in
theorem g_153 {n : Nat} {x : Nat → Int32} : aSeg 998 38 24 40 [some (.ref 43)] [.ref 48, .ref 43] (50, 4301, kK_50, kL_50, iI_374, jJ_50, rR_103, n, x) = some (88, [some (.ref 43)], [.ref 55, .ref 43], (56, 4472, kK_56, kL_56, iI_380, jJ_56, rR_115, n, x)) := rfl
set_option maxRecDepth 100000 in
theorem g_154 {n : Nat} {x : Nat → Int32} : aSeg 998 38 20 88 [some (.ref 43)] [.ref 55, .ref 43] (56, 4472, kK_56, kL_56, iI_380, jJ_56, rR_115, n, x) = some (128, [some (.ref 43)], [.ref 60, .ref 60, .ref 43], (61, 4499, kK_61, kL_61, iI_385, jJ_61, rR_125, n, x)) := rfl
set_option maxRecDepth 100000 in
theorem g_155 {n : Nat} {x : Nat → Int32} : aSeg 997 18 13 0 [some (.ref 60)] [] (61, 4499, kK_61, kL_61, iI_385, jJ_61, rR_125, n, x) = some (26, [some (.ref 60)], [], (63, 6163, kK_63, kL_63, iI_388, jJ_63, rR_129, n, x)) := rfl
theorem c_19 {n : Nat} {x : Nat → Int32} : Wp 997 18 0 [some (.ref 60)] [] (61, 4499, kK_61, kL_61, iI_385, jJ_61, rR_125, n, x) (fun v h => v = none ∧ h = (63, 6163, kK_63, kL_63, iI_388, jJ_63, rR_129, n, x)) := by
  refine w_seg 13 g_155 ?_
  exact w_ret (zAt eM_18 rfl) rfl ⟨rfl, rfl⟩
set_option maxRecDepth 100000 in
theorem g_156 {n : Nat} {x : Nat → Int32} : aSeg 998 38 4 131 [some (.ref 43)] [.ref 60, .ref 43] (63, 6163, kK_63, kL_63, iI_388, jJ_63, rR_129, n, x) = some (139, [some (.ref 43)], [.ref 63, .ref 63, .ref 43], (64, 6166, kK_64, kL_64, iI_389, jJ_64, rR_131, n, x)) := rfl
set_option maxRecDepth 100000 in
theorem g_157 {n : Nat} {x : Nat → Int32} : aSeg 997 18 13 0 [some (.ref 63)] [] (64, 6166, kK_64, kL_64, iI_389, jJ_64, rR_131, n, x) = some (26, [some (.ref 63)], [], (66, 7830, kK_66, kL_66, iI_392, jJ_66, rR_135, n, x)) := rfl
theorem c_20 {n : Nat} {x : Nat → Int32} : Wp 997 18 0 [some (.ref 63)] [] (64, 6166, kK_64, kL_64, iI_389, jJ_64, rR_131, n, x) (fun v h => v = none ∧ h = (66, 7830, kK_66, kL_66, iI_392, jJ_66, rR_135, n, x)) := by
  refine w_seg 13 g_157 ?_
  exact w_ret (zAt eM_18 rfl) rfl ⟨rfl, rfl⟩
set_option maxRecDepth 100000 in
theorem g_158 {n : Nat} {x : Nat → Int32} : aSeg 998 38 16 142 [some (.ref 43)] [.ref 63, .ref 43] (66, 7830, kK_66, kL_66, iI_392, jJ_66, rR_135, n, x) = some (170, [some (.ref 43)], [], (66, 7830, kK_66, kL_66, iI_397, jJ_66, rR_136, n, x)) := rfl
