/-! ===== the constructors: the longest ===== -/
set_option maxRecDepth 100000 in
theorem g_234 {n : Nat} {x : Nat → Int32} : aSegC aC_234 0 999 24 0 [some (.ref 209)] [] (210, 12465, kK_210, kL_210, iI_618, jJ_210, rR_425, n, x) = some (40, [some (.ref 209)], [.ref 212, .ref 209], (213, 14076, kK_213, kL_213, iI_624, jJ_213, rR_430, n, x)) := rfl
set_option maxRecDepth 100000 in
theorem g_235 {n : Nat} {x : Nat → Int32} : aSegC aC_235 0 999 24 40 [some (.ref 209)] [.ref 212, .ref 209] (213, 14076, kK_213, kL_213, iI_624, jJ_213, rR_430, n, x) = some (72, [some (.ref 209)], [.ref 213, .ref 209], (214, 14080, kK_214, kL_214, iI_630, jJ_214, rR_432, n, x)) := rfl
set_option maxRecDepth 100000 in
theorem g_236 {n : Nat} {x : Nat → Int32} : aSegC aC_236 0 999 24 72 [some (.ref 209)] [.ref 213, .ref 209] (214, 14080, kK_214, kL_214, iI_630, jJ_214, rR_432, n, x) = some (104, [some (.ref 209)], [.ref 214, .ref 209], (215, 14085, kK_215, kL_215, iI_636, jJ_215, rR_434, n, x)) := rfl
set_option maxRecDepth 100000 in
theorem g_237 {n : Nat} {x : Nat → Int32} : aSegC aC_237 0 999 24 104 [some (.ref 209)] [.ref 214, .ref 209] (215, 14085, kK_215, kL_215, iI_636, jJ_215, rR_434, n, x) = some (136, [some (.ref 209)], [.ref 215, .ref 209], (216, 14089, kK_216, kL_216, iI_642, jJ_216, rR_436, n, x)) := rfl
set_option maxRecDepth 100000 in
theorem g_238 {n : Nat} {x : Nat → Int32} : aSegC aC_238 0 999 24 136 [some (.ref 209)] [.ref 215, .ref 209] (216, 14089, kK_216, kL_216, iI_642, jJ_216, rR_436, n, x) = some (168, [some (.ref 209)], [.ref 216, .ref 209], (217, 14093, kK_217, kL_217, iI_648, jJ_217, rR_438, n, x)) := rfl
set_option maxRecDepth 100000 in
theorem g_239 {n : Nat} {x : Nat → Int32} : aSegC aC_239 0 999 24 168 [some (.ref 209)] [.ref 216, .ref 209] (217, 14093, kK_217, kL_217, iI_648, jJ_217, rR_438, n, x) = some (200, [some (.ref 209)], [.ref 217, .ref 209], (218, 14098, kK_218, kL_218, iI_654, jJ_218, rR_440, n, x)) := rfl
set_option maxRecDepth 100000 in
theorem g_240 {n : Nat} {x : Nat → Int32} : aSegC aC_240 0 999 24 200 [some (.ref 209)] [.ref 217, .ref 209] (218, 14098, kK_218, kL_218, iI_654, jJ_218, rR_440, n, x) = some (235, [some (.ref 209)], [.ref 219, .ref 209], (220, 14106, kK_220, kL_220, iI_660, jJ_220, rR_444, n, x)) := rfl
set_option maxRecDepth 100000 in
theorem g_241 {n : Nat} {x : Nat → Int32} : aSegC aC_241 0 999 24 235 [some (.ref 209)] [.ref 219, .ref 209] (220, 14106, kK_220, kL_220, iI_660, jJ_220, rR_444, n, x) = some (267, [some (.ref 209)], [.ref 220, .ref 209], (221, 14110, kK_221, kL_221, iI_666, jJ_221, rR_446, n, x)) := rfl
set_option maxRecDepth 100000 in
theorem g_242 {n : Nat} {x : Nat → Int32} : aSegC aC_242 0 999 24 267 [some (.ref 209)] [.ref 220, .ref 209] (221, 14110, kK_221, kL_221, iI_666, jJ_221, rR_446, n, x) = some (299, [some (.ref 209)], [.ref 221, .ref 209], (222, 14112, kK_222, kL_222, iI_672, jJ_222, rR_448, n, x)) := rfl
set_option maxRecDepth 100000 in
theorem g_243 {n : Nat} {x : Nat → Int32} : aSegC aC_243 0 999 24 299 [some (.ref 209)] [.ref 221, .ref 209] (222, 14112, kK_222, kL_222, iI_672, jJ_222, rR_448, n, x) = some (333, [some (.ref 209)], [.ref 223, .ref 209], (224, 14118, kK_224, kL_224, iI_678, jJ_224, rR_452, n, x)) := rfl
set_option maxRecDepth 100000 in
theorem g_244 {n : Nat} {x : Nat → Int32} : aSegC aC_244 0 999 24 333 [some (.ref 209)] [.ref 223, .ref 209] (224, 14118, kK_224, kL_224, iI_678, jJ_224, rR_452, n, x) = some (366, [some (.ref 209)], [.ref 224, .ref 209], (225, 14124, kK_225, kL_225, iI_684, jJ_225, rR_454, n, x)) := rfl
set_option maxRecDepth 100000 in
theorem g_245 {n : Nat} {x : Nat → Int32} : aSegC aC_245 0 999 24 366 [some (.ref 209)] [.ref 224, .ref 209] (225, 14124, kK_225, kL_225, iI_684, jJ_225, rR_454, n, x) = some (398, [some (.ref 209)], [.ref 225, .ref 209], (226, 14127, kK_226, kL_226, iI_690, jJ_226, rR_456, n, x)) := rfl
set_option maxRecDepth 100000 in
theorem g_246 {n : Nat} {x : Nat → Int32} : aSegC aC_246 0 999 24 398 [some (.ref 209)] [.ref 225, .ref 209] (226, 14127, kK_226, kL_226, iI_690, jJ_226, rR_456, n, x) = some (430, [some (.ref 209)], [.ref 226, .ref 209], (227, 14131, kK_227, kL_227, iI_696, jJ_227, rR_458, n, x)) := rfl
set_option maxRecDepth 100000 in
theorem g_247 {n : Nat} {x : Nat → Int32} : aSegC aC_247 0 999 24 430 [some (.ref 209)] [.ref 226, .ref 209] (227, 14131, kK_227, kL_227, iI_696, jJ_227, rR_458, n, x) = some (464, [some (.ref 209)], [.ref 228, .ref 209], (229, 14140, kK_229, kL_229, iI_702, jJ_229, rR_462, n, x)) := rfl
set_option maxRecDepth 100000 in
theorem g_248 {n : Nat} {x : Nat → Int32} : aSegC aC_248 0 999 24 464 [some (.ref 209)] [.ref 228, .ref 209] (229, 14140, kK_229, kL_229, iI_702, jJ_229, rR_462, n, x) = some (496, [some (.ref 209)], [.ref 229, .ref 209], (230, 14145, kK_230, kL_230, iI_708, jJ_230, rR_464, n, x)) := rfl
set_option maxRecDepth 100000 in
theorem g_249 {n : Nat} {x : Nat → Int32} : aSegC aC_249 0 999 24 496 [some (.ref 209)] [.ref 229, .ref 209] (230, 14145, kK_230, kL_230, iI_708, jJ_230, rR_464, n, x) = some (529, [some (.ref 209)], [.ref 230, .ref 209], (231, 14151, kK_231, kL_231, iI_714, jJ_231, rR_466, n, x)) := rfl
set_option maxRecDepth 100000 in
theorem g_250 {n : Nat} {x : Nat → Int32} : aSegC aC_250 0 999 24 529 [some (.ref 209)] [.ref 230, .ref 209] (231, 14151, kK_231, kL_231, iI_714, jJ_231, rR_466, n, x) = some (559, [some (.ref 209)], [.ref 230, .ref 209], (231, 14151, kK_231, kL_231, iI_720, jJ_231, rR_466, n, x)) := rfl
set_option maxRecDepth 100000 in
theorem g_251 {n : Nat} {x : Nat → Int32} : aSegC aC_251 0 999 24 559 [some (.ref 209)] [.ref 230, .ref 209] (231, 14151, kK_231, kL_231, iI_720, jJ_231, rR_466, n, x) = some (594, [some (.ref 209)], [.ref 232, .ref 209], (233, 14160, kK_233, kL_233, iI_726, jJ_233, rR_470, n, x)) := rfl
set_option maxRecDepth 100000 in
theorem g_252 {n : Nat} {x : Nat → Int32} : aSegC aC_252 0 999 24 594 [some (.ref 209)] [.ref 232, .ref 209] (233, 14160, kK_233, kL_233, iI_726, jJ_233, rR_470, n, x) = some (626, [some (.ref 209)], [.ref 233, .ref 209], (234, 14165, kK_234, kL_234, iI_732, jJ_234, rR_472, n, x)) := rfl
set_option maxRecDepth 100000 in
theorem g_253 {n : Nat} {x : Nat → Int32} : aSegC aC_253 0 999 24 626 [some (.ref 209)] [.ref 233, .ref 209] (234, 14165, kK_234, kL_234, iI_732, jJ_234, rR_472, n, x) = some (658, [some (.ref 209)], [.ref 234, .ref 209], (235, 14169, kK_235, kL_235, iI_738, jJ_235, rR_474, n, x)) := rfl
set_option maxRecDepth 100000 in
theorem g_254 {n : Nat} {x : Nat → Int32} : aSegC aC_254 0 999 24 658 [some (.ref 209)] [.ref 234, .ref 209] (235, 14169, kK_235, kL_235, iI_738, jJ_235, rR_474, n, x) = some (690, [some (.ref 209)], [.ref 235, .ref 209], (236, 14172, kK_236, kL_236, iI_744, jJ_236, rR_476, n, x)) := rfl
set_option maxRecDepth 100000 in
theorem g_255 {n : Nat} {x : Nat → Int32} : aSegC aC_255 0 999 24 690 [some (.ref 209)] [.ref 235, .ref 209] (236, 14172, kK_236, kL_236, iI_744, jJ_236, rR_476, n, x) = some (724, [some (.ref 209)], [.ref 237, .ref 209], (238, 14177, kK_238, kL_238, iI_750, jJ_238, rR_480, n, x)) := rfl
set_option maxRecDepth 100000 in
theorem g_256 {n : Nat} {x : Nat → Int32} : aSegC aC_256 0 999 24 724 [some (.ref 209)] [.ref 237, .ref 209] (238, 14177, kK_238, kL_238, iI_750, jJ_238, rR_480, n, x) = some (756, [some (.ref 209)], [.ref 238, .ref 209], (239, 14180, kK_239, kL_239, iI_756, jJ_239, rR_482, n, x)) := rfl
set_option maxRecDepth 100000 in
theorem g_257 {n : Nat} {x : Nat → Int32} : aSegC aC_257 0 999 24 756 [some (.ref 209)] [.ref 238, .ref 209] (239, 14180, kK_239, kL_239, iI_756, jJ_239, rR_482, n, x) = some (790, [some (.ref 209)], [.ref 240, .ref 209], (241, 14186, kK_241, kL_241, iI_762, jJ_241, rR_486, n, x)) := rfl
set_option maxRecDepth 100000 in
theorem g_258 {n : Nat} {x : Nat → Int32} : aSegC aC_258 0 999 24 790 [some (.ref 209)] [.ref 240, .ref 209] (241, 14186, kK_241, kL_241, iI_762, jJ_241, rR_486, n, x) = some (822, [some (.ref 209)], [.ref 241, .ref 209], (242, 14189, kK_242, kL_242, iI_768, jJ_242, rR_488, n, x)) := rfl
