/-! ===== the constructors: the longest, its end; both of them ===== -/
set_option maxRecDepth 100000 in
theorem g_259 {n : Nat} {x : Nat → Int32} : aSegC aC_259 0 999 24 822 [some (.ref 209)] [.ref 241, .ref 209] (242, 14189, kK_242, kL_242, iI_768, jJ_242, rR_488, n, x) = some (867, [some (.ref 209)], [.ref 246, .ref 209], (247, 14427, kK_247, kL_247, iI_774, jJ_247, rR_498, n, x)) := rfl
set_option maxRecDepth 100000 in
theorem g_260 {n : Nat} {x : Nat → Int32} : aSegC aC_260 0 999 24 867 [some (.ref 209)] [.ref 246, .ref 209] (247, 14427, kK_247, kL_247, iI_774, jJ_247, rR_498, n, x) = some (899, [some (.ref 209)], [.ref 248, .ref 209], (249, 14439, kK_249, kL_249, iI_780, jJ_249, rR_502, n, x)) := rfl
set_option maxRecDepth 100000 in
theorem g_261 {n : Nat} {x : Nat → Int32} : aSegC aC_261 0 999 24 899 [some (.ref 209)] [.ref 248, .ref 209] (249, 14439, kK_249, kL_249, iI_780, jJ_249, rR_502, n, x) = some (926, [some (.ref 209)], [.ref 249, .ref 209], (250, 14443, kK_250, kL_250, iI_786, jJ_250, rR_504, n, x)) := rfl
set_option maxRecDepth 100000 in
theorem g_262 {n : Nat} {x : Nat → Int32} : aSegC aC_262 0 999 24 926 [some (.ref 209)] [.ref 249, .ref 209] (250, 14443, kK_250, kL_250, iI_786, jJ_250, rR_504, n, x) = some (970, [some (.ref 209)], [.ref 254, .ref 209], (255, 17782, kK_255, kL_255, iI_792, jJ_255, rR_514, n, x)) := rfl
set_option maxRecDepth 100000 in
theorem g_263 {n : Nat} {x : Nat → Int32} : aSegC aC_263 0 999 24 970 [some (.ref 209)] [.ref 254, .ref 209] (255, 17782, kK_255, kL_255, iI_792, jJ_255, rR_514, n, x) = some (1018, [some (.ref 209)], [.ref 260, .ref 209], (261, 17942, kK_261, kL_261, iI_798, jJ_261, rR_526, n, x)) := rfl
set_option maxRecDepth 100000 in
theorem g_264 {n : Nat} {x : Nat → Int32} : aSegC aC_264 0 999 24 1018 [some (.ref 209)] [.ref 260, .ref 209] (261, 17942, kK_261, kL_261, iI_798, jJ_261, rR_526, n, x) = some (1059, [some (.ref 209)], [.ref 263, .ref 263, .ref 209], (264, 20175, kK_264, kL_264, iI_803, jJ_265, rR_532, n, x)) := rfl
set_option maxRecDepth 100000 in
theorem g_265 {n : Nat} {x : Nat → Int32} : aSegC aC_265 0 999 24 1059 [some (.ref 209)] [.ref 263, .ref 263, .ref 209] (264, 20175, kK_264, kL_264, iI_803, jJ_265, rR_532, n, x) = some (1091, [some (.ref 209)], [.ref 264, .ref 264, .ref 209], (265, 20179, kK_265, kL_265, iI_809, jJ_266, rR_534, n, x)) := rfl
set_option maxRecDepth 100000 in
theorem g_266 {n : Nat} {x : Nat → Int32} : aSegC aC_266 0 999 24 1091 [some (.ref 209)] [.ref 264, .ref 264, .ref 209] (265, 20179, kK_265, kL_265, iI_809, jJ_266, rR_534, n, x) = some (1123, [some (.ref 209)], [.ref 265, .ref 265, .ref 209], (266, 20184, kK_266, kL_266, iI_815, jJ_267, rR_536, n, x)) := rfl
set_option maxRecDepth 100000 in
theorem g_267 {n : Nat} {x : Nat → Int32} : aSegC aC_267 0 999 24 1123 [some (.ref 209)] [.ref 265, .ref 265, .ref 209] (266, 20184, kK_266, kL_266, iI_815, jJ_267, rR_536, n, x) = some (1155, [some (.ref 209)], [.ref 266, .ref 266, .ref 209], (267, 20189, kK_267, kL_267, iI_821, jJ_268, rR_538, n, x)) := rfl
set_option maxRecDepth 100000 in
theorem g_268 {n : Nat} {x : Nat → Int32} : aSegC aC_268 0 999 24 1155 [some (.ref 209)] [.ref 266, .ref 266, .ref 209] (267, 20189, kK_267, kL_267, iI_821, jJ_268, rR_538, n, x) = some (1187, [some (.ref 209)], [.ref 267, .ref 267, .ref 209], (268, 20193, kK_268, kL_268, iI_827, jJ_269, rR_540, n, x)) := rfl
set_option maxRecDepth 100000 in
theorem g_269 {n : Nat} {x : Nat → Int32} : aSegC aC_269 0 999 24 1187 [some (.ref 209)] [.ref 267, .ref 267, .ref 209] (268, 20193, kK_268, kL_268, iI_827, jJ_269, rR_540, n, x) = some (1219, [some (.ref 209)], [.ref 268, .ref 268, .ref 209], (269, 20198, kK_269, kL_269, iI_833, jJ_270, rR_542, n, x)) := rfl
set_option maxRecDepth 100000 in
theorem g_270 {n : Nat} {x : Nat → Int32} : aSegC aC_270 0 999 24 1219 [some (.ref 209)] [.ref 268, .ref 268, .ref 209] (269, 20198, kK_269, kL_269, iI_833, jJ_270, rR_542, n, x) = some (1253, [some (.ref 209)], [.ref 270, .ref 270, .ref 209], (271, 20204, kK_271, kL_271, iI_839, jJ_272, rR_546, n, x)) := rfl
set_option maxRecDepth 100000 in
theorem g_271 {n : Nat} {x : Nat → Int32} : aSegC aC_271 0 999 24 1253 [some (.ref 209)] [.ref 270, .ref 270, .ref 209] (271, 20204, kK_271, kL_271, iI_839, jJ_272, rR_546, n, x) = some (1287, [some (.ref 209)], [], (272, 20206, kK_272, kL_272, iI_845, jJ_273, rR_549, n, x)) := rfl
set_option maxRecDepth 100000 in
theorem g_272 {n : Nat} {x : Nat → Int32} : aSegC aC_272 0 999 24 1287 [some (.ref 209)] [] (272, 20206, kK_272, kL_272, iI_845, jJ_273, rR_549, n, x) = some (1319, [some (.ref 209)], [.ref 273, .ref 273, .ref 209], (274, 20212, kK_274, kL_274, iI_851, jJ_275, rR_552, n, x)) := rfl
set_option maxRecDepth 100000 in
theorem g_273 {n : Nat} {x : Nat → Int32} : aSegC aC_273 0 999 24 1319 [some (.ref 209)] [.ref 273, .ref 273, .ref 209] (274, 20212, kK_274, kL_274, iI_851, jJ_275, rR_552, n, x) = some (1353, [some (.ref 209)], [], (275, 20215, kK_275, kL_275, iI_857, jJ_276, rR_555, n, x)) := rfl
set_option maxRecDepth 100000 in
theorem g_274 {n : Nat} {x : Nat → Int32} : aSegC aC_274 0 999 24 1353 [some (.ref 209)] [] (275, 20215, kK_275, kL_275, iI_857, jJ_276, rR_555, n, x) = some (1385, [some (.ref 209)], [], (276, 20220, kK_276, kL_276, iI_863, jJ_277, rR_557, n, x)) := rfl
set_option maxRecDepth 100000 in
theorem g_275 {n : Nat} {x : Nat → Int32} : aSegC aC_275 0 999 24 1385 [some (.ref 209)] [] (276, 20220, kK_276, kL_276, iI_863, jJ_277, rR_557, n, x) = some (1417, [some (.ref 209)], [], (277, 20225, kK_277, kL_277, iI_869, jJ_278, rR_559, n, x)) := rfl
set_option maxRecDepth 100000 in
theorem g_276 {n : Nat} {x : Nat → Int32} : aSegC aC_276 0 999 24 1417 [some (.ref 209)] [] (277, 20225, kK_277, kL_277, iI_869, jJ_278, rR_559, n, x) = some (1448, [some (.ref 209)], [.ref 277, .ref 277, .ref 209], (278, 20231, kK_278, kL_278, iI_875, jJ_279, rR_560, n, x)) := rfl
set_option maxRecDepth 100000 in
theorem g_277 {n : Nat} {x : Nat → Int32} : aSegC aC_277 0 999 24 1448 [some (.ref 209)] [.ref 277, .ref 277, .ref 209] (278, 20231, kK_278, kL_278, iI_875, jJ_279, rR_560, n, x) = some (1482, [some (.ref 209)], [], (279, 20235, kK_279, kL_279, iI_881, jJ_280, rR_563, n, x)) := rfl
set_option maxRecDepth 100000 in
theorem g_278 {n : Nat} {x : Nat → Int32} : aSegC aC_278 0 999 24 1482 [some (.ref 209)] [] (279, 20235, kK_279, kL_279, iI_881, jJ_280, rR_563, n, x) = some (1515, [some (.ref 209)], [.ref 280, .ref 280, .ref 209], (281, 20244, kK_281, kL_281, iI_887, jJ_282, rR_566, n, x)) := rfl
set_option maxRecDepth 100000 in
theorem g_279 {n : Nat} {x : Nat → Int32} : aSegC aC_279 0 999 24 1515 [some (.ref 209)] [.ref 280, .ref 280, .ref 209] (281, 20244, kK_281, kL_281, iI_887, jJ_282, rR_566, n, x) = some (1547, [some (.ref 209)], [.ref 281, .ref 281, .ref 209], (282, 20248, kK_282, kL_282, iI_893, jJ_283, rR_568, n, x)) := rfl
set_option maxRecDepth 100000 in
theorem g_280 {n : Nat} {x : Nat → Int32} : aSegC aC_280 0 999 24 1547 [some (.ref 209)] [.ref 281, .ref 281, .ref 209] (282, 20248, kK_282, kL_282, iI_893, jJ_283, rR_568, n, x) = some (1579, [some (.ref 209)], [.ref 282, .ref 282, .ref 209], (283, 20252, kK_283, kL_283, iI_899, jJ_284, rR_570, n, x)) := rfl
set_option maxRecDepth 100000 in
theorem g_281 {n : Nat} {x : Nat → Int32} : aSegC aC_281 0 999 24 1579 [some (.ref 209)] [.ref 282, .ref 282, .ref 209] (283, 20252, kK_283, kL_283, iI_899, jJ_284, rR_570, n, x) = some (1611, [some (.ref 209)], [.ref 283, .ref 283, .ref 209], (284, 20257, kK_284, kL_284, iI_905, jJ_285, rR_572, n, x)) := rfl
set_option maxRecDepth 100000 in
theorem g_282 {n : Nat} {x : Nat → Int32} : aSegC aC_282 0 999 24 1611 [some (.ref 209)] [.ref 283, .ref 283, .ref 209] (284, 20257, kK_284, kL_284, iI_905, jJ_285, rR_572, n, x) = some (1643, [some (.ref 209)], [.ref 284, .ref 284, .ref 209], (285, 20260, kK_285, kL_285, iI_911, jJ_286, rR_574, n, x)) := rfl
set_option maxRecDepth 100000 in
theorem g_283 {n : Nat} {x : Nat → Int32} : aSegC aC_283 0 999 20 1643 [some (.ref 209)] [.ref 284, .ref 284, .ref 209] (285, 20260, kK_285, kL_285, iI_911, jJ_286, rR_574, n, x) = some (1685, [some (.ref 209)], [], (289, 25404, kK_289, kL_289, iI_916, jJ_290, rR_583, n, x)) := rfl
theorem c_49 {n : Nat} {x : Nat → Int32} : Wp 999 149 0 [some (.ref 209)] [] (210, 12465, kK_210, kL_210, iI_618, jJ_210, rR_425, n, x) (fun v h => v = none ∧ h = (289, 25404, kK_289, kL_289, iI_916, jJ_290, rR_583, n, x)) := by
  refine w_segC aC_234_ok 24 g_234 ?_
  refine w_segC aC_235_ok 24 g_235 ?_
  refine w_segC aC_236_ok 24 g_236 ?_
  refine w_segC aC_237_ok 24 g_237 ?_
  refine w_segC aC_238_ok 24 g_238 ?_
  refine w_segC aC_239_ok 24 g_239 ?_
  refine w_segC aC_240_ok 24 g_240 ?_
  refine w_segC aC_241_ok 24 g_241 ?_
  refine w_segC aC_242_ok 24 g_242 ?_
  refine w_segC aC_243_ok 24 g_243 ?_
  refine w_segC aC_244_ok 24 g_244 ?_
  refine w_segC aC_245_ok 24 g_245 ?_
  refine w_segC aC_246_ok 24 g_246 ?_
  refine w_segC aC_247_ok 24 g_247 ?_
  refine w_segC aC_248_ok 24 g_248 ?_
  refine w_segC aC_249_ok 24 g_249 ?_
  refine w_segC aC_250_ok 24 g_250 ?_
  refine w_segC aC_251_ok 24 g_251 ?_
  refine w_segC aC_252_ok 24 g_252 ?_
  refine w_segC aC_253_ok 24 g_253 ?_
  refine w_segC aC_254_ok 24 g_254 ?_
  refine w_segC aC_255_ok 24 g_255 ?_
  refine w_segC aC_256_ok 24 g_256 ?_
  refine w_segC aC_257_ok 24 g_257 ?_
  refine w_segC aC_258_ok 24 g_258 ?_
  refine w_segC aC_259_ok 24 g_259 ?_
  refine w_segC aC_260_ok 24 g_260 ?_
  refine w_segC aC_261_ok 24 g_261 ?_
  refine w_segC aC_262_ok 24 g_262 ?_
  refine w_segC aC_263_ok 24 g_263 ?_
  refine w_segC aC_264_ok 24 g_264 ?_
  refine w_segC aC_265_ok 24 g_265 ?_
  refine w_segC aC_266_ok 24 g_266 ?_
  refine w_segC aC_267_ok 24 g_267 ?_
  refine w_segC aC_268_ok 24 g_268 ?_
  refine w_segC aC_269_ok 24 g_269 ?_
  refine w_segC aC_270_ok 24 g_270 ?_
  refine w_segC aC_271_ok 24 g_271 ?_
  refine w_segC aC_272_ok 24 g_272 ?_
  refine w_segC aC_273_ok 24 g_273 ?_
  refine w_segC aC_274_ok 24 g_274 ?_
  refine w_segC aC_275_ok 24 g_275 ?_
  refine w_segC aC_276_ok 24 g_276 ?_
  refine w_segC aC_277_ok 24 g_277 ?_
  refine w_segC aC_278_ok 24 g_278 ?_
  refine w_segC aC_279_ok 24 g_279 ?_
  refine w_segC aC_280_ok 24 g_280 ?_
  refine w_segC aC_281_ok 24 g_281 ?_
  refine w_segC aC_282_ok 24 g_282 ?_
  refine w_segC aC_283_ok 20 g_283 ?_
  exact w_ret aR_149 rfl ⟨rfl, rfl⟩
set_option maxRecDepth 100000 in
theorem g_284 {n : Nat} {x : Nat → Int32} : aSeg 1000 295 1 15 [some (.ref aXa), some (.ref 0), none, none] [.ref 209] (289, 25404, kK_289, kL_289, iI_916, jJ_290, rR_583, n, x) = some (16, [some (.ref aXa), some (.ref 0), some (.ref 209), none], [], (289, 25404, kK_289, kL_289, iI_916, jJ_290, rR_583, n, x)) := rfl
theorem c_law {n : Nat} {x : Nat → Int32} {Q : Option Value → aHp → Prop} (K : Wp 1000 295 16 [some (.ref aXa), some (.ref 0), some (.ref 209), none] [] (289, 25404, kK_289, kL_289, iI_916, jJ_290, rR_583, n, x) Q) : Wp 1000 295 0 [some (.ref aXa), none, none, none] [] (0, 0, kK_0, kL_0, iI_0, jJ_0, rR_0, n, x) Q := by
  refine w_seg 2 g_0 ?_
  refine w_call (zAt eM_295 rfl) rfl eM_100 rfl rfl rfl c_48 ?_
  refine w_seg 3 g_233 ?_
  refine w_call (zAt eM_295 rfl) rfl eM_149 rfl rfl rfl c_49 ?_
  refine w_seg 1 g_284 ?_
  exact K
