/-! ===== methods (by gen_mir.py) ===== -/
def m295_18 (X : Nat → Int32) : Nat → Nat → Int → zS → Option (Int × zS)
  | 0, _, _, _ => none
  | n + 1, n0, x3, s => oZ (n0 : Nat) fun z1 => oZ (z1 - (6 : Int)) fun z3 => if z3 < x3 then some ((1 : Int), s) else oX x3 n0 (oV ((X x3.toNat).toInt) fun z6 => oV (zAnd z6 (63 : Int)) fun z8 => if z8 = (0 : Int) then oZ (x3 + (1 : Int)) fun z10 => oX z10 n0 (oV ((X z10.toNat).toInt) fun z12 => oZ (x3 + (2 : Int)) fun z14 => oX z14 n0 (oV ((X z14.toNat).toInt) fun z16 => oZ (x3 + (3 : Int)) fun z18 => oX z18 n0 (oV ((X z18.toNat).toInt) fun z20 => oZ (x3 + (4 : Int)) fun z22 => oX z22 n0 (oV ((X z22.toNat).toInt) fun z24 => oZ (x3 + (5 : Int)) fun z26 => oX z26 n0 (oV ((X z26.toNat).toInt) fun z28 => oC (m101 z12 z16 z20 z24 z28 s) fun z30 s31 => oZ (x3 + (1 : Int)) fun z33 => oX z33 n0 (oV ((X z33.toNat).toInt) fun z35 => oZ (x3 + (2 : Int)) fun z37 => oX z37 n0 (oV ((X z37.toNat).toInt) fun z39 => oZ (x3 + (3 : Int)) fun z41 => oX z41 n0 (oV ((X z41.toNat).toInt) fun z43 => oZ (x3 + (4 : Int)) fun z45 => oX z45 n0 (oV ((X z45.toNat).toInt) fun z47 => oZ (x3 + (5 : Int)) fun z49 => oX z49 n0 (oV ((X z49.toNat).toInt) fun z51 => oC (m151 z35 z39 z43 z47 z51 s31) fun z53 s54 => if z30 = z53 then oZ (x3 + (6 : Int)) fun z57 => m295_18 X n n0 z57 s54 else some ((0 : Int), s54))))))))))) else if z8 = (1 : Int) then oZ (x3 + (1 : Int)) fun z60 => oX z60 n0 (oV ((X z60.toNat).toInt) fun z62 => oC (m102 z62 s) fun z64 s65 => oZ (x3 + (1 : Int)) fun z67 => oX z67 n0 (oV ((X z67.toNat).toInt) fun z69 => oC (m152 z69 s65) fun z71 s72 => if z64 = z71 then oZ (x3 + (6 : Int)) fun z75 => m295_18 X n n0 z75 s72 else some ((0 : Int), s72))) else if z8 = (2 : Int) then oC (m103 s) fun z78 s79 => oC (m177 s79) fun z81 s82 => if z78 = z81 then oZ (x3 + (6 : Int)) fun z85 => m295_18 X n n0 z85 s82 else some ((0 : Int), s82) else if z8 = (3 : Int) then oZ (x3 + (1 : Int)) fun z88 => oX z88 n0 (oV ((X z88.toNat).toInt) fun z90 => oC (m104 z90 s) fun z92 s93 => oZ (x3 + (1 : Int)) fun z95 => oX z95 n0 (oV ((X z95.toNat).toInt) fun z97 => oC (m179 z97 s93) fun z99 s100 => if z92 = z99 then oZ (x3 + (6 : Int)) fun z103 => m295_18 X n n0 z103 s100 else some ((0 : Int), s100))) else if z8 = (4 : Int) then oZ (x3 + (1 : Int)) fun z106 => oX z106 n0 (oV ((X z106.toNat).toInt) fun z108 => oC (m105 z108 s) fun z110 s111 => oZ (x3 + (1 : Int)) fun z113 => oX z113 n0 (oV ((X z113.toNat).toInt) fun z115 => oC (m207 z115 s111) fun z117 s118 => if z110 = z117 then oZ (x3 + (6 : Int)) fun z121 => m295_18 X n n0 z121 s118 else some ((0 : Int), s118))) else if z8 = (5 : Int) then oZ (x3 + (1 : Int)) fun z124 => oX z124 n0 (oV ((X z124.toNat).toInt) fun z126 => oZ (x3 + (2 : Int)) fun z128 => oX z128 n0 (oV ((X z128.toNat).toInt) fun z130 => oZ (x3 + (3 : Int)) fun z132 => oX z132 n0 (oV ((X z132.toNat).toInt) fun z134 => oC (m106 z126 z130 z134 s) fun z136 s137 => oZ (x3 + (1 : Int)) fun z139 => oX z139 n0 (oV ((X z139.toNat).toInt) fun z141 => oZ (x3 + (2 : Int)) fun z143 => oX z143 n0 (oV ((X z143.toNat).toInt) fun z145 => oZ (x3 + (3 : Int)) fun z147 => oX z147 n0 (oV ((X z147.toNat).toInt) fun z149 => oC (m208 z141 z145 z149 s137) fun z151 s152 => if z136 = z151 then oZ (x3 + (6 : Int)) fun z155 => m295_18 X n n0 z155 s152 else some ((0 : Int), s152))))))) else if z8 = (6 : Int) then oZ (x3 + (1 : Int)) fun z158 => oX z158 n0 (oV ((X z158.toNat).toInt) fun z160 => oZ (x3 + (2 : Int)) fun z162 => oX z162 n0 (oV ((X z162.toNat).toInt) fun z164 => oC (m107 z160 z164 s) fun z166 s167 => oZ (x3 + (1 : Int)) fun z169 => oX z169 n0 (oV ((X z169.toNat).toInt) fun z171 => oZ (x3 + (2 : Int)) fun z173 => oX z173 n0 (oV ((X z173.toNat).toInt) fun z175 => oC (m209 z171 z175 s167) fun z177 s178 => if z166 = z177 then oZ (x3 + (6 : Int)) fun z181 => m295_18 X n n0 z181 s178 else some ((0 : Int), s178))))) else if z8 = (7 : Int) then oZ (x3 + (1 : Int)) fun z184 => oX z184 n0 (oV ((X z184.toNat).toInt) fun z186 => oZ (x3 + (2 : Int)) fun z188 => oX z188 n0 (oV ((X z188.toNat).toInt) fun z190 => oC (m108 z186 z190 s) fun z192 s193 => oZ (x3 + (1 : Int)) fun z195 => oX z195 n0 (oV ((X z195.toNat).toInt) fun z197 => oZ (x3 + (2 : Int)) fun z199 => oX z199 n0 (oV ((X z199.toNat).toInt) fun z201 => oC (m210 z197 z201 s193) fun z203 s204 => if z192 = z203 then oZ (x3 + (6 : Int)) fun z207 => m295_18 X n n0 z207 s204 else some ((0 : Int), s204))))) else if z8 = (8 : Int) then oZ (x3 + (1 : Int)) fun z210 => oX z210 n0 (oV ((X z210.toNat).toInt) fun z212 => oZ (x3 + (2 : Int)) fun z214 => oX z214 n0 (oV ((X z214.toNat).toInt) fun z216 => oC (m109 z212 z216 s) fun z218 s219 => oZ (x3 + (1 : Int)) fun z221 => oX z221 n0 (oV ((X z221.toNat).toInt) fun z223 => oZ (x3 + (2 : Int)) fun z225 => oX z225 n0 (oV ((X z225.toNat).toInt) fun z227 => oC (m211 z223 z227 s219) fun z229 s230 => if z218 = z229 then oZ (x3 + (6 : Int)) fun z233 => m295_18 X n n0 z233 s230 else some ((0 : Int), s230))))) else if z8 = (9 : Int) then oZ (x3 + (1 : Int)) fun z236 => oX z236 n0 (oV ((X z236.toNat).toInt) fun z238 => oZ (x3 + (2 : Int)) fun z240 => oX z240 n0 (oV ((X z240.toNat).toInt) fun z242 => oC (m110 z238 z242 s) fun z244 s245 => oZ (x3 + (1 : Int)) fun z247 => oX z247 n0 (oV ((X z247.toNat).toInt) fun z249 => oZ (x3 + (2 : Int)) fun z251 => oX z251 n0 (oV ((X z251.toNat).toInt) fun z253 => oC (m212 z249 z253 s245) fun z255 s256 => if z244 = z255 then oZ (x3 + (6 : Int)) fun z259 => m295_18 X n n0 z259 s256 else some ((0 : Int), s256))))) else if z8 = (10 : Int) then oZ (x3 + (1 : Int)) fun z262 => oX z262 n0 (oV ((X z262.toNat).toInt) fun z264 => oC (m111 z264 s) fun z266 s267 => oZ (x3 + (1 : Int)) fun z269 => oX z269 n0 (oV ((X z269.toNat).toInt) fun z271 => oC (m213 z271 s267) fun z273 s274 => if z266 = z273 then oZ (x3 + (6 : Int)) fun z277 => m295_18 X n n0 z277 s274 else some ((0 : Int), s274))) else if z8 = (11 : Int) then oZ (x3 + (1 : Int)) fun z280 => oX z280 n0 (oV ((X z280.toNat).toInt) fun z282 => oC (m112 z282 s) fun z284 s285 => oZ (x3 + (1 : Int)) fun z287 => oX z287 n0 (oV ((X z287.toNat).toInt) fun z289 => oC (m216 z289 s285) fun z291 s292 => if z284 = z291 then oZ (x3 + (6 : Int)) fun z295 => m295_18 X n n0 z295 s292 else some ((0 : Int), s292))) else if z8 = (12 : Int) then oZ (x3 + (1 : Int)) fun z298 => oX z298 n0 (oV ((X z298.toNat).toInt) fun z300 => oZ (x3 + (2 : Int)) fun z302 => oX z302 n0 (oV ((X z302.toNat).toInt) fun z304 => oC (m113 z300 z304 s) fun z306 s307 => oZ (x3 + (1 : Int)) fun z309 => oX z309 n0 (oV ((X z309.toNat).toInt) fun z311 => oZ (x3 + (2 : Int)) fun z313 => oX z313 n0 (oV ((X z313.toNat).toInt) fun z315 => oC (m219 z311 z315 s307) fun z317 s318 => if z306 = z317 then oZ (x3 + (6 : Int)) fun z321 => m295_18 X n n0 z321 s318 else some ((0 : Int), s318))))) else if z8 = (13 : Int) then oZ (x3 + (1 : Int)) fun z324 => oX z324 n0 (oV ((X z324.toNat).toInt) fun z326 => oZ (x3 + (2 : Int)) fun z328 => oX z328 n0 (oV ((X z328.toNat).toInt) fun z330 => oZ (x3 + (3 : Int)) fun z332 => oX z332 n0 (oV ((X z332.toNat).toInt) fun z334 => oC (m114 z326 z330 z334 s) fun z336 s337 => oZ (x3 + (1 : Int)) fun z339 => oX z339 n0 (oV ((X z339.toNat).toInt) fun z341 => oZ (x3 + (2 : Int)) fun z343 => oX z343 n0 (oV ((X z343.toNat).toInt) fun z345 => oZ (x3 + (3 : Int)) fun z347 => oX z347 n0 (oV ((X z347.toNat).toInt) fun z349 => oC (m220 z341 z345 z349 s337) fun z351 s352 => if z336 = z351 then oZ (x3 + (6 : Int)) fun z355 => m295_18 X n n0 z355 s352 else some ((0 : Int), s352))))))) else if z8 = (14 : Int) then oZ (x3 + (1 : Int)) fun z358 => oX z358 n0 (oV ((X z358.toNat).toInt) fun z360 => oZ (x3 + (2 : Int)) fun z362 => oX z362 n0 (oV ((X z362.toNat).toInt) fun z364 => oC (m115 z360 z364 s) fun z366 s367 => oZ (x3 + (1 : Int)) fun z369 => oX z369 n0 (oV ((X z369.toNat).toInt) fun z371 => oZ (x3 + (2 : Int)) fun z373 => oX z373 n0 (oV ((X z373.toNat).toInt) fun z375 => oC (m221 z371 z375 s367) fun z377 s378 => if z366 = z377 then oZ (x3 + (6 : Int)) fun z381 => m295_18 X n n0 z381 s378 else some ((0 : Int), s378))))) else if z8 = (15 : Int) then oZ (x3 + (1 : Int)) fun z384 => oX z384 n0 (oV ((X z384.toNat).toInt) fun z386 => oZ (x3 + (2 : Int)) fun z388 => oX z388 n0 (oV ((X z388.toNat).toInt) fun z390 => oZ (x3 + (3 : Int)) fun z392 => oX z392 n0 (oV ((X z392.toNat).toInt) fun z394 => oC (m116 z386 z390 z394 s) fun z396 s397 => oZ (x3 + (1 : Int)) fun z399 => oX z399 n0 (oV ((X z399.toNat).toInt) fun z401 => oZ (x3 + (2 : Int)) fun z403 => oX z403 n0 (oV ((X z403.toNat).toInt) fun z405 => oZ (x3 + (3 : Int)) fun z407 => oX z407 n0 (oV ((X z407.toNat).toInt) fun z409 => oC (m222 z401 z405 z409 s397) fun z411 s412 => if z396 = z411 then oZ (x3 + (6 : Int)) fun z415 => m295_18 X n n0 z415 s412 else some ((0 : Int), s412))))))) else if z8 = (16 : Int) then oZ (x3 + (1 : Int)) fun z418 => oX z418 n0 (oV ((X z418.toNat).toInt) fun z420 => oC (m117 z420 s) fun z422 s423 => oZ (x3 + (1 : Int)) fun z425 => oX z425 n0 (oV ((X z425.toNat).toInt) fun z427 => oC (m227 z427 s423) fun z429 s430 => if z422 = z429 then oZ (x3 + (6 : Int)) fun z433 => m295_18 X n n0 z433 s430 else some ((0 : Int), s430))) else if z8 = (17 : Int) then oZ (x3 + (1 : Int)) fun z436 => oX z436 n0 (oV ((X z436.toNat).toInt) fun z438 => oC (m118 z438 s) fun z440 s441 => oZ (x3 + (1 : Int)) fun z443 => oX z443 n0 (oV ((X z443.toNat).toInt) fun z445 => oC (m229 z445 s441) fun z447 s448 => if z440 = z447 then oZ (x3 + (6 : Int)) fun z451 => m295_18 X n n0 z451 s448 else some ((0 : Int), s448))) else if z8 = (18 : Int) then oZ (x3 + (1 : Int)) fun z454 => oX z454 n0 (oV ((X z454.toNat).toInt) fun z456 => oZ (x3 + (2 : Int)) fun z458 => oX z458 n0 (oV ((X z458.toNat).toInt) fun z460 => oZ (x3 + (3 : Int)) fun z462 => oX z462 n0 (oV ((X z462.toNat).toInt) fun z464 => oC (m119 z456 z460 z464 s) fun z466 s467 => oZ (x3 + (1 : Int)) fun z469 => oX z469 n0 (oV ((X z469.toNat).toInt) fun z471 => oZ (x3 + (2 : Int)) fun z473 => oX z473 n0 (oV ((X z473.toNat).toInt) fun z475 => oZ (x3 + (3 : Int)) fun z477 => oX z477 n0 (oV ((X z477.toNat).toInt) fun z479 => oC (m230 z471 z475 z479 s467) fun z481 s482 => if z466 = z481 then oZ (x3 + (6 : Int)) fun z485 => m295_18 X n n0 z485 s482 else some ((0 : Int), s482))))))) else if z8 = (19 : Int) then oZ (x3 + (1 : Int)) fun z488 => oX z488 n0 (oV ((X z488.toNat).toInt) fun z490 => oC (m120 z490 s) fun z492 s493 => oZ (x3 + (1 : Int)) fun z495 => oX z495 n0 (oV ((X z495.toNat).toInt) fun z497 => oC (m231 z497 s493) fun z499 s500 => if z492 = z499 then oZ (x3 + (6 : Int)) fun z503 => m295_18 X n n0 z503 s500 else some ((0 : Int), s500))) else if z8 = (20 : Int) then oC (m121 s) fun z506 s507 => oC (m233 s507) fun z509 s510 => if z506 = z509 then oZ (x3 + (6 : Int)) fun z513 => m295_18 X n n0 z513 s510 else some ((0 : Int), s510) else if z8 = (21 : Int) then oZ (x3 + (1 : Int)) fun z516 => oX z516 n0 (oV ((X z516.toNat).toInt) fun z518 => oC (m122 z518 s) fun z520 s521 => oZ (x3 + (1 : Int)) fun z523 => oX z523 n0 (oV ((X z523.toNat).toInt) fun z525 => oC (m236 z525 s521) fun z527 s528 => if z520 = z527 then oZ (x3 + (6 : Int)) fun z531 => m295_18 X n n0 z531 s528 else some ((0 : Int), s528))) else if z8 = (22 : Int) then oZ (x3 + (1 : Int)) fun z534 => oX z534 n0 (oV ((X z534.toNat).toInt) fun z536 => oC (m123 z536 s) fun z538 s539 => oZ (x3 + (1 : Int)) fun z541 => oX z541 n0 (oV ((X z541.toNat).toInt) fun z543 => oC (m238 z543 s539) fun z545 s546 => if z538 = z545 then oZ (x3 + (6 : Int)) fun z549 => m295_18 X n n0 z549 s546 else some ((0 : Int), s546))) else if z8 = (23 : Int) then oZ (x3 + (1 : Int)) fun z552 => oX z552 n0 (oV ((X z552.toNat).toInt) fun z554 => oC (m124 z554 s) fun z556 s557 => oZ (x3 + (1 : Int)) fun z559 => oX z559 n0 (oV ((X z559.toNat).toInt) fun z561 => oC (m241 z561 s557) fun z563 s564 => if z556 = z563 then oZ (x3 + (6 : Int)) fun z567 => m295_18 X n n0 z567 s564 else some ((0 : Int), s564))) else if z8 = (24 : Int) then oZ (x3 + (1 : Int)) fun z570 => oX z570 n0 (oV ((X z570.toNat).toInt) fun z572 => oC (m125 z572 s) fun z574 s575 => oZ (x3 + (1 : Int)) fun z577 => oX z577 n0 (oV ((X z577.toNat).toInt) fun z579 => oC (m242 z579 s575) fun z581 s582 => if z574 = z581 then oZ (x3 + (6 : Int)) fun z585 => m295_18 X n n0 z585 s582 else some ((0 : Int), s582))) else if z8 = (25 : Int) then oZ (x3 + (1 : Int)) fun z588 => oX z588 n0 (oV ((X z588.toNat).toInt) fun z590 => oC (m126 z590 s) fun z592 s593 => oZ (x3 + (1 : Int)) fun z595 => oX z595 n0 (oV ((X z595.toNat).toInt) fun z597 => oC (m243 z597 s593) fun z599 s600 => if z592 = z599 then oZ (x3 + (6 : Int)) fun z603 => m295_18 X n n0 z603 s600 else some ((0 : Int), s600))) else if z8 = (26 : Int) then oZ (x3 + (1 : Int)) fun z606 => oX z606 n0 (oV ((X z606.toNat).toInt) fun z608 => oC (m127 z608 s) fun z610 s611 => oZ (x3 + (1 : Int)) fun z613 => oX z613 n0 (oV ((X z613.toNat).toInt) fun z615 => oC (m244 z615 s611) fun z617 s618 => if z610 = z617 then oZ (x3 + (6 : Int)) fun z621 => m295_18 X n n0 z621 s618 else some ((0 : Int), s618))) else if z8 = (27 : Int) then oZ (x3 + (1 : Int)) fun z624 => oX z624 n0 (oV ((X z624.toNat).toInt) fun z626 => oC (m128 z626 s) fun z628 s629 => oZ (x3 + (1 : Int)) fun z631 => oX z631 n0 (oV ((X z631.toNat).toInt) fun z633 => oC (m247 z633 s629) fun z635 s636 => if z628 = z635 then oZ (x3 + (6 : Int)) fun z639 => m295_18 X n n0 z639 s636 else some ((0 : Int), s636))) else if z8 = (28 : Int) then oC (m129 s) fun z642 s643 => oC (m240 s643) fun z645 s646 => if z642 = z645 then oZ (x3 + (6 : Int)) fun z649 => m295_18 X n n0 z649 s646 else some ((0 : Int), s646) else if z8 = (29 : Int) then oZ (x3 + (1 : Int)) fun z652 => oX z652 n0 (oV ((X z652.toNat).toInt) fun z654 => oC (m130 z654 s) fun z656 s657 => oZ (x3 + (1 : Int)) fun z659 => oX z659 n0 (oV ((X z659.toNat).toInt) fun z661 => oC (m245 z661 s657) fun z663 s664 => if z656 = z663 then oZ (x3 + (6 : Int)) fun z667 => m295_18 X n n0 z667 s664 else some ((0 : Int), s664))) else if z8 = (30 : Int) then oC (m131 s) fun z670 s671 => oC (m276 s671) fun z673 s674 => oV (zCmp z670 z673) fun z676 => if z676 = (0 : Int) then oZ (x3 + (6 : Int)) fun z678 => m295_18 X n n0 z678 s674 else some ((0 : Int), s674) else if z8 = (31 : Int) then oC (m132 s) fun z681 s682 => oC (m279 s682) fun z684 s685 => if z681 = z684 then oZ (x3 + (6 : Int)) fun z688 => m295_18 X n n0 z688 s685 else some ((0 : Int), s685) else if z8 = (32 : Int) then oZ (x3 + (1 : Int)) fun z691 => oX z691 n0 (oV ((X z691.toNat).toInt) fun z693 => oC (m133 z693 s) fun z695 s696 => oZ (x3 + (1 : Int)) fun z698 => oX z698 n0 (oV ((X z698.toNat).toInt) fun z700 => oC (m280 z700 s696) fun z702 s703 => if z695 = z702 then oZ (x3 + (6 : Int)) fun z706 => m295_18 X n n0 z706 s703 else some ((0 : Int), s703))) else if z8 = (33 : Int) then oC (m134 s) fun z709 s710 => oC (m284 s710) fun z712 s713 => if z709 = z712 then oZ (x3 + (6 : Int)) fun z716 => m295_18 X n n0 z716 s713 else some ((0 : Int), s713) else if z8 = (34 : Int) then oZ (x3 + (1 : Int)) fun z719 => oX z719 n0 (oV ((X z719.toNat).toInt) fun z721 => oC (m135 z721 s) fun z723 s724 => oZ (x3 + (1 : Int)) fun z726 => oX z726 n0 (oV ((X z726.toNat).toInt) fun z728 => oC (m285 z728 s724) fun z730 s731 => if z723 = z730 then oZ (x3 + (6 : Int)) fun z734 => m295_18 X n n0 z734 s731 else some ((0 : Int), s731))) else oZ (x3 + (6 : Int)) fun z736 => m295_18 X n n0 z736 s)
set_option maxHeartbeats 4000000 in
set_option maxRecDepth 20000 in
theorem c295_18 {G : aHp} {d : Nat} (hG : zG G) : ∀ {n : Nat} {n0 : Nat} {x3 : Int} {s : zS} {r_ : Int} {s_ : zS}, m295_18 (aX G) n n0 x3 s = some (r_, s_) → Zp G (d + 333) 295 18 [some (zr 104 n0 aXa), some (zr 11 0 0), some (zr 12 0 209), some (zi x3)] [] s (zRet (some (zi r_)) s_) := by
  intro n
  induction n with
  | zero => intro n0 x3 s r_ s_ hm; cases hm
  | succ n ih =>
  intro n0 x3 s r_ s_ hm
  replace hm : (oZ (n0 : Nat) fun z1 => oZ (z1 - (6 : Int)) fun z3 => if z3 < x3 then some ((1 : Int), s) else oX x3 n0 (oV (((aX G) x3.toNat).toInt) fun z6 => oV (zAnd z6 (63 : Int)) fun z8 => if z8 = (0 : Int) then oZ (x3 + (1 : Int)) fun z10 => oX z10 n0 (oV (((aX G) z10.toNat).toInt) fun z12 => oZ (x3 + (2 : Int)) fun z14 => oX z14 n0 (oV (((aX G) z14.toNat).toInt) fun z16 => oZ (x3 + (3 : Int)) fun z18 => oX z18 n0 (oV (((aX G) z18.toNat).toInt) fun z20 => oZ (x3 + (4 : Int)) fun z22 => oX z22 n0 (oV (((aX G) z22.toNat).toInt) fun z24 => oZ (x3 + (5 : Int)) fun z26 => oX z26 n0 (oV (((aX G) z26.toNat).toInt) fun z28 => oC (m101 z12 z16 z20 z24 z28 s) fun z30 s31 => oZ (x3 + (1 : Int)) fun z33 => oX z33 n0 (oV (((aX G) z33.toNat).toInt) fun z35 => oZ (x3 + (2 : Int)) fun z37 => oX z37 n0 (oV (((aX G) z37.toNat).toInt) fun z39 => oZ (x3 + (3 : Int)) fun z41 => oX z41 n0 (oV (((aX G) z41.toNat).toInt) fun z43 => oZ (x3 + (4 : Int)) fun z45 => oX z45 n0 (oV (((aX G) z45.toNat).toInt) fun z47 => oZ (x3 + (5 : Int)) fun z49 => oX z49 n0 (oV (((aX G) z49.toNat).toInt) fun z51 => oC (m151 z35 z39 z43 z47 z51 s31) fun z53 s54 => if z30 = z53 then oZ (x3 + (6 : Int)) fun z57 => m295_18 (aX G) n n0 z57 s54 else some ((0 : Int), s54))))))))))) else if z8 = (1 : Int) then oZ (x3 + (1 : Int)) fun z60 => oX z60 n0 (oV (((aX G) z60.toNat).toInt) fun z62 => oC (m102 z62 s) fun z64 s65 => oZ (x3 + (1 : Int)) fun z67 => oX z67 n0 (oV (((aX G) z67.toNat).toInt) fun z69 => oC (m152 z69 s65) fun z71 s72 => if z64 = z71 then oZ (x3 + (6 : Int)) fun z75 => m295_18 (aX G) n n0 z75 s72 else some ((0 : Int), s72))) else if z8 = (2 : Int) then oC (m103 s) fun z78 s79 => oC (m177 s79) fun z81 s82 => if z78 = z81 then oZ (x3 + (6 : Int)) fun z85 => m295_18 (aX G) n n0 z85 s82 else some ((0 : Int), s82) else if z8 = (3 : Int) then oZ (x3 + (1 : Int)) fun z88 => oX z88 n0 (oV (((aX G) z88.toNat).toInt) fun z90 => oC (m104 z90 s) fun z92 s93 => oZ (x3 + (1 : Int)) fun z95 => oX z95 n0 (oV (((aX G) z95.toNat).toInt) fun z97 => oC (m179 z97 s93) fun z99 s100 => if z92 = z99 then oZ (x3 + (6 : Int)) fun z103 => m295_18 (aX G) n n0 z103 s100 else some ((0 : Int), s100))) else if z8 = (4 : Int) then oZ (x3 + (1 : Int)) fun z106 => oX z106 n0 (oV (((aX G) z106.toNat).toInt) fun z108 => oC (m105 z108 s) fun z110 s111 => oZ (x3 + (1 : Int)) fun z113 => oX z113 n0 (oV (((aX G) z113.toNat).toInt) fun z115 => oC (m207 z115 s111) fun z117 s118 => if z110 = z117 then oZ (x3 + (6 : Int)) fun z121 => m295_18 (aX G) n n0 z121 s118 else some ((0 : Int), s118))) else if z8 = (5 : Int) then oZ (x3 + (1 : Int)) fun z124 => oX z124 n0 (oV (((aX G) z124.toNat).toInt) fun z126 => oZ (x3 + (2 : Int)) fun z128 => oX z128 n0 (oV (((aX G) z128.toNat).toInt) fun z130 => oZ (x3 + (3 : Int)) fun z132 => oX z132 n0 (oV (((aX G) z132.toNat).toInt) fun z134 => oC (m106 z126 z130 z134 s) fun z136 s137 => oZ (x3 + (1 : Int)) fun z139 => oX z139 n0 (oV (((aX G) z139.toNat).toInt) fun z141 => oZ (x3 + (2 : Int)) fun z143 => oX z143 n0 (oV (((aX G) z143.toNat).toInt) fun z145 => oZ (x3 + (3 : Int)) fun z147 => oX z147 n0 (oV (((aX G) z147.toNat).toInt) fun z149 => oC (m208 z141 z145 z149 s137) fun z151 s152 => if z136 = z151 then oZ (x3 + (6 : Int)) fun z155 => m295_18 (aX G) n n0 z155 s152 else some ((0 : Int), s152))))))) else if z8 = (6 : Int) then oZ (x3 + (1 : Int)) fun z158 => oX z158 n0 (oV (((aX G) z158.toNat).toInt) fun z160 => oZ (x3 + (2 : Int)) fun z162 => oX z162 n0 (oV (((aX G) z162.toNat).toInt) fun z164 => oC (m107 z160 z164 s) fun z166 s167 => oZ (x3 + (1 : Int)) fun z169 => oX z169 n0 (oV (((aX G) z169.toNat).toInt) fun z171 => oZ (x3 + (2 : Int)) fun z173 => oX z173 n0 (oV (((aX G) z173.toNat).toInt) fun z175 => oC (m209 z171 z175 s167) fun z177 s178 => if z166 = z177 then oZ (x3 + (6 : Int)) fun z181 => m295_18 (aX G) n n0 z181 s178 else some ((0 : Int), s178))))) else if z8 = (7 : Int) then oZ (x3 + (1 : Int)) fun z184 => oX z184 n0 (oV (((aX G) z184.toNat).toInt) fun z186 => oZ (x3 + (2 : Int)) fun z188 => oX z188 n0 (oV (((aX G) z188.toNat).toInt) fun z190 => oC (m108 z186 z190 s) fun z192 s193 => oZ (x3 + (1 : Int)) fun z195 => oX z195 n0 (oV (((aX G) z195.toNat).toInt) fun z197 => oZ (x3 + (2 : Int)) fun z199 => oX z199 n0 (oV (((aX G) z199.toNat).toInt) fun z201 => oC (m210 z197 z201 s193) fun z203 s204 => if z192 = z203 then oZ (x3 + (6 : Int)) fun z207 => m295_18 (aX G) n n0 z207 s204 else some ((0 : Int), s204))))) else if z8 = (8 : Int) then oZ (x3 + (1 : Int)) fun z210 => oX z210 n0 (oV (((aX G) z210.toNat).toInt) fun z212 => oZ (x3 + (2 : Int)) fun z214 => oX z214 n0 (oV (((aX G) z214.toNat).toInt) fun z216 => oC (m109 z212 z216 s) fun z218 s219 => oZ (x3 + (1 : Int)) fun z221 => oX z221 n0 (oV (((aX G) z221.toNat).toInt) fun z223 => oZ (x3 + (2 : Int)) fun z225 => oX z225 n0 (oV (((aX G) z225.toNat).toInt) fun z227 => oC (m211 z223 z227 s219) fun z229 s230 => if z218 = z229 then oZ (x3 + (6 : Int)) fun z233 => m295_18 (aX G) n n0 z233 s230 else some ((0 : Int), s230))))) else if z8 = (9 : Int) then oZ (x3 + (1 : Int)) fun z236 => oX z236 n0 (oV (((aX G) z236.toNat).toInt) fun z238 => oZ (x3 + (2 : Int)) fun z240 => oX z240 n0 (oV (((aX G) z240.toNat).toInt) fun z242 => oC (m110 z238 z242 s) fun z244 s245 => oZ (x3 + (1 : Int)) fun z247 => oX z247 n0 (oV (((aX G) z247.toNat).toInt) fun z249 => oZ (x3 + (2 : Int)) fun z251 => oX z251 n0 (oV (((aX G) z251.toNat).toInt) fun z253 => oC (m212 z249 z253 s245) fun z255 s256 => if z244 = z255 then oZ (x3 + (6 : Int)) fun z259 => m295_18 (aX G) n n0 z259 s256 else some ((0 : Int), s256))))) else if z8 = (10 : Int) then oZ (x3 + (1 : Int)) fun z262 => oX z262 n0 (oV (((aX G) z262.toNat).toInt) fun z264 => oC (m111 z264 s) fun z266 s267 => oZ (x3 + (1 : Int)) fun z269 => oX z269 n0 (oV (((aX G) z269.toNat).toInt) fun z271 => oC (m213 z271 s267) fun z273 s274 => if z266 = z273 then oZ (x3 + (6 : Int)) fun z277 => m295_18 (aX G) n n0 z277 s274 else some ((0 : Int), s274))) else if z8 = (11 : Int) then oZ (x3 + (1 : Int)) fun z280 => oX z280 n0 (oV (((aX G) z280.toNat).toInt) fun z282 => oC (m112 z282 s) fun z284 s285 => oZ (x3 + (1 : Int)) fun z287 => oX z287 n0 (oV (((aX G) z287.toNat).toInt) fun z289 => oC (m216 z289 s285) fun z291 s292 => if z284 = z291 then oZ (x3 + (6 : Int)) fun z295 => m295_18 (aX G) n n0 z295 s292 else some ((0 : Int), s292))) else if z8 = (12 : Int) then oZ (x3 + (1 : Int)) fun z298 => oX z298 n0 (oV (((aX G) z298.toNat).toInt) fun z300 => oZ (x3 + (2 : Int)) fun z302 => oX z302 n0 (oV (((aX G) z302.toNat).toInt) fun z304 => oC (m113 z300 z304 s) fun z306 s307 => oZ (x3 + (1 : Int)) fun z309 => oX z309 n0 (oV (((aX G) z309.toNat).toInt) fun z311 => oZ (x3 + (2 : Int)) fun z313 => oX z313 n0 (oV (((aX G) z313.toNat).toInt) fun z315 => oC (m219 z311 z315 s307) fun z317 s318 => if z306 = z317 then oZ (x3 + (6 : Int)) fun z321 => m295_18 (aX G) n n0 z321 s318 else some ((0 : Int), s318))))) else if z8 = (13 : Int) then oZ (x3 + (1 : Int)) fun z324 => oX z324 n0 (oV (((aX G) z324.toNat).toInt) fun z326 => oZ (x3 + (2 : Int)) fun z328 => oX z328 n0 (oV (((aX G) z328.toNat).toInt) fun z330 => oZ (x3 + (3 : Int)) fun z332 => oX z332 n0 (oV (((aX G) z332.toNat).toInt) fun z334 => oC (m114 z326 z330 z334 s) fun z336 s337 => oZ (x3 + (1 : Int)) fun z339 => oX z339 n0 (oV (((aX G) z339.toNat).toInt) fun z341 => oZ (x3 + (2 : Int)) fun z343 => oX z343 n0 (oV (((aX G) z343.toNat).toInt) fun z345 => oZ (x3 + (3 : Int)) fun z347 => oX z347 n0 (oV (((aX G) z347.toNat).toInt) fun z349 => oC (m220 z341 z345 z349 s337) fun z351 s352 => if z336 = z351 then oZ (x3 + (6 : Int)) fun z355 => m295_18 (aX G) n n0 z355 s352 else some ((0 : Int), s352))))))) else if z8 = (14 : Int) then oZ (x3 + (1 : Int)) fun z358 => oX z358 n0 (oV (((aX G) z358.toNat).toInt) fun z360 => oZ (x3 + (2 : Int)) fun z362 => oX z362 n0 (oV (((aX G) z362.toNat).toInt) fun z364 => oC (m115 z360 z364 s) fun z366 s367 => oZ (x3 + (1 : Int)) fun z369 => oX z369 n0 (oV (((aX G) z369.toNat).toInt) fun z371 => oZ (x3 + (2 : Int)) fun z373 => oX z373 n0 (oV (((aX G) z373.toNat).toInt) fun z375 => oC (m221 z371 z375 s367) fun z377 s378 => if z366 = z377 then oZ (x3 + (6 : Int)) fun z381 => m295_18 (aX G) n n0 z381 s378 else some ((0 : Int), s378))))) else if z8 = (15 : Int) then oZ (x3 + (1 : Int)) fun z384 => oX z384 n0 (oV (((aX G) z384.toNat).toInt) fun z386 => oZ (x3 + (2 : Int)) fun z388 => oX z388 n0 (oV (((aX G) z388.toNat).toInt) fun z390 => oZ (x3 + (3 : Int)) fun z392 => oX z392 n0 (oV (((aX G) z392.toNat).toInt) fun z394 => oC (m116 z386 z390 z394 s) fun z396 s397 => oZ (x3 + (1 : Int)) fun z399 => oX z399 n0 (oV (((aX G) z399.toNat).toInt) fun z401 => oZ (x3 + (2 : Int)) fun z403 => oX z403 n0 (oV (((aX G) z403.toNat).toInt) fun z405 => oZ (x3 + (3 : Int)) fun z407 => oX z407 n0 (oV (((aX G) z407.toNat).toInt) fun z409 => oC (m222 z401 z405 z409 s397) fun z411 s412 => if z396 = z411 then oZ (x3 + (6 : Int)) fun z415 => m295_18 (aX G) n n0 z415 s412 else some ((0 : Int), s412))))))) else if z8 = (16 : Int) then oZ (x3 + (1 : Int)) fun z418 => oX z418 n0 (oV (((aX G) z418.toNat).toInt) fun z420 => oC (m117 z420 s) fun z422 s423 => oZ (x3 + (1 : Int)) fun z425 => oX z425 n0 (oV (((aX G) z425.toNat).toInt) fun z427 => oC (m227 z427 s423) fun z429 s430 => if z422 = z429 then oZ (x3 + (6 : Int)) fun z433 => m295_18 (aX G) n n0 z433 s430 else some ((0 : Int), s430))) else if z8 = (17 : Int) then oZ (x3 + (1 : Int)) fun z436 => oX z436 n0 (oV (((aX G) z436.toNat).toInt) fun z438 => oC (m118 z438 s) fun z440 s441 => oZ (x3 + (1 : Int)) fun z443 => oX z443 n0 (oV (((aX G) z443.toNat).toInt) fun z445 => oC (m229 z445 s441) fun z447 s448 => if z440 = z447 then oZ (x3 + (6 : Int)) fun z451 => m295_18 (aX G) n n0 z451 s448 else some ((0 : Int), s448))) else if z8 = (18 : Int) then oZ (x3 + (1 : Int)) fun z454 => oX z454 n0 (oV (((aX G) z454.toNat).toInt) fun z456 => oZ (x3 + (2 : Int)) fun z458 => oX z458 n0 (oV (((aX G) z458.toNat).toInt) fun z460 => oZ (x3 + (3 : Int)) fun z462 => oX z462 n0 (oV (((aX G) z462.toNat).toInt) fun z464 => oC (m119 z456 z460 z464 s) fun z466 s467 => oZ (x3 + (1 : Int)) fun z469 => oX z469 n0 (oV (((aX G) z469.toNat).toInt) fun z471 => oZ (x3 + (2 : Int)) fun z473 => oX z473 n0 (oV (((aX G) z473.toNat).toInt) fun z475 => oZ (x3 + (3 : Int)) fun z477 => oX z477 n0 (oV (((aX G) z477.toNat).toInt) fun z479 => oC (m230 z471 z475 z479 s467) fun z481 s482 => if z466 = z481 then oZ (x3 + (6 : Int)) fun z485 => m295_18 (aX G) n n0 z485 s482 else some ((0 : Int), s482))))))) else if z8 = (19 : Int) then oZ (x3 + (1 : Int)) fun z488 => oX z488 n0 (oV (((aX G) z488.toNat).toInt) fun z490 => oC (m120 z490 s) fun z492 s493 => oZ (x3 + (1 : Int)) fun z495 => oX z495 n0 (oV (((aX G) z495.toNat).toInt) fun z497 => oC (m231 z497 s493) fun z499 s500 => if z492 = z499 then oZ (x3 + (6 : Int)) fun z503 => m295_18 (aX G) n n0 z503 s500 else some ((0 : Int), s500))) else if z8 = (20 : Int) then oC (m121 s) fun z506 s507 => oC (m233 s507) fun z509 s510 => if z506 = z509 then oZ (x3 + (6 : Int)) fun z513 => m295_18 (aX G) n n0 z513 s510 else some ((0 : Int), s510) else if z8 = (21 : Int) then oZ (x3 + (1 : Int)) fun z516 => oX z516 n0 (oV (((aX G) z516.toNat).toInt) fun z518 => oC (m122 z518 s) fun z520 s521 => oZ (x3 + (1 : Int)) fun z523 => oX z523 n0 (oV (((aX G) z523.toNat).toInt) fun z525 => oC (m236 z525 s521) fun z527 s528 => if z520 = z527 then oZ (x3 + (6 : Int)) fun z531 => m295_18 (aX G) n n0 z531 s528 else some ((0 : Int), s528))) else if z8 = (22 : Int) then oZ (x3 + (1 : Int)) fun z534 => oX z534 n0 (oV (((aX G) z534.toNat).toInt) fun z536 => oC (m123 z536 s) fun z538 s539 => oZ (x3 + (1 : Int)) fun z541 => oX z541 n0 (oV (((aX G) z541.toNat).toInt) fun z543 => oC (m238 z543 s539) fun z545 s546 => if z538 = z545 then oZ (x3 + (6 : Int)) fun z549 => m295_18 (aX G) n n0 z549 s546 else some ((0 : Int), s546))) else if z8 = (23 : Int) then oZ (x3 + (1 : Int)) fun z552 => oX z552 n0 (oV (((aX G) z552.toNat).toInt) fun z554 => oC (m124 z554 s) fun z556 s557 => oZ (x3 + (1 : Int)) fun z559 => oX z559 n0 (oV (((aX G) z559.toNat).toInt) fun z561 => oC (m241 z561 s557) fun z563 s564 => if z556 = z563 then oZ (x3 + (6 : Int)) fun z567 => m295_18 (aX G) n n0 z567 s564 else some ((0 : Int), s564))) else if z8 = (24 : Int) then oZ (x3 + (1 : Int)) fun z570 => oX z570 n0 (oV (((aX G) z570.toNat).toInt) fun z572 => oC (m125 z572 s) fun z574 s575 => oZ (x3 + (1 : Int)) fun z577 => oX z577 n0 (oV (((aX G) z577.toNat).toInt) fun z579 => oC (m242 z579 s575) fun z581 s582 => if z574 = z581 then oZ (x3 + (6 : Int)) fun z585 => m295_18 (aX G) n n0 z585 s582 else some ((0 : Int), s582))) else if z8 = (25 : Int) then oZ (x3 + (1 : Int)) fun z588 => oX z588 n0 (oV (((aX G) z588.toNat).toInt) fun z590 => oC (m126 z590 s) fun z592 s593 => oZ (x3 + (1 : Int)) fun z595 => oX z595 n0 (oV (((aX G) z595.toNat).toInt) fun z597 => oC (m243 z597 s593) fun z599 s600 => if z592 = z599 then oZ (x3 + (6 : Int)) fun z603 => m295_18 (aX G) n n0 z603 s600 else some ((0 : Int), s600))) else if z8 = (26 : Int) then oZ (x3 + (1 : Int)) fun z606 => oX z606 n0 (oV (((aX G) z606.toNat).toInt) fun z608 => oC (m127 z608 s) fun z610 s611 => oZ (x3 + (1 : Int)) fun z613 => oX z613 n0 (oV (((aX G) z613.toNat).toInt) fun z615 => oC (m244 z615 s611) fun z617 s618 => if z610 = z617 then oZ (x3 + (6 : Int)) fun z621 => m295_18 (aX G) n n0 z621 s618 else some ((0 : Int), s618))) else if z8 = (27 : Int) then oZ (x3 + (1 : Int)) fun z624 => oX z624 n0 (oV (((aX G) z624.toNat).toInt) fun z626 => oC (m128 z626 s) fun z628 s629 => oZ (x3 + (1 : Int)) fun z631 => oX z631 n0 (oV (((aX G) z631.toNat).toInt) fun z633 => oC (m247 z633 s629) fun z635 s636 => if z628 = z635 then oZ (x3 + (6 : Int)) fun z639 => m295_18 (aX G) n n0 z639 s636 else some ((0 : Int), s636))) else if z8 = (28 : Int) then oC (m129 s) fun z642 s643 => oC (m240 s643) fun z645 s646 => if z642 = z645 then oZ (x3 + (6 : Int)) fun z649 => m295_18 (aX G) n n0 z649 s646 else some ((0 : Int), s646) else if z8 = (29 : Int) then oZ (x3 + (1 : Int)) fun z652 => oX z652 n0 (oV (((aX G) z652.toNat).toInt) fun z654 => oC (m130 z654 s) fun z656 s657 => oZ (x3 + (1 : Int)) fun z659 => oX z659 n0 (oV (((aX G) z659.toNat).toInt) fun z661 => oC (m245 z661 s657) fun z663 s664 => if z656 = z663 then oZ (x3 + (6 : Int)) fun z667 => m295_18 (aX G) n n0 z667 s664 else some ((0 : Int), s664))) else if z8 = (30 : Int) then oC (m131 s) fun z670 s671 => oC (m276 s671) fun z673 s674 => oV (zCmp z670 z673) fun z676 => if z676 = (0 : Int) then oZ (x3 + (6 : Int)) fun z678 => m295_18 (aX G) n n0 z678 s674 else some ((0 : Int), s674) else if z8 = (31 : Int) then oC (m132 s) fun z681 s682 => oC (m279 s682) fun z684 s685 => if z681 = z684 then oZ (x3 + (6 : Int)) fun z688 => m295_18 (aX G) n n0 z688 s685 else some ((0 : Int), s685) else if z8 = (32 : Int) then oZ (x3 + (1 : Int)) fun z691 => oX z691 n0 (oV (((aX G) z691.toNat).toInt) fun z693 => oC (m133 z693 s) fun z695 s696 => oZ (x3 + (1 : Int)) fun z698 => oX z698 n0 (oV (((aX G) z698.toNat).toInt) fun z700 => oC (m280 z700 s696) fun z702 s703 => if z695 = z702 then oZ (x3 + (6 : Int)) fun z706 => m295_18 (aX G) n n0 z706 s703 else some ((0 : Int), s703))) else if z8 = (33 : Int) then oC (m134 s) fun z709 s710 => oC (m284 s710) fun z712 s713 => if z709 = z712 then oZ (x3 + (6 : Int)) fun z716 => m295_18 (aX G) n n0 z716 s713 else some ((0 : Int), s713) else if z8 = (34 : Int) then oZ (x3 + (1 : Int)) fun z719 => oX z719 n0 (oV (((aX G) z719.toNat).toInt) fun z721 => oC (m135 z721 s) fun z723 s724 => oZ (x3 + (1 : Int)) fun z726 => oX z726 n0 (oV (((aX G) z726.toNat).toInt) fun z728 => oC (m285 z728 s724) fun z730 s731 => if z723 = z730 then oZ (x3 + (6 : Int)) fun z734 => m295_18 (aX G) n n0 z734 s731 else some ((0 : Int), s731))) else oZ (x3 + (6 : Int)) fun z736 => m295_18 (aX G) n n0 z736 s)) = some (r_, s_) := hm
  refine z_iload_n (pc' := 19) hM295 rfl rfl rfl ?_
  refine z_aload_n (pc' := 20) hM295 rfl rfl rfl ?_
  obtain ⟨z1, ez1, h2, hm⟩ := o_z hm
  refine z_xlen (pc' := 21) hM295 rfl rfl ez1 h2 ?_
  refine z_bipush (pc' := 23) hM295 rfl rfl rfl ?_
  obtain ⟨z3, ez3, h4, hm⟩ := o_z hm
  refine z_isub (pc' := 24) hM295 rfl rfl ez3 h4 ?_
  refine z_cmpgt (pc' := 27) (t := 1120) hM295 rfl rfl (fun h5 => ?_) (fun h5 => ?_)
  · replace hm := o_t hm h5
    refine z_iconst (pc' := 1121) hM295 rfl rfl rfl ?_
    cases hm
    exact z_retZ hM295 rfl rfl (Or.inr rfl) ⟨rfl, rfl⟩
  · replace hm := o_f hm h5
    refine z_aload_n (pc' := 28) hM295 rfl rfl rfl ?_
    refine z_iload_n (pc' := 29) hM295 rfl rfl rfl ?_
    obtain ⟨h7, hm⟩ := o_x hm
    obtain ⟨z6, ez6, hm⟩ := o_v hm
    refine z_xald (pc' := 30) hM295 rfl rfl h7 ez6 ?_
    refine z_bipush (pc' := 32) hM295 rfl rfl rfl ?_
    obtain ⟨z8, ez8, hm⟩ := o_v hm
    refine z_iand (pc' := 33) hM295 rfl rfl ez8 ?_
    refine (Decidable.em (z8 = (0 : Int))).elim (fun h9 => ?_) (fun h9 => ?_)
    · replace hm := o_t hm h9
      refine z_swT (t := 188) (c := (0 : Int)) hM295 rfl h9 (by decide) rfl rfl ?_
      refine z_aload_n (pc' := 189) hM295 rfl rfl rfl ?_
      refine z_aload_n (pc' := 190) hM295 rfl rfl rfl ?_
      refine z_iload_n (pc' := 191) hM295 rfl rfl rfl ?_
      refine z_iconst (pc' := 192) hM295 rfl rfl rfl ?_
      obtain ⟨z10, ez10, h11, hm⟩ := o_z hm
      refine z_iadd (pc' := 193) hM295 rfl rfl ez10 h11 ?_
      obtain ⟨h13, hm⟩ := o_x hm
      obtain ⟨z12, ez12, hm⟩ := o_v hm
      refine z_xald (pc' := 194) hM295 rfl rfl h13 ez12 ?_
      refine z_aload_n (pc' := 195) hM295 rfl rfl rfl ?_
      refine z_iload_n (pc' := 196) hM295 rfl rfl rfl ?_
      refine z_iconst (pc' := 197) hM295 rfl rfl rfl ?_
      obtain ⟨z14, ez14, h15, hm⟩ := o_z hm
      refine z_iadd (pc' := 198) hM295 rfl rfl ez14 h15 ?_
      obtain ⟨h17, hm⟩ := o_x hm
      obtain ⟨z16, ez16, hm⟩ := o_v hm
      refine z_xald (pc' := 199) hM295 rfl rfl h17 ez16 ?_
      refine z_aload_n (pc' := 200) hM295 rfl rfl rfl ?_
      refine z_iload_n (pc' := 201) hM295 rfl rfl rfl ?_
      refine z_iconst (pc' := 202) hM295 rfl rfl rfl ?_
      obtain ⟨z18, ez18, h19, hm⟩ := o_z hm
      refine z_iadd (pc' := 203) hM295 rfl rfl ez18 h19 ?_
      obtain ⟨h21, hm⟩ := o_x hm
      obtain ⟨z20, ez20, hm⟩ := o_v hm
      refine z_xald (pc' := 204) hM295 rfl rfl h21 ez20 ?_
      refine z_aload_n (pc' := 205) hM295 rfl rfl rfl ?_
      refine z_iload_n (pc' := 206) hM295 rfl rfl rfl ?_
      refine z_iconst (pc' := 207) hM295 rfl rfl rfl ?_
      obtain ⟨z22, ez22, h23, hm⟩ := o_z hm
      refine z_iadd (pc' := 208) hM295 rfl rfl ez22 h23 ?_
      obtain ⟨h25, hm⟩ := o_x hm
      obtain ⟨z24, ez24, hm⟩ := o_v hm
      refine z_xald (pc' := 209) hM295 rfl rfl h25 ez24 ?_
      refine z_aload_n (pc' := 210) hM295 rfl rfl rfl ?_
      refine z_iload_n (pc' := 211) hM295 rfl rfl rfl ?_
      refine z_iconst (pc' := 212) hM295 rfl rfl rfl ?_
      obtain ⟨z26, ez26, h27, hm⟩ := o_z hm
      refine z_iadd (pc' := 213) hM295 rfl rfl ez26 h27 ?_
      obtain ⟨h29, hm⟩ := o_x hm
      obtain ⟨z28, ez28, hm⟩ := o_v hm
      refine z_xald (pc' := 214) hM295 rfl rfl h29 ez28 ?_
      obtain ⟨z30, s31, h32, hm⟩ := o_c hm
      refine z_cv (d := d + 332) (pc' := 217) hM295 rfl hM101 rfl rfl rfl rfl rfl rfl (c101 (d := d + 330) hG h32) rfl ?_
      refine z_aload_n (pc' := 218) hM295 rfl rfl rfl ?_
      refine z_aload_n (pc' := 219) hM295 rfl rfl rfl ?_
      refine z_iload_n (pc' := 220) hM295 rfl rfl rfl ?_
      refine z_iconst (pc' := 221) hM295 rfl rfl rfl ?_
      obtain ⟨z33, ez33, h34, hm⟩ := o_z hm
      refine z_iadd (pc' := 222) hM295 rfl rfl ez33 h34 ?_
      obtain ⟨h36, hm⟩ := o_x hm
      obtain ⟨z35, ez35, hm⟩ := o_v hm
      refine z_xald (pc' := 223) hM295 rfl rfl h36 ez35 ?_
      refine z_aload_n (pc' := 224) hM295 rfl rfl rfl ?_
      refine z_iload_n (pc' := 225) hM295 rfl rfl rfl ?_
      refine z_iconst (pc' := 226) hM295 rfl rfl rfl ?_
      obtain ⟨z37, ez37, h38, hm⟩ := o_z hm
      refine z_iadd (pc' := 227) hM295 rfl rfl ez37 h38 ?_
      obtain ⟨h40, hm⟩ := o_x hm
      obtain ⟨z39, ez39, hm⟩ := o_v hm
      refine z_xald (pc' := 228) hM295 rfl rfl h40 ez39 ?_
      refine z_aload_n (pc' := 229) hM295 rfl rfl rfl ?_
      refine z_iload_n (pc' := 230) hM295 rfl rfl rfl ?_
      refine z_iconst (pc' := 231) hM295 rfl rfl rfl ?_
      obtain ⟨z41, ez41, h42, hm⟩ := o_z hm
      refine z_iadd (pc' := 232) hM295 rfl rfl ez41 h42 ?_
      obtain ⟨h44, hm⟩ := o_x hm
      obtain ⟨z43, ez43, hm⟩ := o_v hm
      refine z_xald (pc' := 233) hM295 rfl rfl h44 ez43 ?_
      refine z_aload_n (pc' := 234) hM295 rfl rfl rfl ?_
      refine z_iload_n (pc' := 235) hM295 rfl rfl rfl ?_
      refine z_iconst (pc' := 236) hM295 rfl rfl rfl ?_
      obtain ⟨z45, ez45, h46, hm⟩ := o_z hm
      refine z_iadd (pc' := 237) hM295 rfl rfl ez45 h46 ?_
      obtain ⟨h48, hm⟩ := o_x hm
      obtain ⟨z47, ez47, hm⟩ := o_v hm
      refine z_xald (pc' := 238) hM295 rfl rfl h48 ez47 ?_
      refine z_aload_n (pc' := 239) hM295 rfl rfl rfl ?_
      refine z_iload_n (pc' := 240) hM295 rfl rfl rfl ?_
      refine z_iconst (pc' := 241) hM295 rfl rfl rfl ?_
      obtain ⟨z49, ez49, h50, hm⟩ := o_z hm
      refine z_iadd (pc' := 242) hM295 rfl rfl ez49 h50 ?_
      obtain ⟨h52, hm⟩ := o_x hm
      obtain ⟨z51, ez51, hm⟩ := o_v hm
      refine z_xald (pc' := 243) hM295 rfl rfl h52 ez51 ?_
      obtain ⟨z53, s54, h55, hm⟩ := o_c hm
      refine z_cv (d := d + 332) (pc' := 246) hM295 rfl hM151 rfl rfl rfl rfl rfl rfl (c151 (d := d + 331) hG h55) rfl ?_
      refine z_cmpeq (pc' := 249) (t := 1114) hM295 rfl rfl (fun h56 => ?_) (fun h56 => ?_)
      · replace hm := o_t hm h56
        obtain ⟨z57, ez57, h58, hm⟩ := o_z hm
        refine z_iinc (pc' := 1117) (l' := [some (zr 104 n0 aXa), some (zr 11 0 0), some (zr 12 0 209), some (zi z57)]) hM295 rfl rfl rfl ez57 h58 rfl rfl ?_
        refine z_goto (t := 18) hM295 rfl ?_
        exact ih hm
      · replace hm := o_f hm h56
        refine z_iconst (pc' := 250) hM295 rfl rfl rfl ?_
        cases hm
        exact z_retZ hM295 rfl rfl (Or.inl rfl) ⟨rfl, rfl⟩
    replace hm := o_f hm h9
    refine (Decidable.em (z8 = (1 : Int))).elim (fun h59 => ?_) (fun h59 => ?_)
    · replace hm := o_t hm h59
      refine z_swT (t := 251) (c := (1 : Int)) hM295 rfl h59 (by decide) rfl rfl ?_
      refine z_aload_n (pc' := 252) hM295 rfl rfl rfl ?_
      refine z_aload_n (pc' := 253) hM295 rfl rfl rfl ?_
      refine z_iload_n (pc' := 254) hM295 rfl rfl rfl ?_
      refine z_iconst (pc' := 255) hM295 rfl rfl rfl ?_
      obtain ⟨z60, ez60, h61, hm⟩ := o_z hm
      refine z_iadd (pc' := 256) hM295 rfl rfl ez60 h61 ?_
      obtain ⟨h63, hm⟩ := o_x hm
      obtain ⟨z62, ez62, hm⟩ := o_v hm
      refine z_xald (pc' := 257) hM295 rfl rfl h63 ez62 ?_
      obtain ⟨z64, s65, h66, hm⟩ := o_c hm
      refine z_cv (d := d + 332) (pc' := 260) hM295 rfl hM102 rfl rfl rfl rfl rfl rfl (c102 (d := d + 330) hG h66) rfl ?_
      refine z_aload_n (pc' := 261) hM295 rfl rfl rfl ?_
      refine z_aload_n (pc' := 262) hM295 rfl rfl rfl ?_
      refine z_iload_n (pc' := 263) hM295 rfl rfl rfl ?_
      refine z_iconst (pc' := 264) hM295 rfl rfl rfl ?_
      obtain ⟨z67, ez67, h68, hm⟩ := o_z hm
      refine z_iadd (pc' := 265) hM295 rfl rfl ez67 h68 ?_
      obtain ⟨h70, hm⟩ := o_x hm
      obtain ⟨z69, ez69, hm⟩ := o_v hm
      refine z_xald (pc' := 266) hM295 rfl rfl h70 ez69 ?_
      obtain ⟨z71, s72, h73, hm⟩ := o_c hm
      refine z_cv (d := d + 332) (pc' := 269) hM295 rfl hM152 rfl rfl rfl rfl rfl rfl (c152 (d := d + 331) hG h73) rfl ?_
      refine z_cmpeq (pc' := 272) (t := 1114) hM295 rfl rfl (fun h74 => ?_) (fun h74 => ?_)
      · replace hm := o_t hm h74
        obtain ⟨z75, ez75, h76, hm⟩ := o_z hm
        refine z_iinc (pc' := 1117) (l' := [some (zr 104 n0 aXa), some (zr 11 0 0), some (zr 12 0 209), some (zi z75)]) hM295 rfl rfl rfl ez75 h76 rfl rfl ?_
        refine z_goto (t := 18) hM295 rfl ?_
        exact ih hm
      · replace hm := o_f hm h74
        refine z_iconst (pc' := 273) hM295 rfl rfl rfl ?_
        cases hm
        exact z_retZ hM295 rfl rfl (Or.inl rfl) ⟨rfl, rfl⟩
    replace hm := o_f hm h59
    refine (Decidable.em (z8 = (2 : Int))).elim (fun h77 => ?_) (fun h77 => ?_)
    · replace hm := o_t hm h77
      refine z_swT (t := 274) (c := (2 : Int)) hM295 rfl h77 (by decide) rfl rfl ?_
      refine z_aload_n (pc' := 275) hM295 rfl rfl rfl ?_
      obtain ⟨z78, s79, h80, hm⟩ := o_c hm
      refine z_cv (d := d + 332) (pc' := 278) hM295 rfl hM103 rfl rfl rfl rfl rfl rfl (c103 (d := d) hG h80) rfl ?_
      refine z_aload_n (pc' := 279) hM295 rfl rfl rfl ?_
      obtain ⟨z81, s82, h83, hm⟩ := o_c hm
      refine z_cv (d := d + 332) (pc' := 282) hM295 rfl hM177 rfl rfl rfl rfl rfl rfl (c177 (d := d + 322) hG h83) rfl ?_
      refine z_cmpeq (pc' := 285) (t := 1114) hM295 rfl rfl (fun h84 => ?_) (fun h84 => ?_)
      · replace hm := o_t hm h84
        obtain ⟨z85, ez85, h86, hm⟩ := o_z hm
        refine z_iinc (pc' := 1117) (l' := [some (zr 104 n0 aXa), some (zr 11 0 0), some (zr 12 0 209), some (zi z85)]) hM295 rfl rfl rfl ez85 h86 rfl rfl ?_
        refine z_goto (t := 18) hM295 rfl ?_
        exact ih hm
      · replace hm := o_f hm h84
        refine z_iconst (pc' := 286) hM295 rfl rfl rfl ?_
        cases hm
        exact z_retZ hM295 rfl rfl (Or.inl rfl) ⟨rfl, rfl⟩
    replace hm := o_f hm h77
    refine (Decidable.em (z8 = (3 : Int))).elim (fun h87 => ?_) (fun h87 => ?_)
    · replace hm := o_t hm h87
      refine z_swT (t := 287) (c := (3 : Int)) hM295 rfl h87 (by decide) rfl rfl ?_
      refine z_aload_n (pc' := 288) hM295 rfl rfl rfl ?_
      refine z_aload_n (pc' := 289) hM295 rfl rfl rfl ?_
      refine z_iload_n (pc' := 290) hM295 rfl rfl rfl ?_
      refine z_iconst (pc' := 291) hM295 rfl rfl rfl ?_
      obtain ⟨z88, ez88, h89, hm⟩ := o_z hm
      refine z_iadd (pc' := 292) hM295 rfl rfl ez88 h89 ?_
      obtain ⟨h91, hm⟩ := o_x hm
      obtain ⟨z90, ez90, hm⟩ := o_v hm
      refine z_xald (pc' := 293) hM295 rfl rfl h91 ez90 ?_
      obtain ⟨z92, s93, h94, hm⟩ := o_c hm
      refine z_cv (d := d + 332) (pc' := 296) hM295 rfl hM104 rfl rfl rfl rfl rfl rfl (c104 (d := d + 331) hG h94) rfl ?_
      refine z_aload_n (pc' := 297) hM295 rfl rfl rfl ?_
      refine z_aload_n (pc' := 298) hM295 rfl rfl rfl ?_
      refine z_iload_n (pc' := 299) hM295 rfl rfl rfl ?_
      refine z_iconst (pc' := 300) hM295 rfl rfl rfl ?_
      obtain ⟨z95, ez95, h96, hm⟩ := o_z hm
      refine z_iadd (pc' := 301) hM295 rfl rfl ez95 h96 ?_
      obtain ⟨h98, hm⟩ := o_x hm
      obtain ⟨z97, ez97, hm⟩ := o_v hm
      refine z_xald (pc' := 302) hM295 rfl rfl h98 ez97 ?_
      obtain ⟨z99, s100, h101, hm⟩ := o_c hm
      refine z_cv (d := d + 332) (pc' := 305) hM295 rfl hM179 rfl rfl rfl rfl rfl rfl (c179 (d := d + 331) hG h101) rfl ?_
      refine z_cmpeq (pc' := 308) (t := 1114) hM295 rfl rfl (fun h102 => ?_) (fun h102 => ?_)
      · replace hm := o_t hm h102
        obtain ⟨z103, ez103, h104, hm⟩ := o_z hm
        refine z_iinc (pc' := 1117) (l' := [some (zr 104 n0 aXa), some (zr 11 0 0), some (zr 12 0 209), some (zi z103)]) hM295 rfl rfl rfl ez103 h104 rfl rfl ?_
        refine z_goto (t := 18) hM295 rfl ?_
        exact ih hm
      · replace hm := o_f hm h102
        refine z_iconst (pc' := 309) hM295 rfl rfl rfl ?_
        cases hm
        exact z_retZ hM295 rfl rfl (Or.inl rfl) ⟨rfl, rfl⟩
    replace hm := o_f hm h87
    refine (Decidable.em (z8 = (4 : Int))).elim (fun h105 => ?_) (fun h105 => ?_)
    · replace hm := o_t hm h105
      refine z_swT (t := 310) (c := (4 : Int)) hM295 rfl h105 (by decide) rfl rfl ?_
      refine z_aload_n (pc' := 311) hM295 rfl rfl rfl ?_
      refine z_aload_n (pc' := 312) hM295 rfl rfl rfl ?_
      refine z_iload_n (pc' := 313) hM295 rfl rfl rfl ?_
      refine z_iconst (pc' := 314) hM295 rfl rfl rfl ?_
      obtain ⟨z106, ez106, h107, hm⟩ := o_z hm
      refine z_iadd (pc' := 315) hM295 rfl rfl ez106 h107 ?_
      obtain ⟨h109, hm⟩ := o_x hm
      obtain ⟨z108, ez108, hm⟩ := o_v hm
      refine z_xald (pc' := 316) hM295 rfl rfl h109 ez108 ?_
      obtain ⟨z110, s111, h112, hm⟩ := o_c hm
      refine z_cv (d := d + 332) (pc' := 319) hM295 rfl hM105 rfl rfl rfl rfl rfl rfl (c105 (d := d + 329) hG h112) rfl ?_
      refine z_aload_n (pc' := 320) hM295 rfl rfl rfl ?_
      refine z_aload_n (pc' := 321) hM295 rfl rfl rfl ?_
      refine z_iload_n (pc' := 322) hM295 rfl rfl rfl ?_
      refine z_iconst (pc' := 323) hM295 rfl rfl rfl ?_
      obtain ⟨z113, ez113, h114, hm⟩ := o_z hm
      refine z_iadd (pc' := 324) hM295 rfl rfl ez113 h114 ?_
      obtain ⟨h116, hm⟩ := o_x hm
      obtain ⟨z115, ez115, hm⟩ := o_v hm
      refine z_xald (pc' := 325) hM295 rfl rfl h116 ez115 ?_
      obtain ⟨z117, s118, h119, hm⟩ := o_c hm
      refine z_cv (d := d + 332) (pc' := 328) hM295 rfl hM207 rfl rfl rfl rfl rfl rfl (c207 (d := d + 328) hG h119) rfl ?_
      refine z_cmpeq (pc' := 331) (t := 1114) hM295 rfl rfl (fun h120 => ?_) (fun h120 => ?_)
      · replace hm := o_t hm h120
        obtain ⟨z121, ez121, h122, hm⟩ := o_z hm
        refine z_iinc (pc' := 1117) (l' := [some (zr 104 n0 aXa), some (zr 11 0 0), some (zr 12 0 209), some (zi z121)]) hM295 rfl rfl rfl ez121 h122 rfl rfl ?_
        refine z_goto (t := 18) hM295 rfl ?_
        exact ih hm
      · replace hm := o_f hm h120
        refine z_iconst (pc' := 332) hM295 rfl rfl rfl ?_
        cases hm
        exact z_retZ hM295 rfl rfl (Or.inl rfl) ⟨rfl, rfl⟩
    replace hm := o_f hm h105
    refine (Decidable.em (z8 = (5 : Int))).elim (fun h123 => ?_) (fun h123 => ?_)
    · replace hm := o_t hm h123
      refine z_swT (t := 333) (c := (5 : Int)) hM295 rfl h123 (by decide) rfl rfl ?_
      refine z_aload_n (pc' := 334) hM295 rfl rfl rfl ?_
      refine z_aload_n (pc' := 335) hM295 rfl rfl rfl ?_
      refine z_iload_n (pc' := 336) hM295 rfl rfl rfl ?_
      refine z_iconst (pc' := 337) hM295 rfl rfl rfl ?_
      obtain ⟨z124, ez124, h125, hm⟩ := o_z hm
      refine z_iadd (pc' := 338) hM295 rfl rfl ez124 h125 ?_
      obtain ⟨h127, hm⟩ := o_x hm
      obtain ⟨z126, ez126, hm⟩ := o_v hm
      refine z_xald (pc' := 339) hM295 rfl rfl h127 ez126 ?_
      refine z_aload_n (pc' := 340) hM295 rfl rfl rfl ?_
      refine z_iload_n (pc' := 341) hM295 rfl rfl rfl ?_
      refine z_iconst (pc' := 342) hM295 rfl rfl rfl ?_
      obtain ⟨z128, ez128, h129, hm⟩ := o_z hm
      refine z_iadd (pc' := 343) hM295 rfl rfl ez128 h129 ?_
      obtain ⟨h131, hm⟩ := o_x hm
      obtain ⟨z130, ez130, hm⟩ := o_v hm
      refine z_xald (pc' := 344) hM295 rfl rfl h131 ez130 ?_
      refine z_aload_n (pc' := 345) hM295 rfl rfl rfl ?_
      refine z_iload_n (pc' := 346) hM295 rfl rfl rfl ?_
      refine z_iconst (pc' := 347) hM295 rfl rfl rfl ?_
      obtain ⟨z132, ez132, h133, hm⟩ := o_z hm
      refine z_iadd (pc' := 348) hM295 rfl rfl ez132 h133 ?_
      obtain ⟨h135, hm⟩ := o_x hm
      obtain ⟨z134, ez134, hm⟩ := o_v hm
      refine z_xald (pc' := 349) hM295 rfl rfl h135 ez134 ?_
      obtain ⟨z136, s137, h138, hm⟩ := o_c hm
      refine z_cv (d := d + 332) (pc' := 352) hM295 rfl hM106 rfl rfl rfl rfl rfl rfl (c106 (d := d + 329) hG h138) rfl ?_
      refine z_aload_n (pc' := 353) hM295 rfl rfl rfl ?_
      refine z_aload_n (pc' := 354) hM295 rfl rfl rfl ?_
      refine z_iload_n (pc' := 355) hM295 rfl rfl rfl ?_
      refine z_iconst (pc' := 356) hM295 rfl rfl rfl ?_
      obtain ⟨z139, ez139, h140, hm⟩ := o_z hm
      refine z_iadd (pc' := 357) hM295 rfl rfl ez139 h140 ?_
      obtain ⟨h142, hm⟩ := o_x hm
      obtain ⟨z141, ez141, hm⟩ := o_v hm
      refine z_xald (pc' := 358) hM295 rfl rfl h142 ez141 ?_
      refine z_aload_n (pc' := 359) hM295 rfl rfl rfl ?_
      refine z_iload_n (pc' := 360) hM295 rfl rfl rfl ?_
      refine z_iconst (pc' := 361) hM295 rfl rfl rfl ?_
      obtain ⟨z143, ez143, h144, hm⟩ := o_z hm
      refine z_iadd (pc' := 362) hM295 rfl rfl ez143 h144 ?_
      obtain ⟨h146, hm⟩ := o_x hm
      obtain ⟨z145, ez145, hm⟩ := o_v hm
      refine z_xald (pc' := 363) hM295 rfl rfl h146 ez145 ?_
      refine z_aload_n (pc' := 364) hM295 rfl rfl rfl ?_
      refine z_iload_n (pc' := 365) hM295 rfl rfl rfl ?_
      refine z_iconst (pc' := 366) hM295 rfl rfl rfl ?_
      obtain ⟨z147, ez147, h148, hm⟩ := o_z hm
      refine z_iadd (pc' := 367) hM295 rfl rfl ez147 h148 ?_
      obtain ⟨h150, hm⟩ := o_x hm
      obtain ⟨z149, ez149, hm⟩ := o_v hm
      refine z_xald (pc' := 368) hM295 rfl rfl h150 ez149 ?_
      obtain ⟨z151, s152, h153, hm⟩ := o_c hm
      refine z_cv (d := d + 332) (pc' := 371) hM295 rfl hM208 rfl rfl rfl rfl rfl rfl (c208 (d := d + 330) hG h153) rfl ?_
      refine z_cmpeq (pc' := 374) (t := 1114) hM295 rfl rfl (fun h154 => ?_) (fun h154 => ?_)
      · replace hm := o_t hm h154
        obtain ⟨z155, ez155, h156, hm⟩ := o_z hm
        refine z_iinc (pc' := 1117) (l' := [some (zr 104 n0 aXa), some (zr 11 0 0), some (zr 12 0 209), some (zi z155)]) hM295 rfl rfl rfl ez155 h156 rfl rfl ?_
        refine z_goto (t := 18) hM295 rfl ?_
        exact ih hm
      · replace hm := o_f hm h154
        refine z_iconst (pc' := 375) hM295 rfl rfl rfl ?_
        cases hm
        exact z_retZ hM295 rfl rfl (Or.inl rfl) ⟨rfl, rfl⟩
    replace hm := o_f hm h123
    refine (Decidable.em (z8 = (6 : Int))).elim (fun h157 => ?_) (fun h157 => ?_)
    · replace hm := o_t hm h157
      refine z_swT (t := 376) (c := (6 : Int)) hM295 rfl h157 (by decide) rfl rfl ?_
      refine z_aload_n (pc' := 377) hM295 rfl rfl rfl ?_
      refine z_aload_n (pc' := 378) hM295 rfl rfl rfl ?_
      refine z_iload_n (pc' := 379) hM295 rfl rfl rfl ?_
      refine z_iconst (pc' := 380) hM295 rfl rfl rfl ?_
      obtain ⟨z158, ez158, h159, hm⟩ := o_z hm
      refine z_iadd (pc' := 381) hM295 rfl rfl ez158 h159 ?_
      obtain ⟨h161, hm⟩ := o_x hm
      obtain ⟨z160, ez160, hm⟩ := o_v hm
      refine z_xald (pc' := 382) hM295 rfl rfl h161 ez160 ?_
      refine z_aload_n (pc' := 383) hM295 rfl rfl rfl ?_
      refine z_iload_n (pc' := 384) hM295 rfl rfl rfl ?_
      refine z_iconst (pc' := 385) hM295 rfl rfl rfl ?_
      obtain ⟨z162, ez162, h163, hm⟩ := o_z hm
      refine z_iadd (pc' := 386) hM295 rfl rfl ez162 h163 ?_
      obtain ⟨h165, hm⟩ := o_x hm
      obtain ⟨z164, ez164, hm⟩ := o_v hm
      refine z_xald (pc' := 387) hM295 rfl rfl h165 ez164 ?_
      obtain ⟨z166, s167, h168, hm⟩ := o_c hm
      refine z_cv (d := d + 332) (pc' := 390) hM295 rfl hM107 rfl rfl rfl rfl rfl rfl (c107 (d := d + 330) hG h168) rfl ?_
      refine z_aload_n (pc' := 391) hM295 rfl rfl rfl ?_
      refine z_aload_n (pc' := 392) hM295 rfl rfl rfl ?_
      refine z_iload_n (pc' := 393) hM295 rfl rfl rfl ?_
      refine z_iconst (pc' := 394) hM295 rfl rfl rfl ?_
      obtain ⟨z169, ez169, h170, hm⟩ := o_z hm
      refine z_iadd (pc' := 395) hM295 rfl rfl ez169 h170 ?_
      obtain ⟨h172, hm⟩ := o_x hm
      obtain ⟨z171, ez171, hm⟩ := o_v hm
      refine z_xald (pc' := 396) hM295 rfl rfl h172 ez171 ?_
      refine z_aload_n (pc' := 397) hM295 rfl rfl rfl ?_
      refine z_iload_n (pc' := 398) hM295 rfl rfl rfl ?_
      refine z_iconst (pc' := 399) hM295 rfl rfl rfl ?_
      obtain ⟨z173, ez173, h174, hm⟩ := o_z hm
      refine z_iadd (pc' := 400) hM295 rfl rfl ez173 h174 ?_
      obtain ⟨h176, hm⟩ := o_x hm
      obtain ⟨z175, ez175, hm⟩ := o_v hm
      refine z_xald (pc' := 401) hM295 rfl rfl h176 ez175 ?_
      obtain ⟨z177, s178, h179, hm⟩ := o_c hm
      refine z_cv (d := d + 332) (pc' := 404) hM295 rfl hM209 rfl rfl rfl rfl rfl rfl (c209 (d := d + 329) hG h179) rfl ?_
      refine z_cmpeq (pc' := 407) (t := 1114) hM295 rfl rfl (fun h180 => ?_) (fun h180 => ?_)
      · replace hm := o_t hm h180
        obtain ⟨z181, ez181, h182, hm⟩ := o_z hm
        refine z_iinc (pc' := 1117) (l' := [some (zr 104 n0 aXa), some (zr 11 0 0), some (zr 12 0 209), some (zi z181)]) hM295 rfl rfl rfl ez181 h182 rfl rfl ?_
        refine z_goto (t := 18) hM295 rfl ?_
        exact ih hm
      · replace hm := o_f hm h180
        refine z_iconst (pc' := 408) hM295 rfl rfl rfl ?_
        cases hm
        exact z_retZ hM295 rfl rfl (Or.inl rfl) ⟨rfl, rfl⟩
    replace hm := o_f hm h157
    refine (Decidable.em (z8 = (7 : Int))).elim (fun h183 => ?_) (fun h183 => ?_)
    · replace hm := o_t hm h183
      refine z_swT (t := 409) (c := (7 : Int)) hM295 rfl h183 (by decide) rfl rfl ?_
      refine z_aload_n (pc' := 410) hM295 rfl rfl rfl ?_
      refine z_aload_n (pc' := 411) hM295 rfl rfl rfl ?_
      refine z_iload_n (pc' := 412) hM295 rfl rfl rfl ?_
      refine z_iconst (pc' := 413) hM295 rfl rfl rfl ?_
      obtain ⟨z184, ez184, h185, hm⟩ := o_z hm
      refine z_iadd (pc' := 414) hM295 rfl rfl ez184 h185 ?_
      obtain ⟨h187, hm⟩ := o_x hm
      obtain ⟨z186, ez186, hm⟩ := o_v hm
      refine z_xald (pc' := 415) hM295 rfl rfl h187 ez186 ?_
      refine z_aload_n (pc' := 416) hM295 rfl rfl rfl ?_
      refine z_iload_n (pc' := 417) hM295 rfl rfl rfl ?_
      refine z_iconst (pc' := 418) hM295 rfl rfl rfl ?_
      obtain ⟨z188, ez188, h189, hm⟩ := o_z hm
      refine z_iadd (pc' := 419) hM295 rfl rfl ez188 h189 ?_
      obtain ⟨h191, hm⟩ := o_x hm
      obtain ⟨z190, ez190, hm⟩ := o_v hm
      refine z_xald (pc' := 420) hM295 rfl rfl h191 ez190 ?_
      obtain ⟨z192, s193, h194, hm⟩ := o_c hm
      refine z_cv (d := d + 332) (pc' := 423) hM295 rfl hM108 rfl rfl rfl rfl rfl rfl (c108 (d := d + 329) hG h194) rfl ?_
      refine z_aload_n (pc' := 424) hM295 rfl rfl rfl ?_
      refine z_aload_n (pc' := 425) hM295 rfl rfl rfl ?_
      refine z_iload_n (pc' := 426) hM295 rfl rfl rfl ?_
      refine z_iconst (pc' := 427) hM295 rfl rfl rfl ?_
      obtain ⟨z195, ez195, h196, hm⟩ := o_z hm
      refine z_iadd (pc' := 428) hM295 rfl rfl ez195 h196 ?_
      obtain ⟨h198, hm⟩ := o_x hm
      obtain ⟨z197, ez197, hm⟩ := o_v hm
      refine z_xald (pc' := 429) hM295 rfl rfl h198 ez197 ?_
      refine z_aload_n (pc' := 430) hM295 rfl rfl rfl ?_
      refine z_iload_n (pc' := 431) hM295 rfl rfl rfl ?_
      refine z_iconst (pc' := 432) hM295 rfl rfl rfl ?_
      obtain ⟨z199, ez199, h200, hm⟩ := o_z hm
      refine z_iadd (pc' := 433) hM295 rfl rfl ez199 h200 ?_
      obtain ⟨h202, hm⟩ := o_x hm
      obtain ⟨z201, ez201, hm⟩ := o_v hm
      refine z_xald (pc' := 434) hM295 rfl rfl h202 ez201 ?_
      obtain ⟨z203, s204, h205, hm⟩ := o_c hm
      refine z_cv (d := d + 332) (pc' := 437) hM295 rfl hM210 rfl rfl rfl rfl rfl rfl (c210 (d := d + 329) hG h205) rfl ?_
      refine z_cmpeq (pc' := 440) (t := 1114) hM295 rfl rfl (fun h206 => ?_) (fun h206 => ?_)
      · replace hm := o_t hm h206
        obtain ⟨z207, ez207, h208, hm⟩ := o_z hm
        refine z_iinc (pc' := 1117) (l' := [some (zr 104 n0 aXa), some (zr 11 0 0), some (zr 12 0 209), some (zi z207)]) hM295 rfl rfl rfl ez207 h208 rfl rfl ?_
        refine z_goto (t := 18) hM295 rfl ?_
        exact ih hm
      · replace hm := o_f hm h206
        refine z_iconst (pc' := 441) hM295 rfl rfl rfl ?_
        cases hm
        exact z_retZ hM295 rfl rfl (Or.inl rfl) ⟨rfl, rfl⟩
    replace hm := o_f hm h183
    refine (Decidable.em (z8 = (8 : Int))).elim (fun h209 => ?_) (fun h209 => ?_)
    · replace hm := o_t hm h209
      refine z_swT (t := 442) (c := (8 : Int)) hM295 rfl h209 (by decide) rfl rfl ?_
      refine z_aload_n (pc' := 443) hM295 rfl rfl rfl ?_
      refine z_aload_n (pc' := 444) hM295 rfl rfl rfl ?_
      refine z_iload_n (pc' := 445) hM295 rfl rfl rfl ?_
      refine z_iconst (pc' := 446) hM295 rfl rfl rfl ?_
      obtain ⟨z210, ez210, h211, hm⟩ := o_z hm
      refine z_iadd (pc' := 447) hM295 rfl rfl ez210 h211 ?_
      obtain ⟨h213, hm⟩ := o_x hm
      obtain ⟨z212, ez212, hm⟩ := o_v hm
      refine z_xald (pc' := 448) hM295 rfl rfl h213 ez212 ?_
      refine z_aload_n (pc' := 449) hM295 rfl rfl rfl ?_
      refine z_iload_n (pc' := 450) hM295 rfl rfl rfl ?_
      refine z_iconst (pc' := 451) hM295 rfl rfl rfl ?_
      obtain ⟨z214, ez214, h215, hm⟩ := o_z hm
      refine z_iadd (pc' := 452) hM295 rfl rfl ez214 h215 ?_
      obtain ⟨h217, hm⟩ := o_x hm
      obtain ⟨z216, ez216, hm⟩ := o_v hm
      refine z_xald (pc' := 453) hM295 rfl rfl h217 ez216 ?_
      obtain ⟨z218, s219, h220, hm⟩ := o_c hm
      refine z_cv (d := d + 332) (pc' := 456) hM295 rfl hM109 rfl rfl rfl rfl rfl rfl (c109 (d := d + 330) hG h220) rfl ?_
      refine z_aload_n (pc' := 457) hM295 rfl rfl rfl ?_
      refine z_aload_n (pc' := 458) hM295 rfl rfl rfl ?_
      refine z_iload_n (pc' := 459) hM295 rfl rfl rfl ?_
      refine z_iconst (pc' := 460) hM295 rfl rfl rfl ?_
      obtain ⟨z221, ez221, h222, hm⟩ := o_z hm
      refine z_iadd (pc' := 461) hM295 rfl rfl ez221 h222 ?_
      obtain ⟨h224, hm⟩ := o_x hm
      obtain ⟨z223, ez223, hm⟩ := o_v hm
      refine z_xald (pc' := 462) hM295 rfl rfl h224 ez223 ?_
      refine z_aload_n (pc' := 463) hM295 rfl rfl rfl ?_
      refine z_iload_n (pc' := 464) hM295 rfl rfl rfl ?_
      refine z_iconst (pc' := 465) hM295 rfl rfl rfl ?_
      obtain ⟨z225, ez225, h226, hm⟩ := o_z hm
      refine z_iadd (pc' := 466) hM295 rfl rfl ez225 h226 ?_
      obtain ⟨h228, hm⟩ := o_x hm
      obtain ⟨z227, ez227, hm⟩ := o_v hm
      refine z_xald (pc' := 467) hM295 rfl rfl h228 ez227 ?_
      obtain ⟨z229, s230, h231, hm⟩ := o_c hm
      refine z_cv (d := d + 332) (pc' := 470) hM295 rfl hM211 rfl rfl rfl rfl rfl rfl (c211 (d := d + 329) hG h231) rfl ?_
      refine z_cmpeq (pc' := 473) (t := 1114) hM295 rfl rfl (fun h232 => ?_) (fun h232 => ?_)
      · replace hm := o_t hm h232
        obtain ⟨z233, ez233, h234, hm⟩ := o_z hm
        refine z_iinc (pc' := 1117) (l' := [some (zr 104 n0 aXa), some (zr 11 0 0), some (zr 12 0 209), some (zi z233)]) hM295 rfl rfl rfl ez233 h234 rfl rfl ?_
        refine z_goto (t := 18) hM295 rfl ?_
        exact ih hm
      · replace hm := o_f hm h232
        refine z_iconst (pc' := 474) hM295 rfl rfl rfl ?_
        cases hm
        exact z_retZ hM295 rfl rfl (Or.inl rfl) ⟨rfl, rfl⟩
    replace hm := o_f hm h209
    refine (Decidable.em (z8 = (9 : Int))).elim (fun h235 => ?_) (fun h235 => ?_)
    · replace hm := o_t hm h235
      refine z_swT (t := 475) (c := (9 : Int)) hM295 rfl h235 (by decide) rfl rfl ?_
      refine z_aload_n (pc' := 476) hM295 rfl rfl rfl ?_
      refine z_aload_n (pc' := 477) hM295 rfl rfl rfl ?_
      refine z_iload_n (pc' := 478) hM295 rfl rfl rfl ?_
      refine z_iconst (pc' := 479) hM295 rfl rfl rfl ?_
      obtain ⟨z236, ez236, h237, hm⟩ := o_z hm
      refine z_iadd (pc' := 480) hM295 rfl rfl ez236 h237 ?_
      obtain ⟨h239, hm⟩ := o_x hm
      obtain ⟨z238, ez238, hm⟩ := o_v hm
      refine z_xald (pc' := 481) hM295 rfl rfl h239 ez238 ?_
      refine z_aload_n (pc' := 482) hM295 rfl rfl rfl ?_
      refine z_iload_n (pc' := 483) hM295 rfl rfl rfl ?_
      refine z_iconst (pc' := 484) hM295 rfl rfl rfl ?_
      obtain ⟨z240, ez240, h241, hm⟩ := o_z hm
      refine z_iadd (pc' := 485) hM295 rfl rfl ez240 h241 ?_
      obtain ⟨h243, hm⟩ := o_x hm
      obtain ⟨z242, ez242, hm⟩ := o_v hm
      refine z_xald (pc' := 486) hM295 rfl rfl h243 ez242 ?_
      obtain ⟨z244, s245, h246, hm⟩ := o_c hm
      refine z_cv (d := d + 332) (pc' := 489) hM295 rfl hM110 rfl rfl rfl rfl rfl rfl (c110 (d := d + 330) hG h246) rfl ?_
      refine z_aload_n (pc' := 490) hM295 rfl rfl rfl ?_
      refine z_aload_n (pc' := 491) hM295 rfl rfl rfl ?_
      refine z_iload_n (pc' := 492) hM295 rfl rfl rfl ?_
      refine z_iconst (pc' := 493) hM295 rfl rfl rfl ?_
      obtain ⟨z247, ez247, h248, hm⟩ := o_z hm
      refine z_iadd (pc' := 494) hM295 rfl rfl ez247 h248 ?_
      obtain ⟨h250, hm⟩ := o_x hm
      obtain ⟨z249, ez249, hm⟩ := o_v hm
      refine z_xald (pc' := 495) hM295 rfl rfl h250 ez249 ?_
      refine z_aload_n (pc' := 496) hM295 rfl rfl rfl ?_
      refine z_iload_n (pc' := 497) hM295 rfl rfl rfl ?_
      refine z_iconst (pc' := 498) hM295 rfl rfl rfl ?_
      obtain ⟨z251, ez251, h252, hm⟩ := o_z hm
      refine z_iadd (pc' := 499) hM295 rfl rfl ez251 h252 ?_
      obtain ⟨h254, hm⟩ := o_x hm
      obtain ⟨z253, ez253, hm⟩ := o_v hm
      refine z_xald (pc' := 500) hM295 rfl rfl h254 ez253 ?_
      obtain ⟨z255, s256, h257, hm⟩ := o_c hm
      refine z_cv (d := d + 332) (pc' := 503) hM295 rfl hM212 rfl rfl rfl rfl rfl rfl (c212 (d := d + 329) hG h257) rfl ?_
      refine z_cmpeq (pc' := 506) (t := 1114) hM295 rfl rfl (fun h258 => ?_) (fun h258 => ?_)
      · replace hm := o_t hm h258
        obtain ⟨z259, ez259, h260, hm⟩ := o_z hm
        refine z_iinc (pc' := 1117) (l' := [some (zr 104 n0 aXa), some (zr 11 0 0), some (zr 12 0 209), some (zi z259)]) hM295 rfl rfl rfl ez259 h260 rfl rfl ?_
        refine z_goto (t := 18) hM295 rfl ?_
        exact ih hm
      · replace hm := o_f hm h258
        refine z_iconst (pc' := 507) hM295 rfl rfl rfl ?_
        cases hm
        exact z_retZ hM295 rfl rfl (Or.inl rfl) ⟨rfl, rfl⟩
    replace hm := o_f hm h235
    refine (Decidable.em (z8 = (10 : Int))).elim (fun h261 => ?_) (fun h261 => ?_)
    · replace hm := o_t hm h261
      refine z_swT (t := 508) (c := (10 : Int)) hM295 rfl h261 (by decide) rfl rfl ?_
      refine z_aload_n (pc' := 509) hM295 rfl rfl rfl ?_
      refine z_aload_n (pc' := 510) hM295 rfl rfl rfl ?_
      refine z_iload_n (pc' := 511) hM295 rfl rfl rfl ?_
      refine z_iconst (pc' := 512) hM295 rfl rfl rfl ?_
      obtain ⟨z262, ez262, h263, hm⟩ := o_z hm
      refine z_iadd (pc' := 513) hM295 rfl rfl ez262 h263 ?_
      obtain ⟨h265, hm⟩ := o_x hm
      obtain ⟨z264, ez264, hm⟩ := o_v hm
      refine z_xald (pc' := 514) hM295 rfl rfl h265 ez264 ?_
      obtain ⟨z266, s267, h268, hm⟩ := o_c hm
      refine z_cv (d := d + 332) (pc' := 517) hM295 rfl hM111 rfl rfl rfl rfl rfl rfl (c111 (d := d + 331) hG h268) rfl ?_
      refine z_aload_n (pc' := 518) hM295 rfl rfl rfl ?_
      refine z_aload_n (pc' := 519) hM295 rfl rfl rfl ?_
      refine z_iload_n (pc' := 520) hM295 rfl rfl rfl ?_
      refine z_iconst (pc' := 521) hM295 rfl rfl rfl ?_
      obtain ⟨z269, ez269, h270, hm⟩ := o_z hm
      refine z_iadd (pc' := 522) hM295 rfl rfl ez269 h270 ?_
      obtain ⟨h272, hm⟩ := o_x hm
      obtain ⟨z271, ez271, hm⟩ := o_v hm
      refine z_xald (pc' := 523) hM295 rfl rfl h272 ez271 ?_
      obtain ⟨z273, s274, h275, hm⟩ := o_c hm
      refine z_cv (d := d + 332) (pc' := 526) hM295 rfl hM213 rfl rfl rfl rfl rfl rfl (c213 (d := d + 330) hG h275) rfl ?_
      refine z_cmpeq (pc' := 529) (t := 1114) hM295 rfl rfl (fun h276 => ?_) (fun h276 => ?_)
      · replace hm := o_t hm h276
        obtain ⟨z277, ez277, h278, hm⟩ := o_z hm
        refine z_iinc (pc' := 1117) (l' := [some (zr 104 n0 aXa), some (zr 11 0 0), some (zr 12 0 209), some (zi z277)]) hM295 rfl rfl rfl ez277 h278 rfl rfl ?_
        refine z_goto (t := 18) hM295 rfl ?_
        exact ih hm
      · replace hm := o_f hm h276
        refine z_iconst (pc' := 530) hM295 rfl rfl rfl ?_
        cases hm
        exact z_retZ hM295 rfl rfl (Or.inl rfl) ⟨rfl, rfl⟩
    replace hm := o_f hm h261
    refine (Decidable.em (z8 = (11 : Int))).elim (fun h279 => ?_) (fun h279 => ?_)
    · replace hm := o_t hm h279
      refine z_swT (t := 531) (c := (11 : Int)) hM295 rfl h279 (by decide) rfl rfl ?_
      refine z_aload_n (pc' := 532) hM295 rfl rfl rfl ?_
      refine z_aload_n (pc' := 533) hM295 rfl rfl rfl ?_
      refine z_iload_n (pc' := 534) hM295 rfl rfl rfl ?_
      refine z_iconst (pc' := 535) hM295 rfl rfl rfl ?_
      obtain ⟨z280, ez280, h281, hm⟩ := o_z hm
      refine z_iadd (pc' := 536) hM295 rfl rfl ez280 h281 ?_
      obtain ⟨h283, hm⟩ := o_x hm
      obtain ⟨z282, ez282, hm⟩ := o_v hm
      refine z_xald (pc' := 537) hM295 rfl rfl h283 ez282 ?_
      obtain ⟨z284, s285, h286, hm⟩ := o_c hm
      refine z_cv (d := d + 332) (pc' := 540) hM295 rfl hM112 rfl rfl rfl rfl rfl rfl (c112 (d := d + 328) hG h286) rfl ?_
      refine z_aload_n (pc' := 541) hM295 rfl rfl rfl ?_
      refine z_aload_n (pc' := 542) hM295 rfl rfl rfl ?_
      refine z_iload_n (pc' := 543) hM295 rfl rfl rfl ?_
      refine z_iconst (pc' := 544) hM295 rfl rfl rfl ?_
      obtain ⟨z287, ez287, h288, hm⟩ := o_z hm
      refine z_iadd (pc' := 545) hM295 rfl rfl ez287 h288 ?_
      obtain ⟨h290, hm⟩ := o_x hm
      obtain ⟨z289, ez289, hm⟩ := o_v hm
      refine z_xald (pc' := 546) hM295 rfl rfl h290 ez289 ?_
      obtain ⟨z291, s292, h293, hm⟩ := o_c hm
      refine z_cv (d := d + 332) (pc' := 549) hM295 rfl hM216 rfl rfl rfl rfl rfl rfl (c216 (d := d + 328) hG h293) rfl ?_
      refine z_cmpeq (pc' := 552) (t := 1114) hM295 rfl rfl (fun h294 => ?_) (fun h294 => ?_)
      · replace hm := o_t hm h294
        obtain ⟨z295, ez295, h296, hm⟩ := o_z hm
        refine z_iinc (pc' := 1117) (l' := [some (zr 104 n0 aXa), some (zr 11 0 0), some (zr 12 0 209), some (zi z295)]) hM295 rfl rfl rfl ez295 h296 rfl rfl ?_
        refine z_goto (t := 18) hM295 rfl ?_
        exact ih hm
      · replace hm := o_f hm h294
        refine z_iconst (pc' := 553) hM295 rfl rfl rfl ?_
        cases hm
        exact z_retZ hM295 rfl rfl (Or.inl rfl) ⟨rfl, rfl⟩
    replace hm := o_f hm h279
    refine (Decidable.em (z8 = (12 : Int))).elim (fun h297 => ?_) (fun h297 => ?_)
    · replace hm := o_t hm h297
      refine z_swT (t := 554) (c := (12 : Int)) hM295 rfl h297 (by decide) rfl rfl ?_
      refine z_aload_n (pc' := 555) hM295 rfl rfl rfl ?_
      refine z_aload_n (pc' := 556) hM295 rfl rfl rfl ?_
      refine z_iload_n (pc' := 557) hM295 rfl rfl rfl ?_
      refine z_iconst (pc' := 558) hM295 rfl rfl rfl ?_
      obtain ⟨z298, ez298, h299, hm⟩ := o_z hm
      refine z_iadd (pc' := 559) hM295 rfl rfl ez298 h299 ?_
      obtain ⟨h301, hm⟩ := o_x hm
      obtain ⟨z300, ez300, hm⟩ := o_v hm
      refine z_xald (pc' := 560) hM295 rfl rfl h301 ez300 ?_
      refine z_aload_n (pc' := 561) hM295 rfl rfl rfl ?_
      refine z_iload_n (pc' := 562) hM295 rfl rfl rfl ?_
      refine z_iconst (pc' := 563) hM295 rfl rfl rfl ?_
      obtain ⟨z302, ez302, h303, hm⟩ := o_z hm
      refine z_iadd (pc' := 564) hM295 rfl rfl ez302 h303 ?_
      obtain ⟨h305, hm⟩ := o_x hm
      obtain ⟨z304, ez304, hm⟩ := o_v hm
      refine z_xald (pc' := 565) hM295 rfl rfl h305 ez304 ?_
      obtain ⟨z306, s307, h308, hm⟩ := o_c hm
      refine z_cv (d := d + 332) (pc' := 568) hM295 rfl hM113 rfl rfl rfl rfl rfl rfl (c113 (d := d + 325) hG h308) rfl ?_
      refine z_aload_n (pc' := 569) hM295 rfl rfl rfl ?_
      refine z_aload_n (pc' := 570) hM295 rfl rfl rfl ?_
      refine z_iload_n (pc' := 571) hM295 rfl rfl rfl ?_
      refine z_iconst (pc' := 572) hM295 rfl rfl rfl ?_
      obtain ⟨z309, ez309, h310, hm⟩ := o_z hm
      refine z_iadd (pc' := 573) hM295 rfl rfl ez309 h310 ?_
      obtain ⟨h312, hm⟩ := o_x hm
      obtain ⟨z311, ez311, hm⟩ := o_v hm
      refine z_xald (pc' := 574) hM295 rfl rfl h312 ez311 ?_
      refine z_aload_n (pc' := 575) hM295 rfl rfl rfl ?_
      refine z_iload_n (pc' := 576) hM295 rfl rfl rfl ?_
      refine z_iconst (pc' := 577) hM295 rfl rfl rfl ?_
      obtain ⟨z313, ez313, h314, hm⟩ := o_z hm
      refine z_iadd (pc' := 578) hM295 rfl rfl ez313 h314 ?_
      obtain ⟨h316, hm⟩ := o_x hm
      obtain ⟨z315, ez315, hm⟩ := o_v hm
      refine z_xald (pc' := 579) hM295 rfl rfl h316 ez315 ?_
      obtain ⟨z317, s318, h319, hm⟩ := o_c hm
      refine z_cv (d := d + 332) (pc' := 582) hM295 rfl hM219 rfl rfl rfl rfl rfl rfl (c219 (d := d + 324) hG h319) rfl ?_
      refine z_cmpeq (pc' := 585) (t := 1114) hM295 rfl rfl (fun h320 => ?_) (fun h320 => ?_)
      · replace hm := o_t hm h320
        obtain ⟨z321, ez321, h322, hm⟩ := o_z hm
        refine z_iinc (pc' := 1117) (l' := [some (zr 104 n0 aXa), some (zr 11 0 0), some (zr 12 0 209), some (zi z321)]) hM295 rfl rfl rfl ez321 h322 rfl rfl ?_
        refine z_goto (t := 18) hM295 rfl ?_
        exact ih hm
      · replace hm := o_f hm h320
        refine z_iconst (pc' := 586) hM295 rfl rfl rfl ?_
        cases hm
        exact z_retZ hM295 rfl rfl (Or.inl rfl) ⟨rfl, rfl⟩
    replace hm := o_f hm h297
    refine (Decidable.em (z8 = (13 : Int))).elim (fun h323 => ?_) (fun h323 => ?_)
    · replace hm := o_t hm h323
      refine z_swT (t := 587) (c := (13 : Int)) hM295 rfl h323 (by decide) rfl rfl ?_
      refine z_aload_n (pc' := 588) hM295 rfl rfl rfl ?_
      refine z_aload_n (pc' := 589) hM295 rfl rfl rfl ?_
      refine z_iload_n (pc' := 590) hM295 rfl rfl rfl ?_
      refine z_iconst (pc' := 591) hM295 rfl rfl rfl ?_
      obtain ⟨z324, ez324, h325, hm⟩ := o_z hm
      refine z_iadd (pc' := 592) hM295 rfl rfl ez324 h325 ?_
      obtain ⟨h327, hm⟩ := o_x hm
      obtain ⟨z326, ez326, hm⟩ := o_v hm
      refine z_xald (pc' := 593) hM295 rfl rfl h327 ez326 ?_
      refine z_aload_n (pc' := 594) hM295 rfl rfl rfl ?_
      refine z_iload_n (pc' := 595) hM295 rfl rfl rfl ?_
      refine z_iconst (pc' := 596) hM295 rfl rfl rfl ?_
      obtain ⟨z328, ez328, h329, hm⟩ := o_z hm
      refine z_iadd (pc' := 597) hM295 rfl rfl ez328 h329 ?_
      obtain ⟨h331, hm⟩ := o_x hm
      obtain ⟨z330, ez330, hm⟩ := o_v hm
      refine z_xald (pc' := 598) hM295 rfl rfl h331 ez330 ?_
      refine z_aload_n (pc' := 599) hM295 rfl rfl rfl ?_
      refine z_iload_n (pc' := 600) hM295 rfl rfl rfl ?_
      refine z_iconst (pc' := 601) hM295 rfl rfl rfl ?_
      obtain ⟨z332, ez332, h333, hm⟩ := o_z hm
      refine z_iadd (pc' := 602) hM295 rfl rfl ez332 h333 ?_
      obtain ⟨h335, hm⟩ := o_x hm
      obtain ⟨z334, ez334, hm⟩ := o_v hm
      refine z_xald (pc' := 603) hM295 rfl rfl h335 ez334 ?_
      obtain ⟨z336, s337, h338, hm⟩ := o_c hm
      refine z_cv (d := d + 332) (pc' := 606) hM295 rfl hM114 rfl rfl rfl rfl rfl rfl (c114 (d := d + 325) hG h338) rfl ?_
      refine z_aload_n (pc' := 607) hM295 rfl rfl rfl ?_
      refine z_aload_n (pc' := 608) hM295 rfl rfl rfl ?_
      refine z_iload_n (pc' := 609) hM295 rfl rfl rfl ?_
      refine z_iconst (pc' := 610) hM295 rfl rfl rfl ?_
      obtain ⟨z339, ez339, h340, hm⟩ := o_z hm
      refine z_iadd (pc' := 611) hM295 rfl rfl ez339 h340 ?_
      obtain ⟨h342, hm⟩ := o_x hm
      obtain ⟨z341, ez341, hm⟩ := o_v hm
      refine z_xald (pc' := 612) hM295 rfl rfl h342 ez341 ?_
      refine z_aload_n (pc' := 613) hM295 rfl rfl rfl ?_
      refine z_iload_n (pc' := 614) hM295 rfl rfl rfl ?_
      refine z_iconst (pc' := 615) hM295 rfl rfl rfl ?_
      obtain ⟨z343, ez343, h344, hm⟩ := o_z hm
      refine z_iadd (pc' := 616) hM295 rfl rfl ez343 h344 ?_
      obtain ⟨h346, hm⟩ := o_x hm
      obtain ⟨z345, ez345, hm⟩ := o_v hm
      refine z_xald (pc' := 617) hM295 rfl rfl h346 ez345 ?_
      refine z_aload_n (pc' := 618) hM295 rfl rfl rfl ?_
      refine z_iload_n (pc' := 619) hM295 rfl rfl rfl ?_
      refine z_iconst (pc' := 620) hM295 rfl rfl rfl ?_
      obtain ⟨z347, ez347, h348, hm⟩ := o_z hm
      refine z_iadd (pc' := 621) hM295 rfl rfl ez347 h348 ?_
      obtain ⟨h350, hm⟩ := o_x hm
      obtain ⟨z349, ez349, hm⟩ := o_v hm
      refine z_xald (pc' := 622) hM295 rfl rfl h350 ez349 ?_
      obtain ⟨z351, s352, h353, hm⟩ := o_c hm
      refine z_cv (d := d + 332) (pc' := 625) hM295 rfl hM220 rfl rfl rfl rfl rfl rfl (c220 (d := d + 324) hG h353) rfl ?_
      refine z_cmpeq (pc' := 628) (t := 1114) hM295 rfl rfl (fun h354 => ?_) (fun h354 => ?_)
      · replace hm := o_t hm h354
        obtain ⟨z355, ez355, h356, hm⟩ := o_z hm
        refine z_iinc (pc' := 1117) (l' := [some (zr 104 n0 aXa), some (zr 11 0 0), some (zr 12 0 209), some (zi z355)]) hM295 rfl rfl rfl ez355 h356 rfl rfl ?_
        refine z_goto (t := 18) hM295 rfl ?_
        exact ih hm
      · replace hm := o_f hm h354
        refine z_iconst (pc' := 629) hM295 rfl rfl rfl ?_
        cases hm
        exact z_retZ hM295 rfl rfl (Or.inl rfl) ⟨rfl, rfl⟩
    replace hm := o_f hm h323
    refine (Decidable.em (z8 = (14 : Int))).elim (fun h357 => ?_) (fun h357 => ?_)
    · replace hm := o_t hm h357
      refine z_swT (t := 630) (c := (14 : Int)) hM295 rfl h357 (by decide) rfl rfl ?_
      refine z_aload_n (pc' := 631) hM295 rfl rfl rfl ?_
      refine z_aload_n (pc' := 632) hM295 rfl rfl rfl ?_
      refine z_iload_n (pc' := 633) hM295 rfl rfl rfl ?_
      refine z_iconst (pc' := 634) hM295 rfl rfl rfl ?_
      obtain ⟨z358, ez358, h359, hm⟩ := o_z hm
      refine z_iadd (pc' := 635) hM295 rfl rfl ez358 h359 ?_
      obtain ⟨h361, hm⟩ := o_x hm
      obtain ⟨z360, ez360, hm⟩ := o_v hm
      refine z_xald (pc' := 636) hM295 rfl rfl h361 ez360 ?_
      refine z_aload_n (pc' := 637) hM295 rfl rfl rfl ?_
      refine z_iload_n (pc' := 638) hM295 rfl rfl rfl ?_
      refine z_iconst (pc' := 639) hM295 rfl rfl rfl ?_
      obtain ⟨z362, ez362, h363, hm⟩ := o_z hm
      refine z_iadd (pc' := 640) hM295 rfl rfl ez362 h363 ?_
      obtain ⟨h365, hm⟩ := o_x hm
      obtain ⟨z364, ez364, hm⟩ := o_v hm
      refine z_xald (pc' := 641) hM295 rfl rfl h365 ez364 ?_
      obtain ⟨z366, s367, h368, hm⟩ := o_c hm
      refine z_cv (d := d + 332) (pc' := 644) hM295 rfl hM115 rfl rfl rfl rfl rfl rfl (c115 (d := d + 325) hG h368) rfl ?_
      refine z_aload_n (pc' := 645) hM295 rfl rfl rfl ?_
      refine z_aload_n (pc' := 646) hM295 rfl rfl rfl ?_
      refine z_iload_n (pc' := 647) hM295 rfl rfl rfl ?_
      refine z_iconst (pc' := 648) hM295 rfl rfl rfl ?_
      obtain ⟨z369, ez369, h370, hm⟩ := o_z hm
      refine z_iadd (pc' := 649) hM295 rfl rfl ez369 h370 ?_
      obtain ⟨h372, hm⟩ := o_x hm
      obtain ⟨z371, ez371, hm⟩ := o_v hm
      refine z_xald (pc' := 650) hM295 rfl rfl h372 ez371 ?_
      refine z_aload_n (pc' := 651) hM295 rfl rfl rfl ?_
      refine z_iload_n (pc' := 652) hM295 rfl rfl rfl ?_
      refine z_iconst (pc' := 653) hM295 rfl rfl rfl ?_
      obtain ⟨z373, ez373, h374, hm⟩ := o_z hm
      refine z_iadd (pc' := 654) hM295 rfl rfl ez373 h374 ?_
      obtain ⟨h376, hm⟩ := o_x hm
      obtain ⟨z375, ez375, hm⟩ := o_v hm
      refine z_xald (pc' := 655) hM295 rfl rfl h376 ez375 ?_
      obtain ⟨z377, s378, h379, hm⟩ := o_c hm
      refine z_cv (d := d + 332) (pc' := 658) hM295 rfl hM221 rfl rfl rfl rfl rfl rfl (c221 (d := d + 325) hG h379) rfl ?_
      refine z_cmpeq (pc' := 661) (t := 1114) hM295 rfl rfl (fun h380 => ?_) (fun h380 => ?_)
      · replace hm := o_t hm h380
        obtain ⟨z381, ez381, h382, hm⟩ := o_z hm
        refine z_iinc (pc' := 1117) (l' := [some (zr 104 n0 aXa), some (zr 11 0 0), some (zr 12 0 209), some (zi z381)]) hM295 rfl rfl rfl ez381 h382 rfl rfl ?_
        refine z_goto (t := 18) hM295 rfl ?_
        exact ih hm
      · replace hm := o_f hm h380
        refine z_iconst (pc' := 662) hM295 rfl rfl rfl ?_
        cases hm
        exact z_retZ hM295 rfl rfl (Or.inl rfl) ⟨rfl, rfl⟩
    replace hm := o_f hm h357
    refine (Decidable.em (z8 = (15 : Int))).elim (fun h383 => ?_) (fun h383 => ?_)
    · replace hm := o_t hm h383
      refine z_swT (t := 663) (c := (15 : Int)) hM295 rfl h383 (by decide) rfl rfl ?_
      refine z_aload_n (pc' := 664) hM295 rfl rfl rfl ?_
      refine z_aload_n (pc' := 665) hM295 rfl rfl rfl ?_
      refine z_iload_n (pc' := 666) hM295 rfl rfl rfl ?_
      refine z_iconst (pc' := 667) hM295 rfl rfl rfl ?_
      obtain ⟨z384, ez384, h385, hm⟩ := o_z hm
      refine z_iadd (pc' := 668) hM295 rfl rfl ez384 h385 ?_
      obtain ⟨h387, hm⟩ := o_x hm
      obtain ⟨z386, ez386, hm⟩ := o_v hm
      refine z_xald (pc' := 669) hM295 rfl rfl h387 ez386 ?_
      refine z_aload_n (pc' := 670) hM295 rfl rfl rfl ?_
      refine z_iload_n (pc' := 671) hM295 rfl rfl rfl ?_
      refine z_iconst (pc' := 672) hM295 rfl rfl rfl ?_
      obtain ⟨z388, ez388, h389, hm⟩ := o_z hm
      refine z_iadd (pc' := 673) hM295 rfl rfl ez388 h389 ?_
      obtain ⟨h391, hm⟩ := o_x hm
      obtain ⟨z390, ez390, hm⟩ := o_v hm
      refine z_xald (pc' := 674) hM295 rfl rfl h391 ez390 ?_
      refine z_aload_n (pc' := 675) hM295 rfl rfl rfl ?_
      refine z_iload_n (pc' := 676) hM295 rfl rfl rfl ?_
      refine z_iconst (pc' := 677) hM295 rfl rfl rfl ?_
      obtain ⟨z392, ez392, h393, hm⟩ := o_z hm
      refine z_iadd (pc' := 678) hM295 rfl rfl ez392 h393 ?_
      obtain ⟨h395, hm⟩ := o_x hm
      obtain ⟨z394, ez394, hm⟩ := o_v hm
      refine z_xald (pc' := 679) hM295 rfl rfl h395 ez394 ?_
      obtain ⟨z396, s397, h398, hm⟩ := o_c hm
      refine z_cv (d := d + 332) (pc' := 682) hM295 rfl hM116 rfl rfl rfl rfl rfl rfl (c116 (d := d + 325) hG h398) rfl ?_
      refine z_aload_n (pc' := 683) hM295 rfl rfl rfl ?_
      refine z_aload_n (pc' := 684) hM295 rfl rfl rfl ?_
      refine z_iload_n (pc' := 685) hM295 rfl rfl rfl ?_
      refine z_iconst (pc' := 686) hM295 rfl rfl rfl ?_
      obtain ⟨z399, ez399, h400, hm⟩ := o_z hm
      refine z_iadd (pc' := 687) hM295 rfl rfl ez399 h400 ?_
      obtain ⟨h402, hm⟩ := o_x hm
      obtain ⟨z401, ez401, hm⟩ := o_v hm
      refine z_xald (pc' := 688) hM295 rfl rfl h402 ez401 ?_
      refine z_aload_n (pc' := 689) hM295 rfl rfl rfl ?_
      refine z_iload_n (pc' := 690) hM295 rfl rfl rfl ?_
      refine z_iconst (pc' := 691) hM295 rfl rfl rfl ?_
      obtain ⟨z403, ez403, h404, hm⟩ := o_z hm
      refine z_iadd (pc' := 692) hM295 rfl rfl ez403 h404 ?_
      obtain ⟨h406, hm⟩ := o_x hm
      obtain ⟨z405, ez405, hm⟩ := o_v hm
      refine z_xald (pc' := 693) hM295 rfl rfl h406 ez405 ?_
      refine z_aload_n (pc' := 694) hM295 rfl rfl rfl ?_
      refine z_iload_n (pc' := 695) hM295 rfl rfl rfl ?_
      refine z_iconst (pc' := 696) hM295 rfl rfl rfl ?_
      obtain ⟨z407, ez407, h408, hm⟩ := o_z hm
      refine z_iadd (pc' := 697) hM295 rfl rfl ez407 h408 ?_
      obtain ⟨h410, hm⟩ := o_x hm
      obtain ⟨z409, ez409, hm⟩ := o_v hm
      refine z_xald (pc' := 698) hM295 rfl rfl h410 ez409 ?_
      obtain ⟨z411, s412, h413, hm⟩ := o_c hm
      refine z_cv (d := d + 332) (pc' := 701) hM295 rfl hM222 rfl rfl rfl rfl rfl rfl (c222 (d := d + 326) hG h413) rfl ?_
      refine z_cmpeq (pc' := 704) (t := 1114) hM295 rfl rfl (fun h414 => ?_) (fun h414 => ?_)
      · replace hm := o_t hm h414
        obtain ⟨z415, ez415, h416, hm⟩ := o_z hm
        refine z_iinc (pc' := 1117) (l' := [some (zr 104 n0 aXa), some (zr 11 0 0), some (zr 12 0 209), some (zi z415)]) hM295 rfl rfl rfl ez415 h416 rfl rfl ?_
        refine z_goto (t := 18) hM295 rfl ?_
        exact ih hm
      · replace hm := o_f hm h414
        refine z_iconst (pc' := 705) hM295 rfl rfl rfl ?_
        cases hm
        exact z_retZ hM295 rfl rfl (Or.inl rfl) ⟨rfl, rfl⟩
    replace hm := o_f hm h383
    refine (Decidable.em (z8 = (16 : Int))).elim (fun h417 => ?_) (fun h417 => ?_)
    · replace hm := o_t hm h417
      refine z_swT (t := 706) (c := (16 : Int)) hM295 rfl h417 (by decide) rfl rfl ?_
      refine z_aload_n (pc' := 707) hM295 rfl rfl rfl ?_
      refine z_aload_n (pc' := 708) hM295 rfl rfl rfl ?_
      refine z_iload_n (pc' := 709) hM295 rfl rfl rfl ?_
      refine z_iconst (pc' := 710) hM295 rfl rfl rfl ?_
      obtain ⟨z418, ez418, h419, hm⟩ := o_z hm
      refine z_iadd (pc' := 711) hM295 rfl rfl ez418 h419 ?_
      obtain ⟨h421, hm⟩ := o_x hm
      obtain ⟨z420, ez420, hm⟩ := o_v hm
      refine z_xald (pc' := 712) hM295 rfl rfl h421 ez420 ?_
      obtain ⟨z422, s423, h424, hm⟩ := o_c hm
      refine z_cv (d := d + 332) (pc' := 715) hM295 rfl hM117 rfl rfl rfl rfl rfl rfl (c117 (d := d + 274) hG h424) rfl ?_
      refine z_aload_n (pc' := 716) hM295 rfl rfl rfl ?_
      refine z_aload_n (pc' := 717) hM295 rfl rfl rfl ?_
      refine z_iload_n (pc' := 718) hM295 rfl rfl rfl ?_
      refine z_iconst (pc' := 719) hM295 rfl rfl rfl ?_
      obtain ⟨z425, ez425, h426, hm⟩ := o_z hm
      refine z_iadd (pc' := 720) hM295 rfl rfl ez425 h426 ?_
      obtain ⟨h428, hm⟩ := o_x hm
      obtain ⟨z427, ez427, hm⟩ := o_v hm
      refine z_xald (pc' := 721) hM295 rfl rfl h428 ez427 ?_
      obtain ⟨z429, s430, h431, hm⟩ := o_c hm
      refine z_cv (d := d + 332) (pc' := 724) hM295 rfl hM227 rfl rfl rfl rfl rfl rfl (c227 (d := d + 324) hG h431) rfl ?_
      refine z_cmpeq (pc' := 727) (t := 1114) hM295 rfl rfl (fun h432 => ?_) (fun h432 => ?_)
      · replace hm := o_t hm h432
        obtain ⟨z433, ez433, h434, hm⟩ := o_z hm
        refine z_iinc (pc' := 1117) (l' := [some (zr 104 n0 aXa), some (zr 11 0 0), some (zr 12 0 209), some (zi z433)]) hM295 rfl rfl rfl ez433 h434 rfl rfl ?_
        refine z_goto (t := 18) hM295 rfl ?_
        exact ih hm
      · replace hm := o_f hm h432
        refine z_iconst (pc' := 728) hM295 rfl rfl rfl ?_
        cases hm
        exact z_retZ hM295 rfl rfl (Or.inl rfl) ⟨rfl, rfl⟩
    replace hm := o_f hm h417
    refine (Decidable.em (z8 = (17 : Int))).elim (fun h435 => ?_) (fun h435 => ?_)
    · replace hm := o_t hm h435
      refine z_swT (t := 729) (c := (17 : Int)) hM295 rfl h435 (by decide) rfl rfl ?_
      refine z_aload_n (pc' := 730) hM295 rfl rfl rfl ?_
      refine z_aload_n (pc' := 731) hM295 rfl rfl rfl ?_
      refine z_iload_n (pc' := 732) hM295 rfl rfl rfl ?_
      refine z_iconst (pc' := 733) hM295 rfl rfl rfl ?_
      obtain ⟨z436, ez436, h437, hm⟩ := o_z hm
      refine z_iadd (pc' := 734) hM295 rfl rfl ez436 h437 ?_
      obtain ⟨h439, hm⟩ := o_x hm
      obtain ⟨z438, ez438, hm⟩ := o_v hm
      refine z_xald (pc' := 735) hM295 rfl rfl h439 ez438 ?_
      obtain ⟨z440, s441, h442, hm⟩ := o_c hm
      refine z_cv (d := d + 332) (pc' := 738) hM295 rfl hM118 rfl rfl rfl rfl rfl rfl (c118 (d := d + 325) hG h442) rfl ?_
      refine z_aload_n (pc' := 739) hM295 rfl rfl rfl ?_
      refine z_aload_n (pc' := 740) hM295 rfl rfl rfl ?_
      refine z_iload_n (pc' := 741) hM295 rfl rfl rfl ?_
      refine z_iconst (pc' := 742) hM295 rfl rfl rfl ?_
      obtain ⟨z443, ez443, h444, hm⟩ := o_z hm
      refine z_iadd (pc' := 743) hM295 rfl rfl ez443 h444 ?_
      obtain ⟨h446, hm⟩ := o_x hm
      obtain ⟨z445, ez445, hm⟩ := o_v hm
      refine z_xald (pc' := 744) hM295 rfl rfl h446 ez445 ?_
      obtain ⟨z447, s448, h449, hm⟩ := o_c hm
      refine z_cv (d := d + 332) (pc' := 747) hM295 rfl hM229 rfl rfl rfl rfl rfl rfl (c229 (d := d + 324) hG h449) rfl ?_
      refine z_cmpeq (pc' := 750) (t := 1114) hM295 rfl rfl (fun h450 => ?_) (fun h450 => ?_)
      · replace hm := o_t hm h450
        obtain ⟨z451, ez451, h452, hm⟩ := o_z hm
        refine z_iinc (pc' := 1117) (l' := [some (zr 104 n0 aXa), some (zr 11 0 0), some (zr 12 0 209), some (zi z451)]) hM295 rfl rfl rfl ez451 h452 rfl rfl ?_
        refine z_goto (t := 18) hM295 rfl ?_
        exact ih hm
      · replace hm := o_f hm h450
        refine z_iconst (pc' := 751) hM295 rfl rfl rfl ?_
        cases hm
        exact z_retZ hM295 rfl rfl (Or.inl rfl) ⟨rfl, rfl⟩
    replace hm := o_f hm h435
    refine (Decidable.em (z8 = (18 : Int))).elim (fun h453 => ?_) (fun h453 => ?_)
    · replace hm := o_t hm h453
      refine z_swT (t := 752) (c := (18 : Int)) hM295 rfl h453 (by decide) rfl rfl ?_
      refine z_aload_n (pc' := 753) hM295 rfl rfl rfl ?_
      refine z_aload_n (pc' := 754) hM295 rfl rfl rfl ?_
      refine z_iload_n (pc' := 755) hM295 rfl rfl rfl ?_
      refine z_iconst (pc' := 756) hM295 rfl rfl rfl ?_
      obtain ⟨z454, ez454, h455, hm⟩ := o_z hm
      refine z_iadd (pc' := 757) hM295 rfl rfl ez454 h455 ?_
      obtain ⟨h457, hm⟩ := o_x hm
      obtain ⟨z456, ez456, hm⟩ := o_v hm
      refine z_xald (pc' := 758) hM295 rfl rfl h457 ez456 ?_
      refine z_aload_n (pc' := 759) hM295 rfl rfl rfl ?_
      refine z_iload_n (pc' := 760) hM295 rfl rfl rfl ?_
      refine z_iconst (pc' := 761) hM295 rfl rfl rfl ?_
      obtain ⟨z458, ez458, h459, hm⟩ := o_z hm
      refine z_iadd (pc' := 762) hM295 rfl rfl ez458 h459 ?_
      obtain ⟨h461, hm⟩ := o_x hm
      obtain ⟨z460, ez460, hm⟩ := o_v hm
      refine z_xald (pc' := 763) hM295 rfl rfl h461 ez460 ?_
      refine z_aload_n (pc' := 764) hM295 rfl rfl rfl ?_
      refine z_iload_n (pc' := 765) hM295 rfl rfl rfl ?_
      refine z_iconst (pc' := 766) hM295 rfl rfl rfl ?_
      obtain ⟨z462, ez462, h463, hm⟩ := o_z hm
      refine z_iadd (pc' := 767) hM295 rfl rfl ez462 h463 ?_
      obtain ⟨h465, hm⟩ := o_x hm
      obtain ⟨z464, ez464, hm⟩ := o_v hm
      refine z_xald (pc' := 768) hM295 rfl rfl h465 ez464 ?_
      obtain ⟨z466, s467, h468, hm⟩ := o_c hm
      refine z_cv (d := d + 332) (pc' := 771) hM295 rfl hM119 rfl rfl rfl rfl rfl rfl (c119 (d := d + 324) hG h468) rfl ?_
      refine z_aload_n (pc' := 772) hM295 rfl rfl rfl ?_
      refine z_aload_n (pc' := 773) hM295 rfl rfl rfl ?_
      refine z_iload_n (pc' := 774) hM295 rfl rfl rfl ?_
      refine z_iconst (pc' := 775) hM295 rfl rfl rfl ?_
      obtain ⟨z469, ez469, h470, hm⟩ := o_z hm
      refine z_iadd (pc' := 776) hM295 rfl rfl ez469 h470 ?_
      obtain ⟨h472, hm⟩ := o_x hm
      obtain ⟨z471, ez471, hm⟩ := o_v hm
      refine z_xald (pc' := 777) hM295 rfl rfl h472 ez471 ?_
      refine z_aload_n (pc' := 778) hM295 rfl rfl rfl ?_
      refine z_iload_n (pc' := 779) hM295 rfl rfl rfl ?_
      refine z_iconst (pc' := 780) hM295 rfl rfl rfl ?_
      obtain ⟨z473, ez473, h474, hm⟩ := o_z hm
      refine z_iadd (pc' := 781) hM295 rfl rfl ez473 h474 ?_
      obtain ⟨h476, hm⟩ := o_x hm
      obtain ⟨z475, ez475, hm⟩ := o_v hm
      refine z_xald (pc' := 782) hM295 rfl rfl h476 ez475 ?_
      refine z_aload_n (pc' := 783) hM295 rfl rfl rfl ?_
      refine z_iload_n (pc' := 784) hM295 rfl rfl rfl ?_
      refine z_iconst (pc' := 785) hM295 rfl rfl rfl ?_
      obtain ⟨z477, ez477, h478, hm⟩ := o_z hm
      refine z_iadd (pc' := 786) hM295 rfl rfl ez477 h478 ?_
      obtain ⟨h480, hm⟩ := o_x hm
      obtain ⟨z479, ez479, hm⟩ := o_v hm
      refine z_xald (pc' := 787) hM295 rfl rfl h480 ez479 ?_
      obtain ⟨z481, s482, h483, hm⟩ := o_c hm
      refine z_cv (d := d + 332) (pc' := 790) hM295 rfl hM230 rfl rfl rfl rfl rfl rfl (c230 (d := d + 323) hG h483) rfl ?_
      refine z_cmpeq (pc' := 793) (t := 1114) hM295 rfl rfl (fun h484 => ?_) (fun h484 => ?_)
      · replace hm := o_t hm h484
        obtain ⟨z485, ez485, h486, hm⟩ := o_z hm
        refine z_iinc (pc' := 1117) (l' := [some (zr 104 n0 aXa), some (zr 11 0 0), some (zr 12 0 209), some (zi z485)]) hM295 rfl rfl rfl ez485 h486 rfl rfl ?_
        refine z_goto (t := 18) hM295 rfl ?_
        exact ih hm
      · replace hm := o_f hm h484
        refine z_iconst (pc' := 794) hM295 rfl rfl rfl ?_
        cases hm
        exact z_retZ hM295 rfl rfl (Or.inl rfl) ⟨rfl, rfl⟩
    replace hm := o_f hm h453
    refine (Decidable.em (z8 = (19 : Int))).elim (fun h487 => ?_) (fun h487 => ?_)
    · replace hm := o_t hm h487
      refine z_swT (t := 795) (c := (19 : Int)) hM295 rfl h487 (by decide) rfl rfl ?_
      refine z_aload_n (pc' := 796) hM295 rfl rfl rfl ?_
      refine z_aload_n (pc' := 797) hM295 rfl rfl rfl ?_
      refine z_iload_n (pc' := 798) hM295 rfl rfl rfl ?_
      refine z_iconst (pc' := 799) hM295 rfl rfl rfl ?_
      obtain ⟨z488, ez488, h489, hm⟩ := o_z hm
      refine z_iadd (pc' := 800) hM295 rfl rfl ez488 h489 ?_
      obtain ⟨h491, hm⟩ := o_x hm
      obtain ⟨z490, ez490, hm⟩ := o_v hm
      refine z_xald (pc' := 801) hM295 rfl rfl h491 ez490 ?_
      obtain ⟨z492, s493, h494, hm⟩ := o_c hm
      refine z_cv (d := d + 332) (pc' := 804) hM295 rfl hM120 rfl rfl rfl rfl rfl rfl (c120 (d := d + 324) hG h494) rfl ?_
      refine z_aload_n (pc' := 805) hM295 rfl rfl rfl ?_
      refine z_aload_n (pc' := 806) hM295 rfl rfl rfl ?_
      refine z_iload_n (pc' := 807) hM295 rfl rfl rfl ?_
      refine z_iconst (pc' := 808) hM295 rfl rfl rfl ?_
      obtain ⟨z495, ez495, h496, hm⟩ := o_z hm
      refine z_iadd (pc' := 809) hM295 rfl rfl ez495 h496 ?_
      obtain ⟨h498, hm⟩ := o_x hm
      obtain ⟨z497, ez497, hm⟩ := o_v hm
      refine z_xald (pc' := 810) hM295 rfl rfl h498 ez497 ?_
      obtain ⟨z499, s500, h501, hm⟩ := o_c hm
      refine z_cv (d := d + 332) (pc' := 813) hM295 rfl hM231 rfl rfl rfl rfl rfl rfl (c231 (d := d + 324) hG h501) rfl ?_
      refine z_cmpeq (pc' := 816) (t := 1114) hM295 rfl rfl (fun h502 => ?_) (fun h502 => ?_)
      · replace hm := o_t hm h502
        obtain ⟨z503, ez503, h504, hm⟩ := o_z hm
        refine z_iinc (pc' := 1117) (l' := [some (zr 104 n0 aXa), some (zr 11 0 0), some (zr 12 0 209), some (zi z503)]) hM295 rfl rfl rfl ez503 h504 rfl rfl ?_
        refine z_goto (t := 18) hM295 rfl ?_
        exact ih hm
      · replace hm := o_f hm h502
        refine z_iconst (pc' := 817) hM295 rfl rfl rfl ?_
        cases hm
        exact z_retZ hM295 rfl rfl (Or.inl rfl) ⟨rfl, rfl⟩
    replace hm := o_f hm h487
    refine (Decidable.em (z8 = (20 : Int))).elim (fun h505 => ?_) (fun h505 => ?_)
    · replace hm := o_t hm h505
      refine z_swT (t := 818) (c := (20 : Int)) hM295 rfl h505 (by decide) rfl rfl ?_
      refine z_aload_n (pc' := 819) hM295 rfl rfl rfl ?_
      obtain ⟨z506, s507, h508, hm⟩ := o_c hm
      refine z_cv (d := d + 332) (pc' := 822) hM295 rfl hM121 rfl rfl rfl rfl rfl rfl (c121 (d := d + 329) hG h508) rfl ?_
      refine z_aload_n (pc' := 823) hM295 rfl rfl rfl ?_
      obtain ⟨z509, s510, h511, hm⟩ := o_c hm
      refine z_cv (d := d + 332) (pc' := 826) hM295 rfl hM233 rfl rfl rfl rfl rfl rfl (c233 (d := d + 329) hG h511) rfl ?_
      refine z_cmpeq (pc' := 829) (t := 1114) hM295 rfl rfl (fun h512 => ?_) (fun h512 => ?_)
      · replace hm := o_t hm h512
        obtain ⟨z513, ez513, h514, hm⟩ := o_z hm
        refine z_iinc (pc' := 1117) (l' := [some (zr 104 n0 aXa), some (zr 11 0 0), some (zr 12 0 209), some (zi z513)]) hM295 rfl rfl rfl ez513 h514 rfl rfl ?_
        refine z_goto (t := 18) hM295 rfl ?_
        exact ih hm
      · replace hm := o_f hm h512
        refine z_iconst (pc' := 830) hM295 rfl rfl rfl ?_
        cases hm
        exact z_retZ hM295 rfl rfl (Or.inl rfl) ⟨rfl, rfl⟩
    replace hm := o_f hm h505
    refine (Decidable.em (z8 = (21 : Int))).elim (fun h515 => ?_) (fun h515 => ?_)
    · replace hm := o_t hm h515
      refine z_swT (t := 831) (c := (21 : Int)) hM295 rfl h515 (by decide) rfl rfl ?_
      refine z_aload_n (pc' := 832) hM295 rfl rfl rfl ?_
      refine z_aload_n (pc' := 833) hM295 rfl rfl rfl ?_
      refine z_iload_n (pc' := 834) hM295 rfl rfl rfl ?_
      refine z_iconst (pc' := 835) hM295 rfl rfl rfl ?_
      obtain ⟨z516, ez516, h517, hm⟩ := o_z hm
      refine z_iadd (pc' := 836) hM295 rfl rfl ez516 h517 ?_
      obtain ⟨h519, hm⟩ := o_x hm
      obtain ⟨z518, ez518, hm⟩ := o_v hm
      refine z_xald (pc' := 837) hM295 rfl rfl h519 ez518 ?_
      obtain ⟨z520, s521, h522, hm⟩ := o_c hm
      refine z_cv (d := d + 332) (pc' := 840) hM295 rfl hM122 rfl rfl rfl rfl rfl rfl (c122 (d := d + 324) hG h522) rfl ?_
      refine z_aload_n (pc' := 841) hM295 rfl rfl rfl ?_
      refine z_aload_n (pc' := 842) hM295 rfl rfl rfl ?_
      refine z_iload_n (pc' := 843) hM295 rfl rfl rfl ?_
      refine z_iconst (pc' := 844) hM295 rfl rfl rfl ?_
      obtain ⟨z523, ez523, h524, hm⟩ := o_z hm
      refine z_iadd (pc' := 845) hM295 rfl rfl ez523 h524 ?_
      obtain ⟨h526, hm⟩ := o_x hm
      obtain ⟨z525, ez525, hm⟩ := o_v hm
      refine z_xald (pc' := 846) hM295 rfl rfl h526 ez525 ?_
      obtain ⟨z527, s528, h529, hm⟩ := o_c hm
      refine z_cv (d := d + 332) (pc' := 849) hM295 rfl hM236 rfl rfl rfl rfl rfl rfl (c236 (d := d + 323) hG h529) rfl ?_
      refine z_cmpeq (pc' := 852) (t := 1114) hM295 rfl rfl (fun h530 => ?_) (fun h530 => ?_)
      · replace hm := o_t hm h530
        obtain ⟨z531, ez531, h532, hm⟩ := o_z hm
        refine z_iinc (pc' := 1117) (l' := [some (zr 104 n0 aXa), some (zr 11 0 0), some (zr 12 0 209), some (zi z531)]) hM295 rfl rfl rfl ez531 h532 rfl rfl ?_
        refine z_goto (t := 18) hM295 rfl ?_
        exact ih hm
      · replace hm := o_f hm h530
        refine z_iconst (pc' := 853) hM295 rfl rfl rfl ?_
        cases hm
        exact z_retZ hM295 rfl rfl (Or.inl rfl) ⟨rfl, rfl⟩
    replace hm := o_f hm h515
    refine (Decidable.em (z8 = (22 : Int))).elim (fun h533 => ?_) (fun h533 => ?_)
    · replace hm := o_t hm h533
      refine z_swT (t := 854) (c := (22 : Int)) hM295 rfl h533 (by decide) rfl rfl ?_
      refine z_aload_n (pc' := 855) hM295 rfl rfl rfl ?_
      refine z_aload_n (pc' := 856) hM295 rfl rfl rfl ?_
      refine z_iload_n (pc' := 857) hM295 rfl rfl rfl ?_
      refine z_iconst (pc' := 858) hM295 rfl rfl rfl ?_
      obtain ⟨z534, ez534, h535, hm⟩ := o_z hm
      refine z_iadd (pc' := 859) hM295 rfl rfl ez534 h535 ?_
      obtain ⟨h537, hm⟩ := o_x hm
      obtain ⟨z536, ez536, hm⟩ := o_v hm
      refine z_xald (pc' := 860) hM295 rfl rfl h537 ez536 ?_
      obtain ⟨z538, s539, h540, hm⟩ := o_c hm
      refine z_cv (d := d + 332) (pc' := 863) hM295 rfl hM123 rfl rfl rfl rfl rfl rfl (c123 (d := d + 324) hG h540) rfl ?_
      refine z_aload_n (pc' := 864) hM295 rfl rfl rfl ?_
      refine z_aload_n (pc' := 865) hM295 rfl rfl rfl ?_
      refine z_iload_n (pc' := 866) hM295 rfl rfl rfl ?_
      refine z_iconst (pc' := 867) hM295 rfl rfl rfl ?_
      obtain ⟨z541, ez541, h542, hm⟩ := o_z hm
      refine z_iadd (pc' := 868) hM295 rfl rfl ez541 h542 ?_
      obtain ⟨h544, hm⟩ := o_x hm
      obtain ⟨z543, ez543, hm⟩ := o_v hm
      refine z_xald (pc' := 869) hM295 rfl rfl h544 ez543 ?_
      obtain ⟨z545, s546, h547, hm⟩ := o_c hm
      refine z_cv (d := d + 332) (pc' := 872) hM295 rfl hM238 rfl rfl rfl rfl rfl rfl (c238 (d := d + 323) hG h547) rfl ?_
      refine z_cmpeq (pc' := 875) (t := 1114) hM295 rfl rfl (fun h548 => ?_) (fun h548 => ?_)
      · replace hm := o_t hm h548
        obtain ⟨z549, ez549, h550, hm⟩ := o_z hm
        refine z_iinc (pc' := 1117) (l' := [some (zr 104 n0 aXa), some (zr 11 0 0), some (zr 12 0 209), some (zi z549)]) hM295 rfl rfl rfl ez549 h550 rfl rfl ?_
        refine z_goto (t := 18) hM295 rfl ?_
        exact ih hm
      · replace hm := o_f hm h548
        refine z_iconst (pc' := 876) hM295 rfl rfl rfl ?_
        cases hm
        exact z_retZ hM295 rfl rfl (Or.inl rfl) ⟨rfl, rfl⟩
    replace hm := o_f hm h533
    refine (Decidable.em (z8 = (23 : Int))).elim (fun h551 => ?_) (fun h551 => ?_)
    · replace hm := o_t hm h551
      refine z_swT (t := 877) (c := (23 : Int)) hM295 rfl h551 (by decide) rfl rfl ?_
      refine z_aload_n (pc' := 878) hM295 rfl rfl rfl ?_
      refine z_aload_n (pc' := 879) hM295 rfl rfl rfl ?_
      refine z_iload_n (pc' := 880) hM295 rfl rfl rfl ?_
      refine z_iconst (pc' := 881) hM295 rfl rfl rfl ?_
      obtain ⟨z552, ez552, h553, hm⟩ := o_z hm
      refine z_iadd (pc' := 882) hM295 rfl rfl ez552 h553 ?_
      obtain ⟨h555, hm⟩ := o_x hm
      obtain ⟨z554, ez554, hm⟩ := o_v hm
      refine z_xald (pc' := 883) hM295 rfl rfl h555 ez554 ?_
      obtain ⟨z556, s557, h558, hm⟩ := o_c hm
      refine z_cv (d := d + 332) (pc' := 886) hM295 rfl hM124 rfl rfl rfl rfl rfl rfl (c124 (d := d + 325) hG h558) rfl ?_
      refine z_aload_n (pc' := 887) hM295 rfl rfl rfl ?_
      refine z_aload_n (pc' := 888) hM295 rfl rfl rfl ?_
      refine z_iload_n (pc' := 889) hM295 rfl rfl rfl ?_
      refine z_iconst (pc' := 890) hM295 rfl rfl rfl ?_
      obtain ⟨z559, ez559, h560, hm⟩ := o_z hm
      refine z_iadd (pc' := 891) hM295 rfl rfl ez559 h560 ?_
      obtain ⟨h562, hm⟩ := o_x hm
      obtain ⟨z561, ez561, hm⟩ := o_v hm
      refine z_xald (pc' := 892) hM295 rfl rfl h562 ez561 ?_
      obtain ⟨z563, s564, h565, hm⟩ := o_c hm
      refine z_cv (d := d + 332) (pc' := 895) hM295 rfl hM241 rfl rfl rfl rfl rfl rfl (c241 (d := d + 328) hG h565) rfl ?_
      refine z_cmpeq (pc' := 898) (t := 1114) hM295 rfl rfl (fun h566 => ?_) (fun h566 => ?_)
      · replace hm := o_t hm h566
        obtain ⟨z567, ez567, h568, hm⟩ := o_z hm
        refine z_iinc (pc' := 1117) (l' := [some (zr 104 n0 aXa), some (zr 11 0 0), some (zr 12 0 209), some (zi z567)]) hM295 rfl rfl rfl ez567 h568 rfl rfl ?_
        refine z_goto (t := 18) hM295 rfl ?_
        exact ih hm
      · replace hm := o_f hm h566
        refine z_iconst (pc' := 899) hM295 rfl rfl rfl ?_
        cases hm
        exact z_retZ hM295 rfl rfl (Or.inl rfl) ⟨rfl, rfl⟩
    replace hm := o_f hm h551
    refine (Decidable.em (z8 = (24 : Int))).elim (fun h569 => ?_) (fun h569 => ?_)
    · replace hm := o_t hm h569
      refine z_swT (t := 900) (c := (24 : Int)) hM295 rfl h569 (by decide) rfl rfl ?_
      refine z_aload_n (pc' := 901) hM295 rfl rfl rfl ?_
      refine z_aload_n (pc' := 902) hM295 rfl rfl rfl ?_
      refine z_iload_n (pc' := 903) hM295 rfl rfl rfl ?_
      refine z_iconst (pc' := 904) hM295 rfl rfl rfl ?_
      obtain ⟨z570, ez570, h571, hm⟩ := o_z hm
      refine z_iadd (pc' := 905) hM295 rfl rfl ez570 h571 ?_
      obtain ⟨h573, hm⟩ := o_x hm
      obtain ⟨z572, ez572, hm⟩ := o_v hm
      refine z_xald (pc' := 906) hM295 rfl rfl h573 ez572 ?_
      obtain ⟨z574, s575, h576, hm⟩ := o_c hm
      refine z_cv (d := d + 332) (pc' := 909) hM295 rfl hM125 rfl rfl rfl rfl rfl rfl (c125 (d := d + 325) hG h576) rfl ?_
      refine z_aload_n (pc' := 910) hM295 rfl rfl rfl ?_
      refine z_aload_n (pc' := 911) hM295 rfl rfl rfl ?_
      refine z_iload_n (pc' := 912) hM295 rfl rfl rfl ?_
      refine z_iconst (pc' := 913) hM295 rfl rfl rfl ?_
      obtain ⟨z577, ez577, h578, hm⟩ := o_z hm
      refine z_iadd (pc' := 914) hM295 rfl rfl ez577 h578 ?_
      obtain ⟨h580, hm⟩ := o_x hm
      obtain ⟨z579, ez579, hm⟩ := o_v hm
      refine z_xald (pc' := 915) hM295 rfl rfl h580 ez579 ?_
      obtain ⟨z581, s582, h583, hm⟩ := o_c hm
      refine z_cv (d := d + 332) (pc' := 918) hM295 rfl hM242 rfl rfl rfl rfl rfl rfl (c242 (d := d + 329) hG h583) rfl ?_
      refine z_cmpeq (pc' := 921) (t := 1114) hM295 rfl rfl (fun h584 => ?_) (fun h584 => ?_)
      · replace hm := o_t hm h584
        obtain ⟨z585, ez585, h586, hm⟩ := o_z hm
        refine z_iinc (pc' := 1117) (l' := [some (zr 104 n0 aXa), some (zr 11 0 0), some (zr 12 0 209), some (zi z585)]) hM295 rfl rfl rfl ez585 h586 rfl rfl ?_
        refine z_goto (t := 18) hM295 rfl ?_
        exact ih hm
      · replace hm := o_f hm h584
        refine z_iconst (pc' := 922) hM295 rfl rfl rfl ?_
        cases hm
        exact z_retZ hM295 rfl rfl (Or.inl rfl) ⟨rfl, rfl⟩
    replace hm := o_f hm h569
    refine (Decidable.em (z8 = (25 : Int))).elim (fun h587 => ?_) (fun h587 => ?_)
    · replace hm := o_t hm h587
      refine z_swT (t := 923) (c := (25 : Int)) hM295 rfl h587 (by decide) rfl rfl ?_
      refine z_aload_n (pc' := 924) hM295 rfl rfl rfl ?_
      refine z_aload_n (pc' := 925) hM295 rfl rfl rfl ?_
      refine z_iload_n (pc' := 926) hM295 rfl rfl rfl ?_
      refine z_iconst (pc' := 927) hM295 rfl rfl rfl ?_
      obtain ⟨z588, ez588, h589, hm⟩ := o_z hm
      refine z_iadd (pc' := 928) hM295 rfl rfl ez588 h589 ?_
      obtain ⟨h591, hm⟩ := o_x hm
      obtain ⟨z590, ez590, hm⟩ := o_v hm
      refine z_xald (pc' := 929) hM295 rfl rfl h591 ez590 ?_
      obtain ⟨z592, s593, h594, hm⟩ := o_c hm
      refine z_cv (d := d + 332) (pc' := 932) hM295 rfl hM126 rfl rfl rfl rfl rfl rfl (c126 (d := d + 325) hG h594) rfl ?_
      refine z_aload_n (pc' := 933) hM295 rfl rfl rfl ?_
      refine z_aload_n (pc' := 934) hM295 rfl rfl rfl ?_
      refine z_iload_n (pc' := 935) hM295 rfl rfl rfl ?_
      refine z_iconst (pc' := 936) hM295 rfl rfl rfl ?_
      obtain ⟨z595, ez595, h596, hm⟩ := o_z hm
      refine z_iadd (pc' := 937) hM295 rfl rfl ez595 h596 ?_
      obtain ⟨h598, hm⟩ := o_x hm
      obtain ⟨z597, ez597, hm⟩ := o_v hm
      refine z_xald (pc' := 938) hM295 rfl rfl h598 ez597 ?_
      obtain ⟨z599, s600, h601, hm⟩ := o_c hm
      refine z_cv (d := d + 332) (pc' := 941) hM295 rfl hM243 rfl rfl rfl rfl rfl rfl (c243 (d := d + 330) hG h601) rfl ?_
      refine z_cmpeq (pc' := 944) (t := 1114) hM295 rfl rfl (fun h602 => ?_) (fun h602 => ?_)
      · replace hm := o_t hm h602
        obtain ⟨z603, ez603, h604, hm⟩ := o_z hm
        refine z_iinc (pc' := 1117) (l' := [some (zr 104 n0 aXa), some (zr 11 0 0), some (zr 12 0 209), some (zi z603)]) hM295 rfl rfl rfl ez603 h604 rfl rfl ?_
        refine z_goto (t := 18) hM295 rfl ?_
        exact ih hm
      · replace hm := o_f hm h602
        refine z_iconst (pc' := 945) hM295 rfl rfl rfl ?_
        cases hm
        exact z_retZ hM295 rfl rfl (Or.inl rfl) ⟨rfl, rfl⟩
    replace hm := o_f hm h587
    refine (Decidable.em (z8 = (26 : Int))).elim (fun h605 => ?_) (fun h605 => ?_)
    · replace hm := o_t hm h605
      refine z_swT (t := 946) (c := (26 : Int)) hM295 rfl h605 (by decide) rfl rfl ?_
      refine z_aload_n (pc' := 947) hM295 rfl rfl rfl ?_
      refine z_aload_n (pc' := 948) hM295 rfl rfl rfl ?_
      refine z_iload_n (pc' := 949) hM295 rfl rfl rfl ?_
      refine z_iconst (pc' := 950) hM295 rfl rfl rfl ?_
      obtain ⟨z606, ez606, h607, hm⟩ := o_z hm
      refine z_iadd (pc' := 951) hM295 rfl rfl ez606 h607 ?_
      obtain ⟨h609, hm⟩ := o_x hm
      obtain ⟨z608, ez608, hm⟩ := o_v hm
      refine z_xald (pc' := 952) hM295 rfl rfl h609 ez608 ?_
      obtain ⟨z610, s611, h612, hm⟩ := o_c hm
      refine z_cv (d := d + 332) (pc' := 955) hM295 rfl hM127 rfl rfl rfl rfl rfl rfl (c127 (d := d + 325) hG h612) rfl ?_
      refine z_aload_n (pc' := 956) hM295 rfl rfl rfl ?_
      refine z_aload_n (pc' := 957) hM295 rfl rfl rfl ?_
      refine z_iload_n (pc' := 958) hM295 rfl rfl rfl ?_
      refine z_iconst (pc' := 959) hM295 rfl rfl rfl ?_
      obtain ⟨z613, ez613, h614, hm⟩ := o_z hm
      refine z_iadd (pc' := 960) hM295 rfl rfl ez613 h614 ?_
      obtain ⟨h616, hm⟩ := o_x hm
      obtain ⟨z615, ez615, hm⟩ := o_v hm
      refine z_xald (pc' := 961) hM295 rfl rfl h616 ez615 ?_
      obtain ⟨z617, s618, h619, hm⟩ := o_c hm
      refine z_cv (d := d + 332) (pc' := 964) hM295 rfl hM244 rfl rfl rfl rfl rfl rfl (c244 (d := d + 323) hG h619) rfl ?_
      refine z_cmpeq (pc' := 967) (t := 1114) hM295 rfl rfl (fun h620 => ?_) (fun h620 => ?_)
      · replace hm := o_t hm h620
        obtain ⟨z621, ez621, h622, hm⟩ := o_z hm
        refine z_iinc (pc' := 1117) (l' := [some (zr 104 n0 aXa), some (zr 11 0 0), some (zr 12 0 209), some (zi z621)]) hM295 rfl rfl rfl ez621 h622 rfl rfl ?_
        refine z_goto (t := 18) hM295 rfl ?_
        exact ih hm
      · replace hm := o_f hm h620
        refine z_iconst (pc' := 968) hM295 rfl rfl rfl ?_
        cases hm
        exact z_retZ hM295 rfl rfl (Or.inl rfl) ⟨rfl, rfl⟩
    replace hm := o_f hm h605
    refine (Decidable.em (z8 = (27 : Int))).elim (fun h623 => ?_) (fun h623 => ?_)
    · replace hm := o_t hm h623
      refine z_swT (t := 969) (c := (27 : Int)) hM295 rfl h623 (by decide) rfl rfl ?_
      refine z_aload_n (pc' := 970) hM295 rfl rfl rfl ?_
      refine z_aload_n (pc' := 971) hM295 rfl rfl rfl ?_
      refine z_iload_n (pc' := 972) hM295 rfl rfl rfl ?_
      refine z_iconst (pc' := 973) hM295 rfl rfl rfl ?_
      obtain ⟨z624, ez624, h625, hm⟩ := o_z hm
      refine z_iadd (pc' := 974) hM295 rfl rfl ez624 h625 ?_
      obtain ⟨h627, hm⟩ := o_x hm
      obtain ⟨z626, ez626, hm⟩ := o_v hm
      refine z_xald (pc' := 975) hM295 rfl rfl h627 ez626 ?_
      obtain ⟨z628, s629, h630, hm⟩ := o_c hm
      refine z_cv (d := d + 332) (pc' := 978) hM295 rfl hM128 rfl rfl rfl rfl rfl rfl (c128 (d := d + 324) hG h630) rfl ?_
      refine z_aload_n (pc' := 979) hM295 rfl rfl rfl ?_
      refine z_aload_n (pc' := 980) hM295 rfl rfl rfl ?_
      refine z_iload_n (pc' := 981) hM295 rfl rfl rfl ?_
      refine z_iconst (pc' := 982) hM295 rfl rfl rfl ?_
      obtain ⟨z631, ez631, h632, hm⟩ := o_z hm
      refine z_iadd (pc' := 983) hM295 rfl rfl ez631 h632 ?_
      obtain ⟨h634, hm⟩ := o_x hm
      obtain ⟨z633, ez633, hm⟩ := o_v hm
      refine z_xald (pc' := 984) hM295 rfl rfl h634 ez633 ?_
      obtain ⟨z635, s636, h637, hm⟩ := o_c hm
      refine z_cv (d := d + 332) (pc' := 987) hM295 rfl hM247 rfl rfl rfl rfl rfl rfl (c247 (d := d + 324) hG h637) rfl ?_
      refine z_cmpeq (pc' := 990) (t := 1114) hM295 rfl rfl (fun h638 => ?_) (fun h638 => ?_)
      · replace hm := o_t hm h638
        obtain ⟨z639, ez639, h640, hm⟩ := o_z hm
        refine z_iinc (pc' := 1117) (l' := [some (zr 104 n0 aXa), some (zr 11 0 0), some (zr 12 0 209), some (zi z639)]) hM295 rfl rfl rfl ez639 h640 rfl rfl ?_
        refine z_goto (t := 18) hM295 rfl ?_
        exact ih hm
      · replace hm := o_f hm h638
        refine z_iconst (pc' := 991) hM295 rfl rfl rfl ?_
        cases hm
        exact z_retZ hM295 rfl rfl (Or.inl rfl) ⟨rfl, rfl⟩
    replace hm := o_f hm h623
    refine (Decidable.em (z8 = (28 : Int))).elim (fun h641 => ?_) (fun h641 => ?_)
    · replace hm := o_t hm h641
      refine z_swT (t := 992) (c := (28 : Int)) hM295 rfl h641 (by decide) rfl rfl ?_
      refine z_aload_n (pc' := 993) hM295 rfl rfl rfl ?_
      obtain ⟨z642, s643, h644, hm⟩ := o_c hm
      refine z_cv (d := d + 332) (pc' := 996) hM295 rfl hM129 rfl rfl rfl rfl rfl rfl (c129 (d := d + 326) hG h644) rfl ?_
      refine z_aload_n (pc' := 997) hM295 rfl rfl rfl ?_
      obtain ⟨z645, s646, h647, hm⟩ := o_c hm
      refine z_cv (d := d + 332) (pc' := 1000) hM295 rfl hM240 rfl rfl rfl rfl rfl rfl (c240 (d := d + 331) hG h647) rfl ?_
      refine z_cmpeq (pc' := 1003) (t := 1114) hM295 rfl rfl (fun h648 => ?_) (fun h648 => ?_)
      · replace hm := o_t hm h648
        obtain ⟨z649, ez649, h650, hm⟩ := o_z hm
        refine z_iinc (pc' := 1117) (l' := [some (zr 104 n0 aXa), some (zr 11 0 0), some (zr 12 0 209), some (zi z649)]) hM295 rfl rfl rfl ez649 h650 rfl rfl ?_
        refine z_goto (t := 18) hM295 rfl ?_
        exact ih hm
      · replace hm := o_f hm h648
        refine z_iconst (pc' := 1004) hM295 rfl rfl rfl ?_
        cases hm
        exact z_retZ hM295 rfl rfl (Or.inl rfl) ⟨rfl, rfl⟩
    replace hm := o_f hm h641
    refine (Decidable.em (z8 = (29 : Int))).elim (fun h651 => ?_) (fun h651 => ?_)
    · replace hm := o_t hm h651
      refine z_swT (t := 1005) (c := (29 : Int)) hM295 rfl h651 (by decide) rfl rfl ?_
      refine z_aload_n (pc' := 1006) hM295 rfl rfl rfl ?_
      refine z_aload_n (pc' := 1007) hM295 rfl rfl rfl ?_
      refine z_iload_n (pc' := 1008) hM295 rfl rfl rfl ?_
      refine z_iconst (pc' := 1009) hM295 rfl rfl rfl ?_
      obtain ⟨z652, ez652, h653, hm⟩ := o_z hm
      refine z_iadd (pc' := 1010) hM295 rfl rfl ez652 h653 ?_
      obtain ⟨h655, hm⟩ := o_x hm
      obtain ⟨z654, ez654, hm⟩ := o_v hm
      refine z_xald (pc' := 1011) hM295 rfl rfl h655 ez654 ?_
      obtain ⟨z656, s657, h658, hm⟩ := o_c hm
      refine z_cv (d := d + 332) (pc' := 1014) hM295 rfl hM130 rfl rfl rfl rfl rfl rfl (c130 (d := d + 330) hG h658) rfl ?_
      refine z_aload_n (pc' := 1015) hM295 rfl rfl rfl ?_
      refine z_aload_n (pc' := 1016) hM295 rfl rfl rfl ?_
      refine z_iload_n (pc' := 1017) hM295 rfl rfl rfl ?_
      refine z_iconst (pc' := 1018) hM295 rfl rfl rfl ?_
      obtain ⟨z659, ez659, h660, hm⟩ := o_z hm
      refine z_iadd (pc' := 1019) hM295 rfl rfl ez659 h660 ?_
      obtain ⟨h662, hm⟩ := o_x hm
      obtain ⟨z661, ez661, hm⟩ := o_v hm
      refine z_xald (pc' := 1020) hM295 rfl rfl h662 ez661 ?_
      obtain ⟨z663, s664, h665, hm⟩ := o_c hm
      refine z_cv (d := d + 332) (pc' := 1023) hM295 rfl hM245 rfl rfl rfl rfl rfl rfl (c245 (d := d + 331) hG h665) rfl ?_
      refine z_cmpeq (pc' := 1026) (t := 1114) hM295 rfl rfl (fun h666 => ?_) (fun h666 => ?_)
      · replace hm := o_t hm h666
        obtain ⟨z667, ez667, h668, hm⟩ := o_z hm
        refine z_iinc (pc' := 1117) (l' := [some (zr 104 n0 aXa), some (zr 11 0 0), some (zr 12 0 209), some (zi z667)]) hM295 rfl rfl rfl ez667 h668 rfl rfl ?_
        refine z_goto (t := 18) hM295 rfl ?_
        exact ih hm
      · replace hm := o_f hm h666
        refine z_iconst (pc' := 1027) hM295 rfl rfl rfl ?_
        cases hm
        exact z_retZ hM295 rfl rfl (Or.inl rfl) ⟨rfl, rfl⟩
    replace hm := o_f hm h651
    refine (Decidable.em (z8 = (30 : Int))).elim (fun h669 => ?_) (fun h669 => ?_)
    · replace hm := o_t hm h669
      refine z_swT (t := 1028) (c := (30 : Int)) hM295 rfl h669 (by decide) rfl rfl ?_
      refine z_aload_n (pc' := 1029) hM295 rfl rfl rfl ?_
      obtain ⟨z670, s671, h672, hm⟩ := o_c hm
      refine z_cv (d := d + 332) (pc' := 1032) hM295 rfl hM131 rfl rfl rfl rfl rfl rfl (c131 (d := d + 2) hG h672) rfl ?_
      refine z_aload_n (pc' := 1033) hM295 rfl rfl rfl ?_
      obtain ⟨z673, s674, h675, hm⟩ := o_c hm
      refine z_cv (d := d + 332) (pc' := 1036) hM295 rfl hM276 rfl rfl rfl rfl rfl rfl (c276 (d := d + 322) hG h675) rfl ?_
      obtain ⟨z676, ez676, hm⟩ := o_v hm
      refine z_lcmp (pc' := 1037) hM295 rfl rfl ez676 ?_
      refine z_ifeq (pc' := 1040) (t := 1114) hM295 rfl rfl (fun h677 => ?_) (fun h677 => ?_)
      · replace hm := o_t hm h677
        obtain ⟨z678, ez678, h679, hm⟩ := o_z hm
        refine z_iinc (pc' := 1117) (l' := [some (zr 104 n0 aXa), some (zr 11 0 0), some (zr 12 0 209), some (zi z678)]) hM295 rfl rfl rfl ez678 h679 rfl rfl ?_
        refine z_goto (t := 18) hM295 rfl ?_
        exact ih hm
      · replace hm := o_f hm h677
        refine z_iconst (pc' := 1041) hM295 rfl rfl rfl ?_
        cases hm
        exact z_retZ hM295 rfl rfl (Or.inl rfl) ⟨rfl, rfl⟩
    replace hm := o_f hm h669
    refine (Decidable.em (z8 = (31 : Int))).elim (fun h680 => ?_) (fun h680 => ?_)
    · replace hm := o_t hm h680
      refine z_swT (t := 1042) (c := (31 : Int)) hM295 rfl h680 (by decide) rfl rfl ?_
      refine z_aload_n (pc' := 1043) hM295 rfl rfl rfl ?_
      obtain ⟨z681, s682, h683, hm⟩ := o_c hm
      refine z_cv (d := d + 332) (pc' := 1046) hM295 rfl hM132 rfl rfl rfl rfl rfl rfl (c132 (d := d + 328) hG h683) rfl ?_
      refine z_aload_n (pc' := 1047) hM295 rfl rfl rfl ?_
      obtain ⟨z684, s685, h686, hm⟩ := o_c hm
      refine z_cv (d := d + 332) (pc' := 1050) hM295 rfl hM279 rfl rfl rfl rfl rfl rfl (c279 (d := d + 330) hG h686) rfl ?_
      refine z_cmpeq (pc' := 1053) (t := 1114) hM295 rfl rfl (fun h687 => ?_) (fun h687 => ?_)
      · replace hm := o_t hm h687
        obtain ⟨z688, ez688, h689, hm⟩ := o_z hm
        refine z_iinc (pc' := 1117) (l' := [some (zr 104 n0 aXa), some (zr 11 0 0), some (zr 12 0 209), some (zi z688)]) hM295 rfl rfl rfl ez688 h689 rfl rfl ?_
        refine z_goto (t := 18) hM295 rfl ?_
        exact ih hm
      · replace hm := o_f hm h687
        refine z_iconst (pc' := 1054) hM295 rfl rfl rfl ?_
        cases hm
        exact z_retZ hM295 rfl rfl (Or.inl rfl) ⟨rfl, rfl⟩
    replace hm := o_f hm h680
    refine (Decidable.em (z8 = (32 : Int))).elim (fun h690 => ?_) (fun h690 => ?_)
    · replace hm := o_t hm h690
      refine z_swT (t := 1055) (c := (32 : Int)) hM295 rfl h690 (by decide) rfl rfl ?_
      refine z_aload_n (pc' := 1056) hM295 rfl rfl rfl ?_
      refine z_aload_n (pc' := 1057) hM295 rfl rfl rfl ?_
      refine z_iload_n (pc' := 1058) hM295 rfl rfl rfl ?_
      refine z_iconst (pc' := 1059) hM295 rfl rfl rfl ?_
      obtain ⟨z691, ez691, h692, hm⟩ := o_z hm
      refine z_iadd (pc' := 1060) hM295 rfl rfl ez691 h692 ?_
      obtain ⟨h694, hm⟩ := o_x hm
      obtain ⟨z693, ez693, hm⟩ := o_v hm
      refine z_xald (pc' := 1061) hM295 rfl rfl h694 ez693 ?_
      obtain ⟨z695, s696, h697, hm⟩ := o_c hm
      refine z_cv (d := d + 332) (pc' := 1064) hM295 rfl hM133 rfl rfl rfl rfl rfl rfl (c133 (d := d + 331) hG h697) rfl ?_
      refine z_aload_n (pc' := 1065) hM295 rfl rfl rfl ?_
      refine z_aload_n (pc' := 1066) hM295 rfl rfl rfl ?_
      refine z_iload_n (pc' := 1067) hM295 rfl rfl rfl ?_
      refine z_iconst (pc' := 1068) hM295 rfl rfl rfl ?_
      obtain ⟨z698, ez698, h699, hm⟩ := o_z hm
      refine z_iadd (pc' := 1069) hM295 rfl rfl ez698 h699 ?_
      obtain ⟨h701, hm⟩ := o_x hm
      obtain ⟨z700, ez700, hm⟩ := o_v hm
      refine z_xald (pc' := 1070) hM295 rfl rfl h701 ez700 ?_
      obtain ⟨z702, s703, h704, hm⟩ := o_c hm
      refine z_cv (d := d + 332) (pc' := 1073) hM295 rfl hM280 rfl rfl rfl rfl rfl rfl (c280 (d := d + 331) hG h704) rfl ?_
      refine z_cmpeq (pc' := 1076) (t := 1114) hM295 rfl rfl (fun h705 => ?_) (fun h705 => ?_)
      · replace hm := o_t hm h705
        obtain ⟨z706, ez706, h707, hm⟩ := o_z hm
        refine z_iinc (pc' := 1117) (l' := [some (zr 104 n0 aXa), some (zr 11 0 0), some (zr 12 0 209), some (zi z706)]) hM295 rfl rfl rfl ez706 h707 rfl rfl ?_
        refine z_goto (t := 18) hM295 rfl ?_
        exact ih hm
      · replace hm := o_f hm h705
        refine z_iconst (pc' := 1077) hM295 rfl rfl rfl ?_
        cases hm
        exact z_retZ hM295 rfl rfl (Or.inl rfl) ⟨rfl, rfl⟩
    replace hm := o_f hm h690
    refine (Decidable.em (z8 = (33 : Int))).elim (fun h708 => ?_) (fun h708 => ?_)
    · replace hm := o_t hm h708
      refine z_swT (t := 1078) (c := (33 : Int)) hM295 rfl h708 (by decide) rfl rfl ?_
      refine z_aload_n (pc' := 1079) hM295 rfl rfl rfl ?_
      obtain ⟨z709, s710, h711, hm⟩ := o_c hm
      refine z_cv (d := d + 332) (pc' := 1082) hM295 rfl hM134 rfl rfl rfl rfl rfl rfl (c134 (d := d + 326) hG h711) rfl ?_
      refine z_aload_n (pc' := 1083) hM295 rfl rfl rfl ?_
      obtain ⟨z712, s713, h714, hm⟩ := o_c hm
      refine z_cv (d := d + 332) (pc' := 1086) hM295 rfl hM284 rfl rfl rfl rfl rfl rfl (c284 (d := d + 327) hG h714) rfl ?_
      refine z_cmpeq (pc' := 1089) (t := 1114) hM295 rfl rfl (fun h715 => ?_) (fun h715 => ?_)
      · replace hm := o_t hm h715
        obtain ⟨z716, ez716, h717, hm⟩ := o_z hm
        refine z_iinc (pc' := 1117) (l' := [some (zr 104 n0 aXa), some (zr 11 0 0), some (zr 12 0 209), some (zi z716)]) hM295 rfl rfl rfl ez716 h717 rfl rfl ?_
        refine z_goto (t := 18) hM295 rfl ?_
        exact ih hm
      · replace hm := o_f hm h715
        refine z_iconst (pc' := 1090) hM295 rfl rfl rfl ?_
        cases hm
        exact z_retZ hM295 rfl rfl (Or.inl rfl) ⟨rfl, rfl⟩
    replace hm := o_f hm h708
    refine (Decidable.em (z8 = (34 : Int))).elim (fun h718 => ?_) (fun h718 => ?_)
    · replace hm := o_t hm h718
      refine z_swT (t := 1091) (c := (34 : Int)) hM295 rfl h718 (by decide) rfl rfl ?_
      refine z_aload_n (pc' := 1092) hM295 rfl rfl rfl ?_
      refine z_aload_n (pc' := 1093) hM295 rfl rfl rfl ?_
      refine z_iload_n (pc' := 1094) hM295 rfl rfl rfl ?_
      refine z_iconst (pc' := 1095) hM295 rfl rfl rfl ?_
      obtain ⟨z719, ez719, h720, hm⟩ := o_z hm
      refine z_iadd (pc' := 1096) hM295 rfl rfl ez719 h720 ?_
      obtain ⟨h722, hm⟩ := o_x hm
      obtain ⟨z721, ez721, hm⟩ := o_v hm
      refine z_xald (pc' := 1097) hM295 rfl rfl h722 ez721 ?_
      obtain ⟨z723, s724, h725, hm⟩ := o_c hm
      refine z_cv (d := d + 332) (pc' := 1100) hM295 rfl hM135 rfl rfl rfl rfl rfl rfl (c135 (d := d + 331) hG h725) rfl ?_
      refine z_aload_n (pc' := 1101) hM295 rfl rfl rfl ?_
      refine z_aload_n (pc' := 1102) hM295 rfl rfl rfl ?_
      refine z_iload_n (pc' := 1103) hM295 rfl rfl rfl ?_
      refine z_iconst (pc' := 1104) hM295 rfl rfl rfl ?_
      obtain ⟨z726, ez726, h727, hm⟩ := o_z hm
      refine z_iadd (pc' := 1105) hM295 rfl rfl ez726 h727 ?_
      obtain ⟨h729, hm⟩ := o_x hm
      obtain ⟨z728, ez728, hm⟩ := o_v hm
      refine z_xald (pc' := 1106) hM295 rfl rfl h729 ez728 ?_
      obtain ⟨z730, s731, h732, hm⟩ := o_c hm
      refine z_cv (d := d + 332) (pc' := 1109) hM295 rfl hM285 rfl rfl rfl rfl rfl rfl (c285 (d := d + 330) hG h732) rfl ?_
      refine z_cmpeq (pc' := 1112) (t := 1114) hM295 rfl rfl (fun h733 => ?_) (fun h733 => ?_)
      · replace hm := o_t hm h733
        obtain ⟨z734, ez734, h735, hm⟩ := o_z hm
        refine z_iinc (pc' := 1117) (l' := [some (zr 104 n0 aXa), some (zr 11 0 0), some (zr 12 0 209), some (zi z734)]) hM295 rfl rfl rfl ez734 h735 rfl rfl ?_
        refine z_goto (t := 18) hM295 rfl ?_
        exact ih hm
      · replace hm := o_f hm h733
        refine z_iconst (pc' := 1113) hM295 rfl rfl rfl ?_
        cases hm
        exact z_retZ hM295 rfl rfl (Or.inl rfl) ⟨rfl, rfl⟩
    replace hm := o_f hm h718
    refine z_swF (t := 1114) hM295 rfl (by omega) rfl ?_
    obtain ⟨z736, ez736, h737, hm⟩ := o_z hm
    refine z_iinc (pc' := 1117) (l' := [some (zr 104 n0 aXa), some (zr 11 0 0), some (zr 12 0 209), some (zi z736)]) hM295 rfl rfl rfl ez736 h737 rfl rfl ?_
    refine z_goto (t := 18) hM295 rfl ?_
    exact ih hm
def m295 (X : Nat → Int32) (n0 : Nat) (s : zS) : Option (Int × zS) := m295_18 X zFu n0 (0 : Int) s
set_option maxHeartbeats 4000000 in
set_option maxRecDepth 20000 in
theorem c295 {G : aHp} {d : Nat} (hG : zG G) {n0 : Nat} {s : zS} {r_ : Int} {s_ : zS} (hm : m295 (aX G) n0 s = some (r_, s_)) : Zp G (d + 333) 295 16 [some (zr 104 n0 aXa), some (zr 11 0 0), some (zr 12 0 209), none] [] s (zRet (some (zi r_)) s_) := by
  replace hm : (m295_18 (aX G) zFu n0 (0 : Int) s) = some (r_, s_) := hm
  refine z_iconst (pc' := 17) hM295 rfl rfl rfl ?_
  refine z_istore_n (pc' := 18) (l' := [some (zr 104 n0 aXa), some (zr 11 0 0), some (zr 12 0 209), some (zi (0 : Int))]) hM295 rfl rfl rfl rfl ?_
  exact c295_18 hG hm
