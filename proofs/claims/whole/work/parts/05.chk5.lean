theorem aK280 : aM280.2.2.2.2.2.all (aChk aM280) = true := by decide +kernel
theorem aK281 : aM281.2.2.2.2.2.all (aChk aM281) = true := by decide +kernel
theorem aK282 : aM282.2.2.2.2.2.all (aChk aM282) = true := by decide +kernel
theorem aK283 : aM283.2.2.2.2.2.all (aChk aM283) = true := by decide +kernel
theorem aK284 : aM284.2.2.2.2.2.all (aChk aM284) = true := by decide +kernel
theorem aK285 : aM285.2.2.2.2.2.all (aChk aM285) = true := by decide +kernel
theorem aK286 : aM286.2.2.2.2.2.all (aChk aM286) = true := by decide +kernel
theorem aK287 : aM287.2.2.2.2.2.all (aChk aM287) = true := by decide +kernel
theorem aK288 : aM288.2.2.2.2.2.all (aChk aM288) = true := by decide +kernel
theorem aK289 : aM289.2.2.2.2.2.all (aChk aM289) = true := by decide +kernel
theorem aK290 : aM290.2.2.2.2.2.all (aChk aM290) = true := by decide +kernel
theorem aK291 : aM291.2.2.2.2.2.all (aChk aM291) = true := by decide +kernel
theorem aK292 : aM292.2.2.2.2.2.all (aChk aM292) = true := by decide +kernel
theorem aK293 : aM293.2.2.2.2.2.all (aChk aM293) = true := by decide +kernel
theorem aK294 : aM294.2.2.2.2.2.all (aChk aM294) = true := by decide +kernel
theorem aK295_0 : ((aM295.2.2.2.2.2.drop 0).take 250).all (aChk aM295) = true := by decide +kernel
theorem aK295_1 : ((aM295.2.2.2.2.2.drop 250).take 250).all (aChk aM295) = true := by decide +kernel
theorem aK295_2 : ((aM295.2.2.2.2.2.drop 500).take 250).all (aChk aM295) = true := by decide +kernel
