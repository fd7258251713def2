theorem aK266 : aM266.2.2.2.2.2.all (aChk aM266) = true := by decide +kernel
theorem aK267 : aM267.2.2.2.2.2.all (aChk aM267) = true := by decide +kernel
theorem aK268 : aM268.2.2.2.2.2.all (aChk aM268) = true := by decide +kernel
theorem aK269 : aM269.2.2.2.2.2.all (aChk aM269) = true := by decide +kernel
theorem aK270 : aM270.2.2.2.2.2.all (aChk aM270) = true := by decide +kernel
theorem aK271 : aM271.2.2.2.2.2.all (aChk aM271) = true := by decide +kernel
theorem aK272 : aM272.2.2.2.2.2.all (aChk aM272) = true := by decide +kernel
theorem aK273 : aM273.2.2.2.2.2.all (aChk aM273) = true := by decide +kernel
theorem aK274 : aM274.2.2.2.2.2.all (aChk aM274) = true := by decide +kernel
theorem aK275 : aM275.2.2.2.2.2.all (aChk aM275) = true := by decide +kernel
theorem aK276 : aM276.2.2.2.2.2.all (aChk aM276) = true := by decide +kernel
theorem aK277 : aM277.2.2.2.2.2.all (aChk aM277) = true := by decide +kernel
theorem aK278 : aM278.2.2.2.2.2.all (aChk aM278) = true := by decide +kernel
theorem aK279 : aM279.2.2.2.2.2.all (aChk aM279) = true := by decide +kernel
theorem aK280 : aM280.2.2.2.2.2.all (aChk aM280) = true := by decide +kernel
theorem aK281 : aM281.2.2.2.2.2.all (aChk aM281) = true := by decide +kernel
theorem aK282 : aM282.2.2.2.2.2.all (aChk aM282) = true := by decide +kernel
theorem aK283 : aM283.2.2.2.2.2.all (aChk aM283) = true := by decide +kernel
theorem aK284_0 : ((aM284.2.2.2.2.2.drop 0).take 50).all (aChk aM284) = true := by decide +kernel
theorem aK284_1 : ((aM284.2.2.2.2.2.drop 50).take 50).all (aChk aM284) = true := by decide +kernel
theorem aK284_2 : ((aM284.2.2.2.2.2.drop 100).take 50).all (aChk aM284) = true := by decide +kernel
theorem aK284_3 : ((aM284.2.2.2.2.2.drop 150).take 50).all (aChk aM284) = true := by decide +kernel
theorem aK285 : aM285.2.2.2.2.2.all (aChk aM285) = true := by decide +kernel
theorem aK286 : aM286.2.2.2.2.2.all (aChk aM286) = true := by decide +kernel
theorem aK287 : aM287.2.2.2.2.2.all (aChk aM287) = true := by decide +kernel
theorem aK288 : aM288.2.2.2.2.2.all (aChk aM288) = true := by decide +kernel
theorem aK289 : aM289.2.2.2.2.2.all (aChk aM289) = true := by decide +kernel
theorem aK290 : aM290.2.2.2.2.2.all (aChk aM290) = true := by decide +kernel
theorem aK291 : aM291.2.2.2.2.2.all (aChk aM291) = true := by decide +kernel
theorem aK292 : aM292.2.2.2.2.2.all (aChk aM292) = true := by decide +kernel
theorem aK293 : aM293.2.2.2.2.2.all (aChk aM293) = true := by decide +kernel
theorem aK294 : aM294.2.2.2.2.2.all (aChk aM294) = true := by decide +kernel
theorem aK295_0 : ((aM295.2.2.2.2.2.drop 0).take 50).all (aChk aM295) = true := by decide +kernel
theorem aK295_1 : ((aM295.2.2.2.2.2.drop 50).take 50).all (aChk aM295) = true := by decide +kernel
theorem aK295_2 : ((aM295.2.2.2.2.2.drop 100).take 50).all (aChk aM295) = true := by decide +kernel
theorem aK295_3 : ((aM295.2.2.2.2.2.drop 150).take 50).all (aChk aM295) = true := by decide +kernel
theorem aK295_4 : ((aM295.2.2.2.2.2.drop 200).take 50).all (aChk aM295) = true := by decide +kernel
theorem aK295_5 : ((aM295.2.2.2.2.2.drop 250).take 50).all (aChk aM295) = true := by decide +kernel
theorem aK295_6 : ((aM295.2.2.2.2.2.drop 300).take 50).all (aChk aM295) = true := by decide +kernel
theorem aK295_7 : ((aM295.2.2.2.2.2.drop 350).take 50).all (aChk aM295) = true := by decide +kernel
theorem aK295_8 : ((aM295.2.2.2.2.2.drop 400).take 50).all (aChk aM295) = true := by decide +kernel
theorem aK295_9 : ((aM295.2.2.2.2.2.drop 450).take 50).all (aChk aM295) = true := by decide +kernel
theorem aK295_10 : ((aM295.2.2.2.2.2.drop 500).take 50).all (aChk aM295) = true := by decide +kernel
theorem aK295_11 : ((aM295.2.2.2.2.2.drop 550).take 50).all (aChk aM295) = true := by decide +kernel
theorem aK295_12 : ((aM295.2.2.2.2.2.drop 600).take 50).all (aChk aM295) = true := by decide +kernel
theorem aK295_13 : ((aM295.2.2.2.2.2.drop 650).take 50).all (aChk aM295) = true := by decide +kernel
theorem aK295_14 : ((aM295.2.2.2.2.2.drop 700).take 50).all (aChk aM295) = true := by decide +kernel
