theorem aK127 : aM127.2.2.2.2.2.all (aChk aM127) = true := by decide +kernel
theorem aK128 : aM128.2.2.2.2.2.all (aChk aM128) = true := by decide +kernel
theorem aK129 : aM129.2.2.2.2.2.all (aChk aM129) = true := by decide +kernel
theorem aK130 : aM130.2.2.2.2.2.all (aChk aM130) = true := by decide +kernel
theorem aK131 : aM131.2.2.2.2.2.all (aChk aM131) = true := by decide +kernel
theorem aK132 : aM132.2.2.2.2.2.all (aChk aM132) = true := by decide +kernel
theorem aK133 : aM133.2.2.2.2.2.all (aChk aM133) = true := by decide +kernel
theorem aK134 : aM134.2.2.2.2.2.all (aChk aM134) = true := by decide +kernel
theorem aK135 : aM135.2.2.2.2.2.all (aChk aM135) = true := by decide +kernel
theorem aK136 : aM136.2.2.2.2.2.all (aChk aM136) = true := by decide +kernel
theorem aK137 : aM137.2.2.2.2.2.all (aChk aM137) = true := by decide +kernel
theorem aK138 : aM138.2.2.2.2.2.all (aChk aM138) = true := by decide +kernel
theorem aK139 : aM139.2.2.2.2.2.all (aChk aM139) = true := by decide +kernel
theorem aK140 : aM140.2.2.2.2.2.all (aChk aM140) = true := by decide +kernel
theorem aK141 : aM141.2.2.2.2.2.all (aChk aM141) = true := by decide +kernel
theorem aK142 : aM142.2.2.2.2.2.all (aChk aM142) = true := by decide +kernel
theorem aK143 : aM143.2.2.2.2.2.all (aChk aM143) = true := by decide +kernel
theorem aK144 : aM144.2.2.2.2.2.all (aChk aM144) = true := by decide +kernel
theorem aK145 : aM145.2.2.2.2.2.all (aChk aM145) = true := by decide +kernel
theorem aK146 : aM146.2.2.2.2.2.all (aChk aM146) = true := by decide +kernel
theorem aK147 : aM147.2.2.2.2.2.all (aChk aM147) = true := by decide +kernel
theorem aK148 : aM148.2.2.2.2.2.all (aChk aM148) = true := by decide +kernel
theorem aK149_0 : ((aM149.2.2.2.2.2.drop 0).take 250).all (aChk aM149) = true := by decide +kernel
theorem aK149_1 : ((aM149.2.2.2.2.2.drop 250).take 250).all (aChk aM149) = true := by decide +kernel
theorem aK149_2 : ((aM149.2.2.2.2.2.drop 500).take 250).all (aChk aM149) = true := by decide +kernel
theorem aK149_3 : ((aM149.2.2.2.2.2.drop 750).take 250).all (aChk aM149) = true := by decide +kernel
theorem aK149_4 : ((aM149.2.2.2.2.2.drop 1000).take 250).all (aChk aM149) = true := by decide +kernel
theorem aK150 : aM150.2.2.2.2.2.all (aChk aM150) = true := by decide +kernel
theorem aK151 : aM151.2.2.2.2.2.all (aChk aM151) = true := by decide +kernel
theorem aK152 : aM152.2.2.2.2.2.all (aChk aM152) = true := by decide +kernel
theorem aK153 : aM153.2.2.2.2.2.all (aChk aM153) = true := by decide +kernel
theorem aK154 : aM154.2.2.2.2.2.all (aChk aM154) = true := by decide +kernel
theorem aK155 : aM155.2.2.2.2.2.all (aChk aM155) = true := by decide +kernel
theorem aK156 : aM156.2.2.2.2.2.all (aChk aM156) = true := by decide +kernel
theorem aK157 : aM157.2.2.2.2.2.all (aChk aM157) = true := by decide +kernel
theorem aK158 : aM158.2.2.2.2.2.all (aChk aM158) = true := by decide +kernel
theorem aK159 : aM159.2.2.2.2.2.all (aChk aM159) = true := by decide +kernel
theorem aK160 : aM160.2.2.2.2.2.all (aChk aM160) = true := by decide +kernel
theorem aK161 : aM161.2.2.2.2.2.all (aChk aM161) = true := by decide +kernel
theorem aK162 : aM162.2.2.2.2.2.all (aChk aM162) = true := by decide +kernel
theorem aK163 : aM163.2.2.2.2.2.all (aChk aM163) = true := by decide +kernel
theorem aK164 : aM164.2.2.2.2.2.all (aChk aM164) = true := by decide +kernel
theorem aK165 : aM165.2.2.2.2.2.all (aChk aM165) = true := by decide +kernel
theorem aK166 : aM166.2.2.2.2.2.all (aChk aM166) = true := by decide +kernel
theorem aK167 : aM167.2.2.2.2.2.all (aChk aM167) = true := by decide +kernel
theorem aK168 : aM168.2.2.2.2.2.all (aChk aM168) = true := by decide +kernel
theorem aK169 : aM169.2.2.2.2.2.all (aChk aM169) = true := by decide +kernel
theorem aK170 : aM170.2.2.2.2.2.all (aChk aM170) = true := by decide +kernel
