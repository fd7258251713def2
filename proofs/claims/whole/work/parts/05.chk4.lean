theorem aK150 : aM150.2.2.2.2.2.all (aChk aM150) = true := by decide +kernel
theorem aK151 : aM151.2.2.2.2.2.all (aChk aM151) = true := by decide +kernel
theorem aK152 : aM152.2.2.2.2.2.all (aChk aM152) = true := by decide +kernel
theorem aK153 : aM153.2.2.2.2.2.all (aChk aM153) = true := by decide +kernel
theorem aK154 : aM154.2.2.2.2.2.all (aChk aM154) = true := by decide +kernel
theorem aK155 : aM155.2.2.2.2.2.all (aChk aM155) = true := by decide +kernel
theorem aK156 : aM156.2.2.2.2.2.all (aChk aM156) = true := by decide +kernel
theorem aK157 : aM157.2.2.2.2.2.all (aChk aM157) = true := by decide +kernel
theorem aK158 : aM158.2.2.2.2.2.all (aChk aM158) = true := by decide +kernel
theorem aK159 : aM159.2.2.2.2.2.all (aChk aM159) = true := by decide +kernel
theorem aK160 : aM160.2.2.2.2.2.all (aChk aM160) = true := by decide +kernel
theorem aK161 : aM161.2.2.2.2.2.all (aChk aM161) = true := by decide +kernel
theorem aK162 : aM162.2.2.2.2.2.all (aChk aM162) = true := by decide +kernel
theorem aK163_0 : ((aM163.2.2.2.2.2.drop 0).take 50).all (aChk aM163) = true := by decide +kernel
theorem aK163_1 : ((aM163.2.2.2.2.2.drop 50).take 50).all (aChk aM163) = true := by decide +kernel
theorem aK163_2 : ((aM163.2.2.2.2.2.drop 100).take 50).all (aChk aM163) = true := by decide +kernel
theorem aK163_3 : ((aM163.2.2.2.2.2.drop 150).take 50).all (aChk aM163) = true := by decide +kernel
theorem aK164 : aM164.2.2.2.2.2.all (aChk aM164) = true := by decide +kernel
theorem aK165 : aM165.2.2.2.2.2.all (aChk aM165) = true := by decide +kernel
theorem aK166 : aM166.2.2.2.2.2.all (aChk aM166) = true := by decide +kernel
theorem aK167 : aM167.2.2.2.2.2.all (aChk aM167) = true := by decide +kernel
theorem aK168 : aM168.2.2.2.2.2.all (aChk aM168) = true := by decide +kernel
theorem aK169 : aM169.2.2.2.2.2.all (aChk aM169) = true := by decide +kernel
theorem aK170 : aM170.2.2.2.2.2.all (aChk aM170) = true := by decide +kernel
theorem aK171 : aM171.2.2.2.2.2.all (aChk aM171) = true := by decide +kernel
theorem aK172 : aM172.2.2.2.2.2.all (aChk aM172) = true := by decide +kernel
theorem aK173 : aM173.2.2.2.2.2.all (aChk aM173) = true := by decide +kernel
theorem aK174 : aM174.2.2.2.2.2.all (aChk aM174) = true := by decide +kernel
theorem aK175 : aM175.2.2.2.2.2.all (aChk aM175) = true := by decide +kernel
theorem aK176 : aM176.2.2.2.2.2.all (aChk aM176) = true := by decide +kernel
theorem aK177 : aM177.2.2.2.2.2.all (aChk aM177) = true := by decide +kernel
theorem aK178_0 : ((aM178.2.2.2.2.2.drop 0).take 50).all (aChk aM178) = true := by decide +kernel
theorem aK178_1 : ((aM178.2.2.2.2.2.drop 50).take 50).all (aChk aM178) = true := by decide +kernel
theorem aK178_2 : ((aM178.2.2.2.2.2.drop 100).take 50).all (aChk aM178) = true := by decide +kernel
theorem aK178_3 : ((aM178.2.2.2.2.2.drop 150).take 50).all (aChk aM178) = true := by decide +kernel
theorem aK178_4 : ((aM178.2.2.2.2.2.drop 200).take 50).all (aChk aM178) = true := by decide +kernel
theorem aK179 : aM179.2.2.2.2.2.all (aChk aM179) = true := by decide +kernel
theorem aK180_0 : ((aM180.2.2.2.2.2.drop 0).take 50).all (aChk aM180) = true := by decide +kernel
theorem aK180_1 : ((aM180.2.2.2.2.2.drop 50).take 50).all (aChk aM180) = true := by decide +kernel
theorem aK180_2 : ((aM180.2.2.2.2.2.drop 100).take 50).all (aChk aM180) = true := by decide +kernel
theorem aK180_3 : ((aM180.2.2.2.2.2.drop 150).take 50).all (aChk aM180) = true := by decide +kernel
theorem aK180_4 : ((aM180.2.2.2.2.2.drop 200).take 50).all (aChk aM180) = true := by decide +kernel
theorem aK181 : aM181.2.2.2.2.2.all (aChk aM181) = true := by decide +kernel
theorem aK182 : aM182.2.2.2.2.2.all (aChk aM182) = true := by decide +kernel
theorem aK183 : aM183.2.2.2.2.2.all (aChk aM183) = true := by decide +kernel
theorem aK184 : aM184.2.2.2.2.2.all (aChk aM184) = true := by decide +kernel
theorem aK185 : aM185.2.2.2.2.2.all (aChk aM185) = true := by decide +kernel
theorem aK186 : aM186.2.2.2.2.2.all (aChk aM186) = true := by decide +kernel
theorem aK187 : aM187.2.2.2.2.2.all (aChk aM187) = true := by decide +kernel
theorem aK188 : aM188.2.2.2.2.2.all (aChk aM188) = true := by decide +kernel
theorem aK189 : aM189.2.2.2.2.2.all (aChk aM189) = true := by decide +kernel
theorem aK190 : aM190.2.2.2.2.2.all (aChk aM190) = true := by decide +kernel
theorem aK191 : aM191.2.2.2.2.2.all (aChk aM191) = true := by decide +kernel
theorem aK192 : aM192.2.2.2.2.2.all (aChk aM192) = true := by decide +kernel
theorem aK193 : aM193.2.2.2.2.2.all (aChk aM193) = true := by decide +kernel
theorem aK194 : aM194.2.2.2.2.2.all (aChk aM194) = true := by decide +kernel
theorem aK195 : aM195.2.2.2.2.2.all (aChk aM195) = true := by decide +kernel
theorem aK196 : aM196.2.2.2.2.2.all (aChk aM196) = true := by decide +kernel
theorem aK197 : aM197.2.2.2.2.2.all (aChk aM197) = true := by decide +kernel
theorem aK198 : aM198.2.2.2.2.2.all (aChk aM198) = true := by decide +kernel
theorem aK199 : aM199.2.2.2.2.2.all (aChk aM199) = true := by decide +kernel
theorem aK200 : aM200.2.2.2.2.2.all (aChk aM200) = true := by decide +kernel
theorem aK201 : aM201.2.2.2.2.2.all (aChk aM201) = true := by decide +kernel
theorem aK202 : aM202.2.2.2.2.2.all (aChk aM202) = true := by decide +kernel
theorem aK203 : aM203.2.2.2.2.2.all (aChk aM203) = true := by decide +kernel
theorem aK204 : aM204.2.2.2.2.2.all (aChk aM204) = true := by decide +kernel
theorem aK205 : aM205.2.2.2.2.2.all (aChk aM205) = true := by decide +kernel
theorem aK206 : aM206.2.2.2.2.2.all (aChk aM206) = true := by decide +kernel
theorem aK207 : aM207.2.2.2.2.2.all (aChk aM207) = true := by decide +kernel
