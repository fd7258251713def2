/-! ===== all the tables hold ===== -/
abbrev aPok (md : aMd) : Prop := ∀ e ∈ md.2.2.2.2.2, aChk md e = true
theorem aDropS {α : Type} {l : List α} {P : α → Prop} {i s : Nat} (h1 : ∀ x ∈ (l.drop i).take s, P x) (h2 : ∀ x ∈ l.drop (i + s), P x) : ∀ x ∈ l.drop i, P x := by
  intro x hx
  rw [← List.take_append_drop s (l.drop i), List.mem_append] at hx
  rcases hx with hx | hx
  · exact h1 x hx
  · rw [List.drop_drop] at hx
    exact h2 x hx
theorem aDropE {α : Type} {l : List α} {P : α → Prop} {i : Nat} (h : l.length ≤ i) : ∀ x ∈ l.drop i, P x := by
  rw [List.drop_eq_nil_of_le h]
  intro x hx
  cases hx
theorem aA0 : aPok aM0 := List.all_eq_true.mp aK0
theorem aA1 : aPok aM1 := List.all_eq_true.mp aK1
theorem aA2 : aPok aM2 := List.all_eq_true.mp aK2
theorem aA3 : aPok aM3 := List.all_eq_true.mp aK3
theorem aA4 : aPok aM4 := List.all_eq_true.mp aK4
theorem aA5 : aPok aM5 := List.all_eq_true.mp aK5
theorem aA6 : aPok aM6 := List.all_eq_true.mp aK6
theorem aA7 : aPok aM7 := List.all_eq_true.mp aK7
theorem aA8 : aPok aM8 := List.all_eq_true.mp aK8
theorem aA9 : aPok aM9 := List.all_eq_true.mp aK9
theorem aA10 : aPok aM10 := List.all_eq_true.mp aK10
theorem aA11 : aPok aM11 := List.all_eq_true.mp aK11
theorem aA12 : aPok aM12 := List.all_eq_true.mp aK12
theorem aA13 : aPok aM13 := List.all_eq_true.mp aK13
theorem aA14 : aPok aM14 := List.all_eq_true.mp aK14
theorem aA15 : aPok aM15 := List.all_eq_true.mp aK15
theorem aA16 : aPok aM16 := List.all_eq_true.mp aK16
theorem aA17 : aPok aM17 := List.all_eq_true.mp aK17
theorem aA18 : aPok aM18 := List.all_eq_true.mp aK18
theorem aA19 : aPok aM19 := List.all_eq_true.mp aK19
theorem aA20 : aPok aM20 := List.all_eq_true.mp aK20
theorem aA21 : aPok aM21 := List.all_eq_true.mp aK21
theorem aA22 : aPok aM22 := List.all_eq_true.mp aK22
theorem aA23 : aPok aM23 := List.all_eq_true.mp aK23
theorem aA24 : aPok aM24 := List.all_eq_true.mp aK24
theorem aA25 : aPok aM25 := List.all_eq_true.mp aK25
theorem aA26 : aPok aM26 := List.all_eq_true.mp aK26
theorem aA27 : aPok aM27 := List.all_eq_true.mp aK27
theorem aA28 : aPok aM28 := List.all_eq_true.mp aK28
theorem aA29 : aPok aM29 := List.all_eq_true.mp aK29
theorem aA30 : aPok aM30 := List.all_eq_true.mp aK30
theorem aA31 : aPok aM31 := List.all_eq_true.mp aK31
theorem aA32 : aPok aM32 := List.all_eq_true.mp aK32
theorem aA33 : aPok aM33 := List.all_eq_true.mp aK33
theorem aA34 : aPok aM34 := List.all_eq_true.mp aK34
theorem aA35 : aPok aM35 := List.all_eq_true.mp aK35
theorem aA36 : aPok aM36 := List.all_eq_true.mp aK36
theorem aA37 : aPok aM37 := List.all_eq_true.mp aK37
theorem aA38 : aPok aM38 := List.all_eq_true.mp aK38
theorem aA39 : aPok aM39 := List.all_eq_true.mp aK39
theorem aA40 : aPok aM40 := List.all_eq_true.mp aK40
theorem aA41 : aPok aM41 := List.all_eq_true.mp aK41
theorem aA42 : aPok aM42 := List.all_eq_true.mp aK42
theorem aA43 : aPok aM43 := List.all_eq_true.mp aK43
theorem aA44 : aPok aM44 := List.all_eq_true.mp aK44
theorem aA45 : aPok aM45 := List.all_eq_true.mp aK45
theorem aA46 : aPok aM46 := List.all_eq_true.mp aK46
theorem aA47 : aPok aM47 := List.all_eq_true.mp aK47
theorem aA48 : aPok aM48 := List.all_eq_true.mp aK48
theorem aA49 : aPok aM49 := List.all_eq_true.mp aK49
theorem aA50 : aPok aM50 := List.all_eq_true.mp aK50
theorem aA51 : aPok aM51 := List.all_eq_true.mp aK51
theorem aA52 : aPok aM52 := List.all_eq_true.mp aK52
theorem aA53 : aPok aM53 := List.all_eq_true.mp aK53
theorem aA54 : aPok aM54 := List.all_eq_true.mp aK54
theorem aA55 : aPok aM55 := List.all_eq_true.mp aK55
theorem aA56 : aPok aM56 := List.all_eq_true.mp aK56
theorem aA57 : aPok aM57 := List.all_eq_true.mp aK57
theorem aA58 : aPok aM58 := List.all_eq_true.mp aK58
theorem aA59 : aPok aM59 := List.all_eq_true.mp aK59
theorem aA60 : aPok aM60 := List.all_eq_true.mp aK60
theorem aA61 : aPok aM61 := List.all_eq_true.mp aK61
theorem aA62 : aPok aM62 := List.all_eq_true.mp aK62
theorem aA63 : aPok aM63 := List.all_eq_true.mp aK63
theorem aA64 : aPok aM64 := List.all_eq_true.mp aK64
theorem aA65 : aPok aM65 := List.all_eq_true.mp aK65
theorem aA66 : aPok aM66 := List.all_eq_true.mp aK66
theorem aA67 : aPok aM67 := fun e he => (aDropS (i := 0) (s := 50) (List.all_eq_true.mp aK67_0) (aDropS (i := 50) (s := 50) (List.all_eq_true.mp aK67_1) (aDropS (i := 100) (s := 50) (List.all_eq_true.mp aK67_2) (aDropE (i := 150) (by decide +kernel))))) e he
theorem aA68 : aPok aM68 := List.all_eq_true.mp aK68
theorem aA69 : aPok aM69 := List.all_eq_true.mp aK69
theorem aA70 : aPok aM70 := List.all_eq_true.mp aK70
theorem aA71 : aPok aM71 := List.all_eq_true.mp aK71
theorem aA72 : aPok aM72 := List.all_eq_true.mp aK72
theorem aA73 : aPok aM73 := List.all_eq_true.mp aK73
theorem aA74 : aPok aM74 := List.all_eq_true.mp aK74
theorem aA75 : aPok aM75 := List.all_eq_true.mp aK75
theorem aA76 : aPok aM76 := List.all_eq_true.mp aK76
theorem aA77 : aPok aM77 := List.all_eq_true.mp aK77
theorem aA78 : aPok aM78 := List.all_eq_true.mp aK78
theorem aA79 : aPok aM79 := List.all_eq_true.mp aK79
theorem aA80 : aPok aM80 := List.all_eq_true.mp aK80
theorem aA81 : aPok aM81 := List.all_eq_true.mp aK81
theorem aA82 : aPok aM82 := List.all_eq_true.mp aK82
theorem aA83 : aPok aM83 := List.all_eq_true.mp aK83
theorem aA84 : aPok aM84 := List.all_eq_true.mp aK84
theorem aA85 : aPok aM85 := List.all_eq_true.mp aK85
theorem aA86 : aPok aM86 := List.all_eq_true.mp aK86
theorem aA87 : aPok aM87 := List.all_eq_true.mp aK87
theorem aA88 : aPok aM88 := List.all_eq_true.mp aK88
theorem aA89 : aPok aM89 := List.all_eq_true.mp aK89
theorem aA90 : aPok aM90 := List.all_eq_true.mp aK90
theorem aA91 : aPok aM91 := List.all_eq_true.mp aK91
theorem aA92 : aPok aM92 := List.all_eq_true.mp aK92
theorem aA93 : aPok aM93 := List.all_eq_true.mp aK93
theorem aA94 : aPok aM94 := List.all_eq_true.mp aK94
theorem aA95 : aPok aM95 := List.all_eq_true.mp aK95
theorem aA96 : aPok aM96 := List.all_eq_true.mp aK96
theorem aA97 : aPok aM97 := List.all_eq_true.mp aK97
theorem aA98 : aPok aM98 := List.all_eq_true.mp aK98
theorem aA99 : aPok aM99 := List.all_eq_true.mp aK99
theorem aA100 : aPok aM100 := List.all_eq_true.mp aK100
theorem aA101 : aPok aM101 := List.all_eq_true.mp aK101
theorem aA102 : aPok aM102 := List.all_eq_true.mp aK102
theorem aA103 : aPok aM103 := List.all_eq_true.mp aK103
theorem aA104 : aPok aM104 := List.all_eq_true.mp aK104
theorem aA105 : aPok aM105 := List.all_eq_true.mp aK105
theorem aA106 : aPok aM106 := List.all_eq_true.mp aK106
theorem aA107 : aPok aM107 := List.all_eq_true.mp aK107
theorem aA108 : aPok aM108 := List.all_eq_true.mp aK108
theorem aA109 : aPok aM109 := List.all_eq_true.mp aK109
theorem aA110 : aPok aM110 := List.all_eq_true.mp aK110
theorem aA111 : aPok aM111 := List.all_eq_true.mp aK111
theorem aA112 : aPok aM112 := List.all_eq_true.mp aK112
theorem aA113 : aPok aM113 := List.all_eq_true.mp aK113
theorem aA114 : aPok aM114 := List.all_eq_true.mp aK114
theorem aA115 : aPok aM115 := List.all_eq_true.mp aK115
theorem aA116 : aPok aM116 := List.all_eq_true.mp aK116
theorem aA117 : aPok aM117 := List.all_eq_true.mp aK117
theorem aA118 : aPok aM118 := List.all_eq_true.mp aK118
theorem aA119 : aPok aM119 := List.all_eq_true.mp aK119
theorem aA120 : aPok aM120 := List.all_eq_true.mp aK120
theorem aA121 : aPok aM121 := List.all_eq_true.mp aK121
theorem aA122 : aPok aM122 := List.all_eq_true.mp aK122
theorem aA123 : aPok aM123 := List.all_eq_true.mp aK123
theorem aA124 : aPok aM124 := List.all_eq_true.mp aK124
theorem aA125 : aPok aM125 := List.all_eq_true.mp aK125
theorem aA126 : aPok aM126 := List.all_eq_true.mp aK126
theorem aA127 : aPok aM127 := List.all_eq_true.mp aK127
theorem aA128 : aPok aM128 := List.all_eq_true.mp aK128
theorem aA129 : aPok aM129 := List.all_eq_true.mp aK129
theorem aA130 : aPok aM130 := List.all_eq_true.mp aK130
theorem aA131 : aPok aM131 := List.all_eq_true.mp aK131
theorem aA132 : aPok aM132 := List.all_eq_true.mp aK132
theorem aA133 : aPok aM133 := List.all_eq_true.mp aK133
theorem aA134 : aPok aM134 := List.all_eq_true.mp aK134
theorem aA135 : aPok aM135 := List.all_eq_true.mp aK135
theorem aA136 : aPok aM136 := List.all_eq_true.mp aK136
theorem aA137 : aPok aM137 := List.all_eq_true.mp aK137
theorem aA138 : aPok aM138 := List.all_eq_true.mp aK138
theorem aA139 : aPok aM139 := List.all_eq_true.mp aK139
theorem aA140 : aPok aM140 := List.all_eq_true.mp aK140
theorem aA141 : aPok aM141 := List.all_eq_true.mp aK141
theorem aA142 : aPok aM142 := List.all_eq_true.mp aK142
theorem aA143 : aPok aM143 := List.all_eq_true.mp aK143
theorem aA144 : aPok aM144 := List.all_eq_true.mp aK144
theorem aA145 : aPok aM145 := List.all_eq_true.mp aK145
theorem aA146 : aPok aM146 := List.all_eq_true.mp aK146
theorem aA147 : aPok aM147 := List.all_eq_true.mp aK147
theorem aA148 : aPok aM148 := List.all_eq_true.mp aK148
theorem aA149 : aPok aM149 := fun e he => (aDropS (i := 0) (s := 50) (List.all_eq_true.mp aK149_0) (aDropS (i := 50) (s := 50) (List.all_eq_true.mp aK149_1) (aDropS (i := 100) (s := 50) (List.all_eq_true.mp aK149_2) (aDropS (i := 150) (s := 50) (List.all_eq_true.mp aK149_3) (aDropS (i := 200) (s := 50) (List.all_eq_true.mp aK149_4) (aDropS (i := 250) (s := 50) (List.all_eq_true.mp aK149_5) (aDropS (i := 300) (s := 50) (List.all_eq_true.mp aK149_6) (aDropS (i := 350) (s := 50) (List.all_eq_true.mp aK149_7) (aDropS (i := 400) (s := 50) (List.all_eq_true.mp aK149_8) (aDropS (i := 450) (s := 50) (List.all_eq_true.mp aK149_9) (aDropS (i := 500) (s := 50) (List.all_eq_true.mp aK149_10) (aDropS (i := 550) (s := 50) (List.all_eq_true.mp aK149_11) (aDropS (i := 600) (s := 50) (List.all_eq_true.mp aK149_12) (aDropS (i := 650) (s := 50) (List.all_eq_true.mp aK149_13) (aDropS (i := 700) (s := 50) (List.all_eq_true.mp aK149_14) (aDropS (i := 750) (s := 50) (List.all_eq_true.mp aK149_15) (aDropS (i := 800) (s := 50) (List.all_eq_true.mp aK149_16) (aDropS (i := 850) (s := 50) (List.all_eq_true.mp aK149_17) (aDropS (i := 900) (s := 50) (List.all_eq_true.mp aK149_18) (aDropS (i := 950) (s := 50) (List.all_eq_true.mp aK149_19) (aDropS (i := 1000) (s := 50) (List.all_eq_true.mp aK149_20) (aDropS (i := 1050) (s := 50) (List.all_eq_true.mp aK149_21) (aDropS (i := 1100) (s := 50) (List.all_eq_true.mp aK149_22) (aDropS (i := 1150) (s := 50) (List.all_eq_true.mp aK149_23) (aDropE (i := 1200) (by decide +kernel)))))))))))))))))))))))))) e he
theorem aA150 : aPok aM150 := List.all_eq_true.mp aK150
theorem aA151 : aPok aM151 := List.all_eq_true.mp aK151
theorem aA152 : aPok aM152 := List.all_eq_true.mp aK152
theorem aA153 : aPok aM153 := List.all_eq_true.mp aK153
theorem aA154 : aPok aM154 := List.all_eq_true.mp aK154
theorem aA155 : aPok aM155 := List.all_eq_true.mp aK155
theorem aA156 : aPok aM156 := List.all_eq_true.mp aK156
theorem aA157 : aPok aM157 := List.all_eq_true.mp aK157
theorem aA158 : aPok aM158 := List.all_eq_true.mp aK158
theorem aA159 : aPok aM159 := List.all_eq_true.mp aK159
theorem aA160 : aPok aM160 := List.all_eq_true.mp aK160
theorem aA161 : aPok aM161 := List.all_eq_true.mp aK161
theorem aA162 : aPok aM162 := List.all_eq_true.mp aK162
theorem aA163 : aPok aM163 := fun e he => (aDropS (i := 0) (s := 50) (List.all_eq_true.mp aK163_0) (aDropS (i := 50) (s := 50) (List.all_eq_true.mp aK163_1) (aDropS (i := 100) (s := 50) (List.all_eq_true.mp aK163_2) (aDropS (i := 150) (s := 50) (List.all_eq_true.mp aK163_3) (aDropE (i := 200) (by decide +kernel)))))) e he
theorem aA164 : aPok aM164 := List.all_eq_true.mp aK164
theorem aA165 : aPok aM165 := List.all_eq_true.mp aK165
theorem aA166 : aPok aM166 := List.all_eq_true.mp aK166
theorem aA167 : aPok aM167 := List.all_eq_true.mp aK167
theorem aA168 : aPok aM168 := List.all_eq_true.mp aK168
theorem aA169 : aPok aM169 := List.all_eq_true.mp aK169
theorem aA170 : aPok aM170 := List.all_eq_true.mp aK170
theorem aA171 : aPok aM171 := List.all_eq_true.mp aK171
theorem aA172 : aPok aM172 := List.all_eq_true.mp aK172
theorem aA173 : aPok aM173 := List.all_eq_true.mp aK173
theorem aA174 : aPok aM174 := List.all_eq_true.mp aK174
theorem aA175 : aPok aM175 := List.all_eq_true.mp aK175
theorem aA176 : aPok aM176 := List.all_eq_true.mp aK176
theorem aA177 : aPok aM177 := List.all_eq_true.mp aK177
theorem aA178 : aPok aM178 := fun e he => (aDropS (i := 0) (s := 50) (List.all_eq_true.mp aK178_0) (aDropS (i := 50) (s := 50) (List.all_eq_true.mp aK178_1) (aDropS (i := 100) (s := 50) (List.all_eq_true.mp aK178_2) (aDropS (i := 150) (s := 50) (List.all_eq_true.mp aK178_3) (aDropS (i := 200) (s := 50) (List.all_eq_true.mp aK178_4) (aDropE (i := 250) (by decide +kernel))))))) e he
theorem aA179 : aPok aM179 := List.all_eq_true.mp aK179
theorem aA180 : aPok aM180 := fun e he => (aDropS (i := 0) (s := 50) (List.all_eq_true.mp aK180_0) (aDropS (i := 50) (s := 50) (List.all_eq_true.mp aK180_1) (aDropS (i := 100) (s := 50) (List.all_eq_true.mp aK180_2) (aDropS (i := 150) (s := 50) (List.all_eq_true.mp aK180_3) (aDropS (i := 200) (s := 50) (List.all_eq_true.mp aK180_4) (aDropE (i := 250) (by decide +kernel))))))) e he
theorem aA181 : aPok aM181 := List.all_eq_true.mp aK181
theorem aA182 : aPok aM182 := List.all_eq_true.mp aK182
theorem aA183 : aPok aM183 := List.all_eq_true.mp aK183
theorem aA184 : aPok aM184 := List.all_eq_true.mp aK184
theorem aA185 : aPok aM185 := List.all_eq_true.mp aK185
theorem aA186 : aPok aM186 := List.all_eq_true.mp aK186
theorem aA187 : aPok aM187 := List.all_eq_true.mp aK187
theorem aA188 : aPok aM188 := List.all_eq_true.mp aK188
theorem aA189 : aPok aM189 := List.all_eq_true.mp aK189
theorem aA190 : aPok aM190 := List.all_eq_true.mp aK190
theorem aA191 : aPok aM191 := List.all_eq_true.mp aK191
theorem aA192 : aPok aM192 := List.all_eq_true.mp aK192
theorem aA193 : aPok aM193 := List.all_eq_true.mp aK193
theorem aA194 : aPok aM194 := List.all_eq_true.mp aK194
theorem aA195 : aPok aM195 := List.all_eq_true.mp aK195
theorem aA196 : aPok aM196 := List.all_eq_true.mp aK196
theorem aA197 : aPok aM197 := List.all_eq_true.mp aK197
theorem aA198 : aPok aM198 := List.all_eq_true.mp aK198
theorem aA199 : aPok aM199 := List.all_eq_true.mp aK199
theorem aA200 : aPok aM200 := List.all_eq_true.mp aK200
theorem aA201 : aPok aM201 := List.all_eq_true.mp aK201
theorem aA202 : aPok aM202 := List.all_eq_true.mp aK202
theorem aA203 : aPok aM203 := List.all_eq_true.mp aK203
theorem aA204 : aPok aM204 := List.all_eq_true.mp aK204
theorem aA205 : aPok aM205 := List.all_eq_true.mp aK205
theorem aA206 : aPok aM206 := List.all_eq_true.mp aK206
theorem aA207 : aPok aM207 := List.all_eq_true.mp aK207
theorem aA208 : aPok aM208 := List.all_eq_true.mp aK208
theorem aA209 : aPok aM209 := List.all_eq_true.mp aK209
theorem aA210 : aPok aM210 := List.all_eq_true.mp aK210
theorem aA211 : aPok aM211 := List.all_eq_true.mp aK211
theorem aA212 : aPok aM212 := List.all_eq_true.mp aK212
theorem aA213 : aPok aM213 := List.all_eq_true.mp aK213
theorem aA214 : aPok aM214 := List.all_eq_true.mp aK214
theorem aA215 : aPok aM215 := List.all_eq_true.mp aK215
theorem aA216 : aPok aM216 := List.all_eq_true.mp aK216
theorem aA217 : aPok aM217 := List.all_eq_true.mp aK217
theorem aA218 : aPok aM218 := List.all_eq_true.mp aK218
theorem aA219 : aPok aM219 := List.all_eq_true.mp aK219
theorem aA220 : aPok aM220 := List.all_eq_true.mp aK220
theorem aA221 : aPok aM221 := List.all_eq_true.mp aK221
theorem aA222 : aPok aM222 := List.all_eq_true.mp aK222
theorem aA223 : aPok aM223 := List.all_eq_true.mp aK223
theorem aA224 : aPok aM224 := List.all_eq_true.mp aK224
theorem aA225 : aPok aM225 := List.all_eq_true.mp aK225
theorem aA226 : aPok aM226 := List.all_eq_true.mp aK226
theorem aA227 : aPok aM227 := List.all_eq_true.mp aK227
theorem aA228 : aPok aM228 := List.all_eq_true.mp aK228
theorem aA229 : aPok aM229 := List.all_eq_true.mp aK229
theorem aA230 : aPok aM230 := List.all_eq_true.mp aK230
theorem aA231 : aPok aM231 := List.all_eq_true.mp aK231
theorem aA232 : aPok aM232 := List.all_eq_true.mp aK232
theorem aA233 : aPok aM233 := List.all_eq_true.mp aK233
theorem aA234 : aPok aM234 := List.all_eq_true.mp aK234
theorem aA235 : aPok aM235 := List.all_eq_true.mp aK235
theorem aA236 : aPok aM236 := List.all_eq_true.mp aK236
theorem aA237 : aPok aM237 := List.all_eq_true.mp aK237
theorem aA238 : aPok aM238 := List.all_eq_true.mp aK238
theorem aA239 : aPok aM239 := List.all_eq_true.mp aK239
theorem aA240 : aPok aM240 := List.all_eq_true.mp aK240
theorem aA241 : aPok aM241 := List.all_eq_true.mp aK241
theorem aA242 : aPok aM242 := List.all_eq_true.mp aK242
theorem aA243 : aPok aM243 := List.all_eq_true.mp aK243
theorem aA244 : aPok aM244 := List.all_eq_true.mp aK244
theorem aA245 : aPok aM245 := List.all_eq_true.mp aK245
theorem aA246 : aPok aM246 := List.all_eq_true.mp aK246
theorem aA247 : aPok aM247 := List.all_eq_true.mp aK247
theorem aA248 : aPok aM248 := List.all_eq_true.mp aK248
theorem aA249 : aPok aM249 := List.all_eq_true.mp aK249
theorem aA250 : aPok aM250 := List.all_eq_true.mp aK250
theorem aA251 : aPok aM251 := List.all_eq_true.mp aK251
theorem aA252 : aPok aM252 := List.all_eq_true.mp aK252
theorem aA253 : aPok aM253 := List.all_eq_true.mp aK253
theorem aA254 : aPok aM254 := List.all_eq_true.mp aK254
theorem aA255 : aPok aM255 := List.all_eq_true.mp aK255
theorem aA256 : aPok aM256 := List.all_eq_true.mp aK256
theorem aA257 : aPok aM257 := List.all_eq_true.mp aK257
theorem aA258 : aPok aM258 := List.all_eq_true.mp aK258
theorem aA259 : aPok aM259 := List.all_eq_true.mp aK259
theorem aA260 : aPok aM260 := fun e he => (aDropS (i := 0) (s := 50) (List.all_eq_true.mp aK260_0) (aDropS (i := 50) (s := 50) (List.all_eq_true.mp aK260_1) (aDropS (i := 100) (s := 50) (List.all_eq_true.mp aK260_2) (aDropS (i := 150) (s := 50) (List.all_eq_true.mp aK260_3) (aDropS (i := 200) (s := 50) (List.all_eq_true.mp aK260_4) (aDropE (i := 250) (by decide +kernel))))))) e he
theorem aA261 : aPok aM261 := List.all_eq_true.mp aK261
theorem aA262 : aPok aM262 := List.all_eq_true.mp aK262
theorem aA263 : aPok aM263 := List.all_eq_true.mp aK263
theorem aA264 : aPok aM264 := List.all_eq_true.mp aK264
theorem aA265 : aPok aM265 := List.all_eq_true.mp aK265
theorem aA266 : aPok aM266 := List.all_eq_true.mp aK266
theorem aA267 : aPok aM267 := List.all_eq_true.mp aK267
theorem aA268 : aPok aM268 := List.all_eq_true.mp aK268
theorem aA269 : aPok aM269 := List.all_eq_true.mp aK269
theorem aA270 : aPok aM270 := List.all_eq_true.mp aK270
theorem aA271 : aPok aM271 := List.all_eq_true.mp aK271
theorem aA272 : aPok aM272 := List.all_eq_true.mp aK272
theorem aA273 : aPok aM273 := List.all_eq_true.mp aK273
theorem aA274 : aPok aM274 := List.all_eq_true.mp aK274
theorem aA275 : aPok aM275 := List.all_eq_true.mp aK275
theorem aA276 : aPok aM276 := List.all_eq_true.mp aK276
theorem aA277 : aPok aM277 := List.all_eq_true.mp aK277
theorem aA278 : aPok aM278 := List.all_eq_true.mp aK278
theorem aA279 : aPok aM279 := List.all_eq_true.mp aK279
theorem aA280 : aPok aM280 := List.all_eq_true.mp aK280
theorem aA281 : aPok aM281 := List.all_eq_true.mp aK281
theorem aA282 : aPok aM282 := List.all_eq_true.mp aK282
theorem aA283 : aPok aM283 := List.all_eq_true.mp aK283
theorem aA284 : aPok aM284 := fun e he => (aDropS (i := 0) (s := 50) (List.all_eq_true.mp aK284_0) (aDropS (i := 50) (s := 50) (List.all_eq_true.mp aK284_1) (aDropS (i := 100) (s := 50) (List.all_eq_true.mp aK284_2) (aDropS (i := 150) (s := 50) (List.all_eq_true.mp aK284_3) (aDropE (i := 200) (by decide +kernel)))))) e he
theorem aA285 : aPok aM285 := List.all_eq_true.mp aK285
theorem aA286 : aPok aM286 := List.all_eq_true.mp aK286
theorem aA287 : aPok aM287 := List.all_eq_true.mp aK287
theorem aA288 : aPok aM288 := List.all_eq_true.mp aK288
theorem aA289 : aPok aM289 := List.all_eq_true.mp aK289
theorem aA290 : aPok aM290 := List.all_eq_true.mp aK290
theorem aA291 : aPok aM291 := List.all_eq_true.mp aK291
theorem aA292 : aPok aM292 := List.all_eq_true.mp aK292
theorem aA293 : aPok aM293 := List.all_eq_true.mp aK293
theorem aA294 : aPok aM294 := List.all_eq_true.mp aK294
theorem aA295 : aPok aM295 := fun e he => (aDropS (i := 0) (s := 50) (List.all_eq_true.mp aK295_0) (aDropS (i := 50) (s := 50) (List.all_eq_true.mp aK295_1) (aDropS (i := 100) (s := 50) (List.all_eq_true.mp aK295_2) (aDropS (i := 150) (s := 50) (List.all_eq_true.mp aK295_3) (aDropS (i := 200) (s := 50) (List.all_eq_true.mp aK295_4) (aDropS (i := 250) (s := 50) (List.all_eq_true.mp aK295_5) (aDropS (i := 300) (s := 50) (List.all_eq_true.mp aK295_6) (aDropS (i := 350) (s := 50) (List.all_eq_true.mp aK295_7) (aDropS (i := 400) (s := 50) (List.all_eq_true.mp aK295_8) (aDropS (i := 450) (s := 50) (List.all_eq_true.mp aK295_9) (aDropS (i := 500) (s := 50) (List.all_eq_true.mp aK295_10) (aDropS (i := 550) (s := 50) (List.all_eq_true.mp aK295_11) (aDropS (i := 600) (s := 50) (List.all_eq_true.mp aK295_12) (aDropS (i := 650) (s := 50) (List.all_eq_true.mp aK295_13) (aDropS (i := 700) (s := 50) (List.all_eq_true.mp aK295_14) (aDropE (i := 750) (by decide +kernel))))))))))))))))) e he
set_option maxRecDepth 20000 in
theorem aA_all : ∀ md ∈ aMl, aPok md := List.forall_mem_cons.mpr ⟨aA0, List.forall_mem_cons.mpr ⟨aA1, List.forall_mem_cons.mpr ⟨aA2, List.forall_mem_cons.mpr ⟨aA3, List.forall_mem_cons.mpr ⟨aA4, List.forall_mem_cons.mpr ⟨aA5, List.forall_mem_cons.mpr ⟨aA6, List.forall_mem_cons.mpr ⟨aA7, List.forall_mem_cons.mpr ⟨aA8, List.forall_mem_cons.mpr ⟨aA9, List.forall_mem_cons.mpr ⟨aA10, List.forall_mem_cons.mpr ⟨aA11, List.forall_mem_cons.mpr ⟨aA12, List.forall_mem_cons.mpr ⟨aA13, List.forall_mem_cons.mpr ⟨aA14, List.forall_mem_cons.mpr ⟨aA15, List.forall_mem_cons.mpr ⟨aA16, List.forall_mem_cons.mpr ⟨aA17, List.forall_mem_cons.mpr ⟨aA18, List.forall_mem_cons.mpr ⟨aA19, List.forall_mem_cons.mpr ⟨aA20, List.forall_mem_cons.mpr ⟨aA21, List.forall_mem_cons.mpr ⟨aA22, List.forall_mem_cons.mpr ⟨aA23, List.forall_mem_cons.mpr ⟨aA24, List.forall_mem_cons.mpr ⟨aA25, List.forall_mem_cons.mpr ⟨aA26, List.forall_mem_cons.mpr ⟨aA27, List.forall_mem_cons.mpr ⟨aA28, List.forall_mem_cons.mpr ⟨aA29, List.forall_mem_cons.mpr ⟨aA30, List.forall_mem_cons.mpr ⟨aA31, List.forall_mem_cons.mpr ⟨aA32, List.forall_mem_cons.mpr ⟨aA33, List.forall_mem_cons.mpr ⟨aA34, List.forall_mem_cons.mpr ⟨aA35, List.forall_mem_cons.mpr ⟨aA36, List.forall_mem_cons.mpr ⟨aA37, List.forall_mem_cons.mpr ⟨aA38, List.forall_mem_cons.mpr ⟨aA39, List.forall_mem_cons.mpr ⟨aA40, List.forall_mem_cons.mpr ⟨aA41, List.forall_mem_cons.mpr ⟨aA42, List.forall_mem_cons.mpr ⟨aA43, List.forall_mem_cons.mpr ⟨aA44, List.forall_mem_cons.mpr ⟨aA45, List.forall_mem_cons.mpr ⟨aA46, List.forall_mem_cons.mpr ⟨aA47, List.forall_mem_cons.mpr ⟨aA48, List.forall_mem_cons.mpr ⟨aA49, List.forall_mem_cons.mpr ⟨aA50, List.forall_mem_cons.mpr ⟨aA51, List.forall_mem_cons.mpr ⟨aA52, List.forall_mem_cons.mpr ⟨aA53, List.forall_mem_cons.mpr ⟨aA54, List.forall_mem_cons.mpr ⟨aA55, List.forall_mem_cons.mpr ⟨aA56, List.forall_mem_cons.mpr ⟨aA57, List.forall_mem_cons.mpr ⟨aA58, List.forall_mem_cons.mpr ⟨aA59, List.forall_mem_cons.mpr ⟨aA60, List.forall_mem_cons.mpr ⟨aA61, List.forall_mem_cons.mpr ⟨aA62, List.forall_mem_cons.mpr ⟨aA63, List.forall_mem_cons.mpr ⟨aA64, List.forall_mem_cons.mpr ⟨aA65, List.forall_mem_cons.mpr ⟨aA66, List.forall_mem_cons.mpr ⟨aA67, List.forall_mem_cons.mpr ⟨aA68, List.forall_mem_cons.mpr ⟨aA69, List.forall_mem_cons.mpr ⟨aA70, List.forall_mem_cons.mpr ⟨aA71, List.forall_mem_cons.mpr ⟨aA72, List.forall_mem_cons.mpr ⟨aA73, List.forall_mem_cons.mpr ⟨aA74, List.forall_mem_cons.mpr ⟨aA75, List.forall_mem_cons.mpr ⟨aA76, List.forall_mem_cons.mpr ⟨aA77, List.forall_mem_cons.mpr ⟨aA78, List.forall_mem_cons.mpr ⟨aA79, List.forall_mem_cons.mpr ⟨aA80, List.forall_mem_cons.mpr ⟨aA81, List.forall_mem_cons.mpr ⟨aA82, List.forall_mem_cons.mpr ⟨aA83, List.forall_mem_cons.mpr ⟨aA84, List.forall_mem_cons.mpr ⟨aA85, List.forall_mem_cons.mpr ⟨aA86, List.forall_mem_cons.mpr ⟨aA87, List.forall_mem_cons.mpr ⟨aA88, List.forall_mem_cons.mpr ⟨aA89, List.forall_mem_cons.mpr ⟨aA90, List.forall_mem_cons.mpr ⟨aA91, List.forall_mem_cons.mpr ⟨aA92, List.forall_mem_cons.mpr ⟨aA93, List.forall_mem_cons.mpr ⟨aA94, List.forall_mem_cons.mpr ⟨aA95, List.forall_mem_cons.mpr ⟨aA96, List.forall_mem_cons.mpr ⟨aA97, List.forall_mem_cons.mpr ⟨aA98, List.forall_mem_cons.mpr ⟨aA99, List.forall_mem_cons.mpr ⟨aA100, List.forall_mem_cons.mpr ⟨aA101, List.forall_mem_cons.mpr ⟨aA102, List.forall_mem_cons.mpr ⟨aA103, List.forall_mem_cons.mpr ⟨aA104, List.forall_mem_cons.mpr ⟨aA105, List.forall_mem_cons.mpr ⟨aA106, List.forall_mem_cons.mpr ⟨aA107, List.forall_mem_cons.mpr ⟨aA108, List.forall_mem_cons.mpr ⟨aA109, List.forall_mem_cons.mpr ⟨aA110, List.forall_mem_cons.mpr ⟨aA111, List.forall_mem_cons.mpr ⟨aA112, List.forall_mem_cons.mpr ⟨aA113, List.forall_mem_cons.mpr ⟨aA114, List.forall_mem_cons.mpr ⟨aA115, List.forall_mem_cons.mpr ⟨aA116, List.forall_mem_cons.mpr ⟨aA117, List.forall_mem_cons.mpr ⟨aA118, List.forall_mem_cons.mpr ⟨aA119, List.forall_mem_cons.mpr ⟨aA120, List.forall_mem_cons.mpr ⟨aA121, List.forall_mem_cons.mpr ⟨aA122, List.forall_mem_cons.mpr ⟨aA123, List.forall_mem_cons.mpr ⟨aA124, List.forall_mem_cons.mpr ⟨aA125, List.forall_mem_cons.mpr ⟨aA126, List.forall_mem_cons.mpr ⟨aA127, List.forall_mem_cons.mpr ⟨aA128, List.forall_mem_cons.mpr ⟨aA129, List.forall_mem_cons.mpr ⟨aA130, List.forall_mem_cons.mpr ⟨aA131, List.forall_mem_cons.mpr ⟨aA132, List.forall_mem_cons.mpr ⟨aA133, List.forall_mem_cons.mpr ⟨aA134, List.forall_mem_cons.mpr ⟨aA135, List.forall_mem_cons.mpr ⟨aA136, List.forall_mem_cons.mpr ⟨aA137, List.forall_mem_cons.mpr ⟨aA138, List.forall_mem_cons.mpr ⟨aA139, List.forall_mem_cons.mpr ⟨aA140, List.forall_mem_cons.mpr ⟨aA141, List.forall_mem_cons.mpr ⟨aA142, List.forall_mem_cons.mpr ⟨aA143, List.forall_mem_cons.mpr ⟨aA144, List.forall_mem_cons.mpr ⟨aA145, List.forall_mem_cons.mpr ⟨aA146, List.forall_mem_cons.mpr ⟨aA147, List.forall_mem_cons.mpr ⟨aA148, List.forall_mem_cons.mpr ⟨aA149, List.forall_mem_cons.mpr ⟨aA150, List.forall_mem_cons.mpr ⟨aA151, List.forall_mem_cons.mpr ⟨aA152, List.forall_mem_cons.mpr ⟨aA153, List.forall_mem_cons.mpr ⟨aA154, List.forall_mem_cons.mpr ⟨aA155, List.forall_mem_cons.mpr ⟨aA156, List.forall_mem_cons.mpr ⟨aA157, List.forall_mem_cons.mpr ⟨aA158, List.forall_mem_cons.mpr ⟨aA159, List.forall_mem_cons.mpr ⟨aA160, List.forall_mem_cons.mpr ⟨aA161, List.forall_mem_cons.mpr ⟨aA162, List.forall_mem_cons.mpr ⟨aA163, List.forall_mem_cons.mpr ⟨aA164, List.forall_mem_cons.mpr ⟨aA165, List.forall_mem_cons.mpr ⟨aA166, List.forall_mem_cons.mpr ⟨aA167, List.forall_mem_cons.mpr ⟨aA168, List.forall_mem_cons.mpr ⟨aA169, List.forall_mem_cons.mpr ⟨aA170, List.forall_mem_cons.mpr ⟨aA171, List.forall_mem_cons.mpr ⟨aA172, List.forall_mem_cons.mpr ⟨aA173, List.forall_mem_cons.mpr ⟨aA174, List.forall_mem_cons.mpr ⟨aA175, List.forall_mem_cons.mpr ⟨aA176, List.forall_mem_cons.mpr ⟨aA177, List.forall_mem_cons.mpr ⟨aA178, List.forall_mem_cons.mpr ⟨aA179, List.forall_mem_cons.mpr ⟨aA180, List.forall_mem_cons.mpr ⟨aA181, List.forall_mem_cons.mpr ⟨aA182, List.forall_mem_cons.mpr ⟨aA183, List.forall_mem_cons.mpr ⟨aA184, List.forall_mem_cons.mpr ⟨aA185, List.forall_mem_cons.mpr ⟨aA186, List.forall_mem_cons.mpr ⟨aA187, List.forall_mem_cons.mpr ⟨aA188, List.forall_mem_cons.mpr ⟨aA189, List.forall_mem_cons.mpr ⟨aA190, List.forall_mem_cons.mpr ⟨aA191, List.forall_mem_cons.mpr ⟨aA192, List.forall_mem_cons.mpr ⟨aA193, List.forall_mem_cons.mpr ⟨aA194, List.forall_mem_cons.mpr ⟨aA195, List.forall_mem_cons.mpr ⟨aA196, List.forall_mem_cons.mpr ⟨aA197, List.forall_mem_cons.mpr ⟨aA198, List.forall_mem_cons.mpr ⟨aA199, List.forall_mem_cons.mpr ⟨aA200, List.forall_mem_cons.mpr ⟨aA201, List.forall_mem_cons.mpr ⟨aA202, List.forall_mem_cons.mpr ⟨aA203, List.forall_mem_cons.mpr ⟨aA204, List.forall_mem_cons.mpr ⟨aA205, List.forall_mem_cons.mpr ⟨aA206, List.forall_mem_cons.mpr ⟨aA207, List.forall_mem_cons.mpr ⟨aA208, List.forall_mem_cons.mpr ⟨aA209, List.forall_mem_cons.mpr ⟨aA210, List.forall_mem_cons.mpr ⟨aA211, List.forall_mem_cons.mpr ⟨aA212, List.forall_mem_cons.mpr ⟨aA213, List.forall_mem_cons.mpr ⟨aA214, List.forall_mem_cons.mpr ⟨aA215, List.forall_mem_cons.mpr ⟨aA216, List.forall_mem_cons.mpr ⟨aA217, List.forall_mem_cons.mpr ⟨aA218, List.forall_mem_cons.mpr ⟨aA219, List.forall_mem_cons.mpr ⟨aA220, List.forall_mem_cons.mpr ⟨aA221, List.forall_mem_cons.mpr ⟨aA222, List.forall_mem_cons.mpr ⟨aA223, List.forall_mem_cons.mpr ⟨aA224, List.forall_mem_cons.mpr ⟨aA225, List.forall_mem_cons.mpr ⟨aA226, List.forall_mem_cons.mpr ⟨aA227, List.forall_mem_cons.mpr ⟨aA228, List.forall_mem_cons.mpr ⟨aA229, List.forall_mem_cons.mpr ⟨aA230, List.forall_mem_cons.mpr ⟨aA231, List.forall_mem_cons.mpr ⟨aA232, List.forall_mem_cons.mpr ⟨aA233, List.forall_mem_cons.mpr ⟨aA234, List.forall_mem_cons.mpr ⟨aA235, List.forall_mem_cons.mpr ⟨aA236, List.forall_mem_cons.mpr ⟨aA237, List.forall_mem_cons.mpr ⟨aA238, List.forall_mem_cons.mpr ⟨aA239, List.forall_mem_cons.mpr ⟨aA240, List.forall_mem_cons.mpr ⟨aA241, List.forall_mem_cons.mpr ⟨aA242, List.forall_mem_cons.mpr ⟨aA243, List.forall_mem_cons.mpr ⟨aA244, List.forall_mem_cons.mpr ⟨aA245, List.forall_mem_cons.mpr ⟨aA246, List.forall_mem_cons.mpr ⟨aA247, List.forall_mem_cons.mpr ⟨aA248, List.forall_mem_cons.mpr ⟨aA249, List.forall_mem_cons.mpr ⟨aA250, List.forall_mem_cons.mpr ⟨aA251, List.forall_mem_cons.mpr ⟨aA252, List.forall_mem_cons.mpr ⟨aA253, List.forall_mem_cons.mpr ⟨aA254, List.forall_mem_cons.mpr ⟨aA255, List.forall_mem_cons.mpr ⟨aA256, List.forall_mem_cons.mpr ⟨aA257, List.forall_mem_cons.mpr ⟨aA258, List.forall_mem_cons.mpr ⟨aA259, List.forall_mem_cons.mpr ⟨aA260, List.forall_mem_cons.mpr ⟨aA261, List.forall_mem_cons.mpr ⟨aA262, List.forall_mem_cons.mpr ⟨aA263, List.forall_mem_cons.mpr ⟨aA264, List.forall_mem_cons.mpr ⟨aA265, List.forall_mem_cons.mpr ⟨aA266, List.forall_mem_cons.mpr ⟨aA267, List.forall_mem_cons.mpr ⟨aA268, List.forall_mem_cons.mpr ⟨aA269, List.forall_mem_cons.mpr ⟨aA270, List.forall_mem_cons.mpr ⟨aA271, List.forall_mem_cons.mpr ⟨aA272, List.forall_mem_cons.mpr ⟨aA273, List.forall_mem_cons.mpr ⟨aA274, List.forall_mem_cons.mpr ⟨aA275, List.forall_mem_cons.mpr ⟨aA276, List.forall_mem_cons.mpr ⟨aA277, List.forall_mem_cons.mpr ⟨aA278, List.forall_mem_cons.mpr ⟨aA279, List.forall_mem_cons.mpr ⟨aA280, List.forall_mem_cons.mpr ⟨aA281, List.forall_mem_cons.mpr ⟨aA282, List.forall_mem_cons.mpr ⟨aA283, List.forall_mem_cons.mpr ⟨aA284, List.forall_mem_cons.mpr ⟨aA285, List.forall_mem_cons.mpr ⟨aA286, List.forall_mem_cons.mpr ⟨aA287, List.forall_mem_cons.mpr ⟨aA288, List.forall_mem_cons.mpr ⟨aA289, List.forall_mem_cons.mpr ⟨aA290, List.forall_mem_cons.mpr ⟨aA291, List.forall_mem_cons.mpr ⟨aA292, List.forall_mem_cons.mpr ⟨aA293, List.forall_mem_cons.mpr ⟨aA294, List.forall_mem_cons.mpr ⟨aA295, fun _ h => absurd h List.not_mem_nil⟩⟩⟩⟩⟩⟩⟩⟩⟩⟩⟩⟩⟩⟩⟩⟩⟩⟩⟩⟩⟩⟩⟩⟩⟩⟩⟩⟩⟩⟩⟩⟩⟩⟩⟩⟩⟩⟩⟩⟩⟩⟩⟩⟩⟩⟩⟩⟩⟩⟩⟩⟩⟩⟩⟩⟩⟩⟩⟩⟩⟩⟩⟩⟩⟩⟩⟩⟩⟩⟩⟩⟩⟩⟩⟩⟩⟩⟩⟩⟩⟩⟩⟩⟩⟩⟩⟩⟩⟩⟩⟩⟩⟩⟩⟩⟩⟩⟩⟩⟩⟩⟩⟩⟩⟩⟩⟩⟩⟩⟩⟩⟩⟩⟩⟩⟩⟩⟩⟩⟩⟩⟩⟩⟩⟩⟩⟩⟩⟩⟩⟩⟩⟩⟩⟩⟩⟩⟩⟩⟩⟩⟩⟩⟩⟩⟩⟩⟩⟩⟩⟩⟩⟩⟩⟩⟩⟩⟩⟩⟩⟩⟩⟩⟩⟩⟩⟩⟩⟩⟩⟩⟩⟩⟩⟩⟩⟩⟩⟩⟩⟩⟩⟩⟩⟩⟩⟩⟩⟩⟩⟩⟩⟩⟩⟩⟩⟩⟩⟩⟩⟩⟩⟩⟩⟩⟩⟩⟩⟩⟩⟩⟩⟩⟩⟩⟩⟩⟩⟩⟩⟩⟩⟩⟩⟩⟩⟩⟩⟩⟩⟩⟩⟩⟩⟩⟩⟩⟩⟩⟩⟩⟩⟩⟩⟩⟩⟩⟩⟩⟩⟩⟩⟩⟩⟩⟩⟩⟩⟩⟩⟩⟩⟩⟩⟩⟩⟩⟩⟩⟩⟩⟩⟩⟩⟩⟩⟩⟩⟩⟩⟩⟩⟩⟩⟩⟩⟩⟩⟩⟩⟩⟩⟩⟩⟩⟩
theorem aMs_mem {m : Nat} {md : aMd} (h : aMs m = some md) : md ∈ aMl ∧ m < 296 := ⟨List.mem_of_getElem? h, by rw [← aMl_len]; exact (List.getElem?_eq_some_iff.mp h).1⟩
theorem aOk_ins {m : Nat} {md : aMd} (h : aMs m = some md) {e : Nat × Instr × Nat × aLk} (he : e ∈ md.2.2.2.2.2) : aChk md e = true := aA_all md (aMs_mem h).1 e he
theorem aFind_mem : ∀ {t : List (Nat × Instr × Nat × aLk)} {pc : Nat} {e : Instr × Nat × aLk}, aFind t pc = some e → (pc, e) ∈ t
  | [], _, _, h => by cases h
  | a :: t, pc, e, h => by
    unfold aFind at h
    cases hb : Nat.beq a.1 pc with
    | true =>
      rw [hb, cond_true] at h
      cases h
      rw [← Nat.eq_of_beq_eq_true hb]
      exact List.mem_cons_self
    | false =>
      rw [hb, cond_false] at h
      exact List.mem_cons_of_mem _ (aFind_mem h)
theorem aCode_ok {m : Nat} {md : aMd} (h : aMs m = some md) (hk : m ≠ 295) : aPcd md := by
  have hm := aMs_mem h
  have h1 : aMl[m]? = some md := h
  rw [aMl_eq] at h1
  have hl : aMlx.length = 295 := by decide +kernel
  rw [List.getElem?_append_left (by rw [hl]; omega)] at h1
  exact aCd_all md (List.mem_of_getElem? h1)
theorem aMeth_ok {m : Nat} {md : aMd} (h : aMs m = some md) : aOkY m = true ∧ aMl[m]? = some md ∧ ∃ q, aMP[m]? = some q := by
  have hm := aMs_mem h
  refine ⟨aOkY_all hm.2, h, ?_⟩
  have hl : m < aMP.length := by rw [aMP_len]; exact hm.2
  exact ⟨_, List.getElem?_eq_getElem hl⟩
theorem aMeth_gen {m : Nat} {md : aMd} (h : aMs m = some md) : md.2.1.cls = aCn md.1 ∧ plainFor md.2.1 = true ∧ md.1 < 16 ∧ md.2.2.2.1 ≤ 40 ∧ aNm m = md.2.1 := by
  obtain ⟨h1, h2, q, h3⟩ := aMeth_ok h
  unfold aOkY at h1
  rw [h3, h2] at h1
  simp only [Bool.and_eq_true, decide_eq_true_eq] at h1
  refine ⟨h1.2.1, h1.2.2.1, Nat.le_of_ble_eq_true h1.2.2.2.1, Nat.le_of_ble_eq_true h1.2.2.2.2, ?_⟩
  unfold aNm
  rw [List.getD_eq_getElem?_getD, h2]
  rfl
theorem aMeth_v {m : Nat} {md : aMd} (h : aMs m = some md) (hk : aMk m = 0) : Cond.instanceMethod md.2.1 ∈ aTs ∧ Cond.selects md.2.1.cls md.2.1 md.2.1 ∈ aTs := by
  obtain ⟨h1, h2, q, h3⟩ := aMeth_ok h
  have hq : q.1 = 0 := by
    unfold aMk at hk
    rw [List.getD_eq_getElem?_getD, h3] at hk
    exact hk
  unfold aOkY at h1
  rw [h3, h2] at h1
  simp only [hq, Bool.and_eq_true] at h1
  exact ⟨aAt_mem h1.1.1, aAt_mem h1.1.2⟩
theorem aMeth_s {m : Nat} {md : aMd} (h : aMs m = some md) (hk : aMk m = 1) : Cond.static md.2.1 ∈ aTs := by
  obtain ⟨h1, h2, q, h3⟩ := aMeth_ok h
  have hq : q.1 = 1 := by
    unfold aMk at hk
    rw [List.getD_eq_getElem?_getD, h3] at hk
    exact hk
  unfold aOkY at h1
  rw [h3, h2] at h1
  simp only [hq, Bool.and_eq_true] at h1
  exact aAt_mem h1.1
theorem aMeth_i {m : Nat} {md : aMd} (h : aMs m = some md) (hk : aMk m = 2) : Cond.instanceMethod md.2.1 ∈ aTs ∧ md.2.1.name = "<init>" ∧ md.2.2.2.2.1 = 0 := by
  obtain ⟨h1, h2, q, h3⟩ := aMeth_ok h
  have hq : q.1 = 2 := by
    unfold aMk at hk
    rw [List.getD_eq_getElem?_getD, h3] at hk
    exact hk
  unfold aOkY at h1
  rw [h3, h2] at h1
  simp only [hq, Bool.and_eq_true, decide_eq_true_eq] at h1
  exact ⟨aAt_mem h1.1.1, h1.1.2.1, Nat.eq_of_beq_eq_true h1.1.2.2⟩
theorem aMk_law : aMk 295 = 3 := by decide +kernel
theorem aMN_law : aMN.all (fun q => Nat.blt q.2.2.1 295) = true := by decide +kernel
