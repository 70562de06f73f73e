theorem e_pmc_0 {y : Nat} (h1 : 0 ≤ y) (h2 : y < 16) : e_prOK y := by
  have h : y = 0 ∨ y = 1 ∨ y = 2 ∨ y = 3 ∨ y = 4 ∨ y = 5 ∨ y = 6 ∨ y = 7 ∨ y = 8 ∨ y = 9 ∨ y = 10 ∨ y = 11 ∨ y = 12 ∨ y = 13 ∨ y = 14 ∨ y = 15 := by omega
  rcases h with rfl | rfl | rfl | rfl | rfl | rfl | rfl | rfl | rfl | rfl | rfl | rfl | rfl | rfl | rfl | rfl
  · exact e_pm_0
  · exact e_pm_1
  · exact e_pm_2
  · exact e_pm_3
  · exact e_pm_4
  · exact e_pm_5
  · exact e_pm_6
  · exact e_pm_7
  · exact e_pm_8
  · exact e_pm_9
  · exact e_pm_10
  · exact e_pm_11
  · exact e_pm_12
  · exact e_pm_13
  · exact e_pm_14
  · exact e_pm_15
theorem e_pmc_1 {y : Nat} (h1 : 16 ≤ y) (h2 : y < 32) : e_prOK y := by
  have h : y = 16 ∨ y = 17 ∨ y = 18 ∨ y = 19 ∨ y = 20 ∨ y = 21 ∨ y = 22 ∨ y = 23 ∨ y = 24 ∨ y = 25 ∨ y = 26 ∨ y = 27 ∨ y = 28 ∨ y = 29 ∨ y = 30 ∨ y = 31 := by omega
  rcases h with rfl | rfl | rfl | rfl | rfl | rfl | rfl | rfl | rfl | rfl | rfl | rfl | rfl | rfl | rfl | rfl
  · exact e_pm_16
  · exact e_pm_17
  · exact e_pm_18
  · exact e_pm_19
  · exact e_pm_20
  · exact e_pm_21
  · exact e_pm_22
  · exact e_pm_23
  · exact e_pm_24
  · exact e_pm_25
  · exact e_pm_26
  · exact e_pm_27
  · exact e_pm_28
  · exact e_pm_29
  · exact e_pm_30
  · exact e_pm_31
theorem e_pmc_2 {y : Nat} (h1 : 32 ≤ y) (h2 : y < 48) : e_prOK y := by
  have h : y = 32 ∨ y = 33 ∨ y = 34 ∨ y = 35 ∨ y = 36 ∨ y = 37 ∨ y = 38 ∨ y = 39 ∨ y = 40 ∨ y = 41 ∨ y = 42 ∨ y = 43 ∨ y = 44 ∨ y = 45 ∨ y = 46 ∨ y = 47 := by omega
  rcases h with rfl | rfl | rfl | rfl | rfl | rfl | rfl | rfl | rfl | rfl | rfl | rfl | rfl | rfl | rfl | rfl
  · exact e_pm_32
  · exact e_pm_33
  · exact e_pm_34
  · exact e_pm_35
  · exact e_pm_36
  · exact e_pm_37
  · exact e_pm_38
  · exact e_pm_39
  · exact e_pm_40
  · exact e_pm_41
  · exact e_pm_42
  · exact e_pm_43
  · exact e_pm_44
  · exact e_pm_45
  · exact e_pm_46
  · exact e_pm_47
theorem e_pmc_3 {y : Nat} (h1 : 48 ≤ y) (h2 : y < 64) : e_prOK y := by
  have h : y = 48 ∨ y = 49 ∨ y = 50 ∨ y = 51 ∨ y = 52 ∨ y = 53 ∨ y = 54 ∨ y = 55 ∨ y = 56 ∨ y = 57 ∨ y = 58 ∨ y = 59 ∨ y = 60 ∨ y = 61 ∨ y = 62 ∨ y = 63 := by omega
  rcases h with rfl | rfl | rfl | rfl | rfl | rfl | rfl | rfl | rfl | rfl | rfl | rfl | rfl | rfl | rfl | rfl
  · exact e_pm_48
  · exact e_pm_49
  · exact e_pm_50
  · exact e_pm_51
  · exact e_pm_52
  · exact e_pm_53
  · exact e_pm_54
  · exact e_pm_55
  · exact e_pm_56
  · exact e_pm_57
  · exact e_pm_58
  · exact e_pm_59
  · exact e_pm_60
  · exact e_pm_61
  · exact e_pm_62
  · exact e_pm_63
theorem e_pmc_4 {y : Nat} (h1 : 64 ≤ y) (h2 : y < 80) : e_prOK y := by
  have h : y = 64 ∨ y = 65 ∨ y = 66 ∨ y = 67 ∨ y = 68 ∨ y = 69 ∨ y = 70 ∨ y = 71 ∨ y = 72 ∨ y = 73 ∨ y = 74 ∨ y = 75 ∨ y = 76 ∨ y = 77 ∨ y = 78 ∨ y = 79 := by omega
  rcases h with rfl | rfl | rfl | rfl | rfl | rfl | rfl | rfl | rfl | rfl | rfl | rfl | rfl | rfl | rfl | rfl
  · exact e_pm_64
  · exact e_pm_65
  · exact e_pm_66
  · exact e_pm_67
  · exact e_pm_68
  · exact e_pm_69
  · exact e_pm_70
  · exact e_pm_71
  · exact e_pm_72
  · exact e_pm_73
  · exact e_pm_74
  · exact e_pm_75
  · exact e_pm_76
  · exact e_pm_77
  · exact e_pm_78
  · exact e_pm_79
theorem e_pmc_5 {y : Nat} (h1 : 80 ≤ y) (h2 : y < 96) : e_prOK y := by
  have h : y = 80 ∨ y = 81 ∨ y = 82 ∨ y = 83 ∨ y = 84 ∨ y = 85 ∨ y = 86 ∨ y = 87 ∨ y = 88 ∨ y = 89 ∨ y = 90 ∨ y = 91 ∨ y = 92 ∨ y = 93 ∨ y = 94 ∨ y = 95 := by omega
  rcases h with rfl | rfl | rfl | rfl | rfl | rfl | rfl | rfl | rfl | rfl | rfl | rfl | rfl | rfl | rfl | rfl
  · exact e_pm_80
  · exact e_pm_81
  · exact e_pm_82
  · exact e_pm_83
  · exact e_pm_84
  · exact e_pm_85
  · exact e_pm_86
  · exact e_pm_87
  · exact e_pm_88
  · exact e_pm_89
  · exact e_pm_90
  · exact e_pm_91
  · exact e_pm_92
  · exact e_pm_93
  · exact e_pm_94
  · exact e_pm_95
theorem e_pmc_6 {y : Nat} (h1 : 96 ≤ y) (h2 : y < 112) : e_prOK y := by
  have h : y = 96 ∨ y = 97 ∨ y = 98 ∨ y = 99 ∨ y = 100 ∨ y = 101 ∨ y = 102 ∨ y = 103 ∨ y = 104 ∨ y = 105 ∨ y = 106 ∨ y = 107 ∨ y = 108 ∨ y = 109 ∨ y = 110 ∨ y = 111 := by omega
  rcases h with rfl | rfl | rfl | rfl | rfl | rfl | rfl | rfl | rfl | rfl | rfl | rfl | rfl | rfl | rfl | rfl
  · exact e_pm_96
  · exact e_pm_97
  · exact e_pm_98
  · exact e_pm_99
  · exact e_pm_100
  · exact e_pm_101
  · exact e_pm_102
  · exact e_pm_103
  · exact e_pm_104
  · exact e_pm_105
  · exact e_pm_106
  · exact e_pm_107
  · exact e_pm_108
  · exact e_pm_109
  · exact e_pm_110
  · exact e_pm_111
theorem e_pmc_7 {y : Nat} (h1 : 112 ≤ y) (h2 : y < 128) : e_prOK y := by
  have h : y = 112 ∨ y = 113 ∨ y = 114 ∨ y = 115 ∨ y = 116 ∨ y = 117 ∨ y = 118 ∨ y = 119 ∨ y = 120 ∨ y = 121 ∨ y = 122 ∨ y = 123 ∨ y = 124 ∨ y = 125 ∨ y = 126 ∨ y = 127 := by omega
  rcases h with rfl | rfl | rfl | rfl | rfl | rfl | rfl | rfl | rfl | rfl | rfl | rfl | rfl | rfl | rfl | rfl
  · exact e_pm_112
  · exact e_pm_113
  · exact e_pm_114
  · exact e_pm_115
  · exact e_pm_116
  · exact e_pm_117
  · exact e_pm_118
  · exact e_pm_119
  · exact e_pm_120
  · exact e_pm_121
  · exact e_pm_122
  · exact e_pm_123
  · exact e_pm_124
  · exact e_pm_125
  · exact e_pm_126
  · exact e_pm_127
theorem e_pmc_8 {y : Nat} (h1 : 128 ≤ y) (h2 : y < 144) : e_prOK y := by
  have h : y = 128 ∨ y = 129 ∨ y = 130 ∨ y = 131 ∨ y = 132 ∨ y = 133 ∨ y = 134 ∨ y = 135 ∨ y = 136 ∨ y = 137 ∨ y = 138 ∨ y = 139 ∨ y = 140 ∨ y = 141 ∨ y = 142 ∨ y = 143 := by omega
  rcases h with rfl | rfl | rfl | rfl | rfl | rfl | rfl | rfl | rfl | rfl | rfl | rfl | rfl | rfl | rfl | rfl
  · exact e_pm_128
  · exact e_pm_129
  · exact e_pm_130
  · exact e_pm_131
  · exact e_pm_132
  · exact e_pm_133
  · exact e_pm_134
  · exact e_pm_135
  · exact e_pm_136
  · exact e_pm_137
  · exact e_pm_138
  · exact e_pm_139
  · exact e_pm_140
  · exact e_pm_141
  · exact e_pm_142
  · exact e_pm_143
theorem e_pmc_9 {y : Nat} (h1 : 144 ≤ y) (h2 : y < 160) : e_prOK y := by
  have h : y = 144 ∨ y = 145 ∨ y = 146 ∨ y = 147 ∨ y = 148 ∨ y = 149 ∨ y = 150 ∨ y = 151 ∨ y = 152 ∨ y = 153 ∨ y = 154 ∨ y = 155 ∨ y = 156 ∨ y = 157 ∨ y = 158 ∨ y = 159 := by omega
  rcases h with rfl | rfl | rfl | rfl | rfl | rfl | rfl | rfl | rfl | rfl | rfl | rfl | rfl | rfl | rfl | rfl
  · exact e_pm_144
  · exact e_pm_145
  · exact e_pm_146
  · exact e_pm_147
  · exact e_pm_148
  · exact e_pm_149
  · exact e_pm_150
  · exact e_pm_151
  · exact e_pm_152
  · exact e_pm_153
  · exact e_pm_154
  · exact e_pm_155
  · exact e_pm_156
  · exact e_pm_157
  · exact e_pm_158
  · exact e_pm_159
theorem e_pmc_10 {y : Nat} (h1 : 160 ≤ y) (h2 : y < 176) : e_prOK y := by
  have h : y = 160 ∨ y = 161 ∨ y = 162 ∨ y = 163 ∨ y = 164 ∨ y = 165 ∨ y = 166 ∨ y = 167 ∨ y = 168 ∨ y = 169 ∨ y = 170 ∨ y = 171 ∨ y = 172 ∨ y = 173 ∨ y = 174 ∨ y = 175 := by omega
  rcases h with rfl | rfl | rfl | rfl | rfl | rfl | rfl | rfl | rfl | rfl | rfl | rfl | rfl | rfl | rfl | rfl
  · exact e_pm_160
  · exact e_pm_161
  · exact e_pm_162
  · exact e_pm_163
  · exact e_pm_164
  · exact e_pm_165
  · exact e_pm_166
  · exact e_pm_167
  · exact e_pm_168
  · exact e_pm_169
  · exact e_pm_170
  · exact e_pm_171
  · exact e_pm_172
  · exact e_pm_173
  · exact e_pm_174
  · exact e_pm_175
theorem e_pmc_11 {y : Nat} (h1 : 176 ≤ y) (h2 : y < 192) : e_prOK y := by
  have h : y = 176 ∨ y = 177 ∨ y = 178 ∨ y = 179 ∨ y = 180 ∨ y = 181 ∨ y = 182 ∨ y = 183 ∨ y = 184 ∨ y = 185 ∨ y = 186 ∨ y = 187 ∨ y = 188 ∨ y = 189 ∨ y = 190 ∨ y = 191 := by omega
  rcases h with rfl | rfl | rfl | rfl | rfl | rfl | rfl | rfl | rfl | rfl | rfl | rfl | rfl | rfl | rfl | rfl
  · exact e_pm_176
  · exact e_pm_177
  · exact e_pm_178
  · exact e_pm_179
  · exact e_pm_180
  · exact e_pm_181
  · exact e_pm_182
  · exact e_pm_183
  · exact e_pm_184
  · exact e_pm_185
  · exact e_pm_186
  · exact e_pm_187
  · exact e_pm_188
  · exact e_pm_189
  · exact e_pm_190
  · exact e_pm_191
theorem e_pmc_12 {y : Nat} (h1 : 192 ≤ y) (h2 : y < 208) : e_prOK y := by
  have h : y = 192 ∨ y = 193 ∨ y = 194 ∨ y = 195 ∨ y = 196 ∨ y = 197 ∨ y = 198 ∨ y = 199 ∨ y = 200 ∨ y = 201 ∨ y = 202 ∨ y = 203 ∨ y = 204 ∨ y = 205 ∨ y = 206 ∨ y = 207 := by omega
  rcases h with rfl | rfl | rfl | rfl | rfl | rfl | rfl | rfl | rfl | rfl | rfl | rfl | rfl | rfl | rfl | rfl
  · exact e_pm_192
  · exact e_pm_193
  · exact e_pm_194
  · exact e_pm_195
  · exact e_pm_196
  · exact e_pm_197
  · exact e_pm_198
  · exact e_pm_199
  · exact e_pm_200
  · exact e_pm_201
  · exact e_pm_202
  · exact e_pm_203
  · exact e_pm_204
  · exact e_pm_205
  · exact e_pm_206
  · exact e_pm_207
theorem e_pmc_13 {y : Nat} (h1 : 208 ≤ y) (h2 : y < 224) : e_prOK y := by
  have h : y = 208 ∨ y = 209 ∨ y = 210 ∨ y = 211 ∨ y = 212 ∨ y = 213 ∨ y = 214 ∨ y = 215 ∨ y = 216 ∨ y = 217 ∨ y = 218 ∨ y = 219 ∨ y = 220 ∨ y = 221 ∨ y = 222 ∨ y = 223 := by omega
  rcases h with rfl | rfl | rfl | rfl | rfl | rfl | rfl | rfl | rfl | rfl | rfl | rfl | rfl | rfl | rfl | rfl
  · exact e_pm_208
  · exact e_pm_209
  · exact e_pm_210
  · exact e_pm_211
  · exact e_pm_212
  · exact e_pm_213
  · exact e_pm_214
  · exact e_pm_215
  · exact e_pm_216
  · exact e_pm_217
  · exact e_pm_218
  · exact e_pm_219
  · exact e_pm_220
  · exact e_pm_221
  · exact e_pm_222
  · exact e_pm_223
theorem e_pmc_14 {y : Nat} (h1 : 224 ≤ y) (h2 : y < 240) : e_prOK y := by
  have h : y = 224 ∨ y = 225 ∨ y = 226 ∨ y = 227 ∨ y = 228 ∨ y = 229 ∨ y = 230 ∨ y = 231 ∨ y = 232 ∨ y = 233 ∨ y = 234 ∨ y = 235 ∨ y = 236 ∨ y = 237 ∨ y = 238 ∨ y = 239 := by omega
  rcases h with rfl | rfl | rfl | rfl | rfl | rfl | rfl | rfl | rfl | rfl | rfl | rfl | rfl | rfl | rfl | rfl
  · exact e_pm_224
  · exact e_pm_225
  · exact e_pm_226
  · exact e_pm_227
  · exact e_pm_228
  · exact e_pm_229
  · exact e_pm_230
  · exact e_pm_231
  · exact e_pm_232
  · exact e_pm_233
  · exact e_pm_234
  · exact e_pm_235
  · exact e_pm_236
  · exact e_pm_237
  · exact e_pm_238
  · exact e_pm_239
theorem e_pmc_15 {y : Nat} (h1 : 240 ≤ y) (h2 : y < 256) : e_prOK y := by
  have h : y = 240 ∨ y = 241 ∨ y = 242 ∨ y = 243 ∨ y = 244 ∨ y = 245 ∨ y = 246 ∨ y = 247 ∨ y = 248 ∨ y = 249 ∨ y = 250 ∨ y = 251 ∨ y = 252 ∨ y = 253 ∨ y = 254 ∨ y = 255 := by omega
  rcases h with rfl | rfl | rfl | rfl | rfl | rfl | rfl | rfl | rfl | rfl | rfl | rfl | rfl | rfl | rfl | rfl
  · exact e_pm_240
  · exact e_pm_241
  · exact e_pm_242
  · exact e_pm_243
  · exact e_pm_244
  · exact e_pm_245
  · exact e_pm_246
  · exact e_pm_247
  · exact e_pm_248
  · exact e_pm_249
  · exact e_pm_250
  · exact e_pm_251
  · exact e_pm_252
  · exact e_pm_253
  · exact e_pm_254
  · exact e_pm_255
theorem e_pmc_16 {y : Nat} (h1 : 256 ≤ y) (h2 : y < 269) : e_prOK y := by
  have h : y = 256 ∨ y = 257 ∨ y = 258 ∨ y = 259 ∨ y = 260 ∨ y = 261 ∨ y = 262 ∨ y = 263 ∨ y = 264 ∨ y = 265 ∨ y = 266 ∨ y = 267 ∨ y = 268 := by omega
  rcases h with rfl | rfl | rfl | rfl | rfl | rfl | rfl | rfl | rfl | rfl | rfl | rfl | rfl
  · exact e_pm_256
  · exact e_pm_257
  · exact e_pm_258
  · exact e_pm_259
  · exact e_pm_260
  · exact e_pm_261
  · exact e_pm_262
  · exact e_pm_263
  · exact e_pm_264
  · exact e_pm_265
  · exact e_pm_266
  · exact e_pm_267
  · exact e_pm_268
theorem e_pm_all {y : Nat} (h : y < 269) : e_prOK y := by
  rcases Nat.lt_or_ge y 16 with g0 | g0
  · exact e_pmc_0 (by omega) (by omega)
  rcases Nat.lt_or_ge y 32 with g16 | g16
  · exact e_pmc_1 (by omega) (by omega)
  rcases Nat.lt_or_ge y 48 with g32 | g32
  · exact e_pmc_2 (by omega) (by omega)
  rcases Nat.lt_or_ge y 64 with g48 | g48
  · exact e_pmc_3 (by omega) (by omega)
  rcases Nat.lt_or_ge y 80 with g64 | g64
  · exact e_pmc_4 (by omega) (by omega)
  rcases Nat.lt_or_ge y 96 with g80 | g80
  · exact e_pmc_5 (by omega) (by omega)
  rcases Nat.lt_or_ge y 112 with g96 | g96
  · exact e_pmc_6 (by omega) (by omega)
  rcases Nat.lt_or_ge y 128 with g112 | g112
  · exact e_pmc_7 (by omega) (by omega)
  rcases Nat.lt_or_ge y 144 with g128 | g128
  · exact e_pmc_8 (by omega) (by omega)
  rcases Nat.lt_or_ge y 160 with g144 | g144
  · exact e_pmc_9 (by omega) (by omega)
  rcases Nat.lt_or_ge y 176 with g160 | g160
  · exact e_pmc_10 (by omega) (by omega)
  rcases Nat.lt_or_ge y 192 with g176 | g176
  · exact e_pmc_11 (by omega) (by omega)
  rcases Nat.lt_or_ge y 208 with g192 | g192
  · exact e_pmc_12 (by omega) (by omega)
  rcases Nat.lt_or_ge y 224 with g208 | g208
  · exact e_pmc_13 (by omega) (by omega)
  rcases Nat.lt_or_ge y 240 with g224 | g224
  · exact e_pmc_14 (by omega) (by omega)
  rcases Nat.lt_or_ge y 256 with g240 | g240
  · exact e_pmc_15 (by omega) (by omega)
  rcases Nat.lt_or_ge y 269 with g256 | g256
  · exact e_pmc_16 (by omega) (by omega)
  omega
