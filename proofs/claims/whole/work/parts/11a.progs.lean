/-! every program of the table is the bytecode's; so a run of the small machine is a run of the machine -/
def e_insB (y : Nat) (r : (Nat × e_PI) × (Nat × Instr × Nat)) : Bool := decide (r.1.1 = r.2.1) && decide (decode (e_cd y) r.1.1 = .ok (r.2.2.1, r.2.2.2)) && e_okB y r.1.1 r.1.2.1 r.1.2.2.1 r.1.2.2.2.1 r.1.2.2.2.2.1 r.1.2.2.2.2.2 r.2.2.1 r.2.2.2
def e_prB (y : Nat) (a b : Nat) : Bool := ((((e_pgs.getD y []).zip (e_ins.getD y [])).drop a).take b).all (e_insB y)
def e_prOK (y : Nat) : Prop := ∀ (j : Nat) (r : (Nat × e_PI) × (Nat × Instr × Nat)), ((e_pgs.getD y []).zip (e_ins.getD y []))[j]? = some r → e_insB y r = true
theorem e_pr_0 : (e_prB 0 0 41 && e_prB 1 0 4 && e_prB 2 0 8 && e_prB 3 0 3 && e_prB 4 0 3) = true := by decide +kernel
theorem e_pr_1 : (e_prB 5 0 41) = true := by decide +kernel
theorem e_pr_2 : (e_prB 6 0 60 && e_prB 6 60 8) = true := by decide +kernel
theorem e_pr_3 : (e_prB 7 0 25) = true := by decide +kernel
theorem e_pr_4 : (e_prB 8 0 46 && e_prB 9 0 19) = true := by decide +kernel
theorem e_pr_5 : (e_prB 10 0 14 && e_prB 11 0 16 && e_prB 12 0 16) = true := by decide +kernel
theorem e_pr_6 : (e_prB 13 0 60) = true := by decide +kernel
theorem e_pr_7 : (e_prB 13 60 13) = true := by decide +kernel
theorem e_pr_8 : (e_prB 14 0 60) = true := by decide +kernel
theorem e_pr_9 : (e_prB 14 60 57 && e_prB 15 0 8) = true := by decide +kernel
theorem e_pr_10 : (e_prB 16 0 60 && e_prB 16 60 1 && e_prB 17 0 6) = true := by decide +kernel
theorem e_pr_11 : (e_prB 18 0 18 && e_prB 19 0 23 && e_prB 20 0 12) = true := by decide +kernel
theorem e_pr_12 : (e_prB 21 0 18 && e_prB 22 0 6 && e_prB 23 0 10 && e_prB 24 0 3 && e_prB 25 0 3 && e_prB 26 0 30) = true := by decide +kernel
theorem e_pr_13 : (e_prB 27 0 39 && e_prB 28 0 11) = true := by decide +kernel
theorem e_pr_14 : (e_prB 29 0 54) = true := by decide +kernel
theorem e_pr_15 : (e_prB 30 0 25 && e_prB 31 0 39) = true := by decide +kernel
theorem e_pr_16 : (e_prB 32 0 24 && e_prB 33 0 10 && e_prB 34 0 31) = true := by decide +kernel
theorem e_pr_17 : (e_prB 35 0 19 && e_prB 36 0 4 && e_prB 37 0 4 && e_prB 38 0 29 && e_prB 39 0 5) = true := by decide +kernel
theorem e_pr_18 : (e_prB 40 0 21 && e_prB 41 0 5 && e_prB 42 0 11 && e_prB 43 0 6 && e_prB 44 0 6 && e_prB 45 0 5 && e_prB 46 0 11) = true := by decide +kernel
theorem e_pr_19 : (e_prB 47 0 42 && e_prB 48 0 25) = true := by decide +kernel
theorem e_pr_20 : (e_prB 49 0 42 && e_prB 50 0 12 && e_prB 51 0 15) = true := by decide +kernel
theorem e_pr_21 : (e_prB 52 0 9 && e_prB 53 0 25 && e_prB 54 0 15) = true := by decide +kernel
theorem e_pr_22 : (e_prB 55 0 22 && e_prB 56 0 10 && e_prB 57 0 10) = true := by decide +kernel
theorem e_pr_23 : (e_prB 58 0 33) = true := by decide +kernel
theorem e_pr_24 : (e_prB 59 0 60) = true := by decide +kernel
theorem e_pr_25 : (e_prB 59 60 48 && e_prB 60 0 18) = true := by decide +kernel
theorem e_pr_26 : (e_prB 61 0 18) = true := by decide +kernel
theorem e_pr_27 : (e_prB 62 0 58 && e_prB 63 0 8) = true := by decide +kernel
theorem e_pr_28 : (e_prB 64 0 6 && e_prB 65 0 29) = true := by decide +kernel
theorem e_pr_29 : (e_prB 66 0 57 && e_prB 67 0 12) = true := by decide +kernel
theorem e_pr_30 : (e_prB 68 0 7 && e_prB 69 0 3 && e_prB 70 0 3 && e_prB 71 0 3 && e_prB 72 0 8 && e_prB 73 0 10 && e_prB 74 0 23) = true := by decide +kernel
theorem e_pr_31 : (e_prB 75 0 30 && e_prB 76 0 26) = true := by decide +kernel
theorem e_pr_32 : (e_prB 77 0 45 && e_prB 78 0 21) = true := by decide +kernel
theorem e_pr_33 : (e_prB 79 0 15 && e_prB 80 0 4 && e_prB 81 0 6 && e_prB 82 0 5 && e_prB 83 0 6 && e_prB 84 0 7 && e_prB 85 0 19 && e_prB 86 0 6) = true := by decide +kernel
theorem e_pr_34 : (e_prB 87 0 23 && e_prB 88 0 21 && e_prB 89 0 12 && e_prB 90 0 13) = true := by decide +kernel
theorem e_pr_35 : (e_prB 91 0 5 && e_prB 92 0 48) = true := by decide +kernel
theorem e_pr_36 : (e_prB 93 0 35) = true := by decide +kernel
theorem e_pr_37 : (e_prB 94 0 55) = true := by decide +kernel
theorem e_pr_38 : (e_prB 95 0 16 && e_prB 96 0 13 && e_prB 97 0 27) = true := by decide +kernel
theorem e_pr_39 : (e_prB 98 0 32 && e_prB 99 0 36) = true := by decide +kernel
theorem e_pr_40 : (e_prB 100 0 27 && e_prB 101 0 19 && e_prB 102 0 12) = true := by decide +kernel
theorem e_pr_41 : (e_prB 103 0 30 && e_prB 104 0 27) = true := by decide +kernel
theorem e_pr_42 : (e_prB 105 0 28 && e_prB 106 0 14) = true := by decide +kernel
theorem e_pr_43 : (e_prB 107 0 60 && e_prB 107 60 5) = true := by decide +kernel
theorem e_pr_44 : (e_prB 108 0 43) = true := by decide +kernel
theorem e_pr_45 : (e_prB 109 0 32 && e_prB 110 0 9 && e_prB 111 0 3 && e_prB 112 0 10 && e_prB 113 0 13) = true := by decide +kernel
theorem e_pr_46 : (e_prB 114 0 18 && e_prB 115 0 16 && e_prB 116 0 12 && e_prB 117 0 15) = true := by decide +kernel
theorem e_pr_47 : (e_prB 118 0 34 && e_prB 119 0 4 && e_prB 120 0 16) = true := by decide +kernel
theorem e_pr_48 : (e_prB 121 0 18 && e_prB 122 0 23 && e_prB 123 0 9 && e_prB 124 0 17) = true := by decide +kernel
theorem e_pr_49 : (e_prB 125 0 10 && e_prB 126 0 14 && e_prB 127 0 17 && e_prB 128 0 18) = true := by decide +kernel
theorem e_pr_50 : (e_prB 129 0 14 && e_prB 130 0 36) = true := by decide +kernel
theorem e_pr_51 : (e_prB 131 0 35 && e_prB 132 0 10 && e_prB 133 0 3 && e_prB 134 0 3 && e_prB 135 0 8) = true := by decide +kernel
theorem e_pr_52 : (e_prB 136 0 12 && e_prB 137 0 11 && e_prB 138 0 5 && e_prB 139 0 9 && e_prB 140 0 9 && e_prB 141 0 17 && e_prB 142 0 6) = true := by decide +kernel
theorem e_pr_53 : (e_prB 143 0 17 && e_prB 144 0 16 && e_prB 145 0 11) = true := by decide +kernel
theorem e_pr_54 : (e_prB 146 0 35 && e_prB 147 0 11 && e_prB 148 0 5) = true := by decide +kernel
theorem e_pr_55 : (e_prB 149 0 27 && e_prB 150 0 25) = true := by decide +kernel
theorem e_pr_56 : (e_prB 151 0 60 && e_prB 151 60 1) = true := by decide +kernel
theorem e_pr_57 : (e_prB 152 0 24 && e_prB 153 0 13) = true := by decide +kernel
theorem e_pr_58 : (e_prB 154 0 44 && e_prB 155 0 17 && e_prB 156 0 9) = true := by decide +kernel
theorem e_pr_59 : (e_prB 157 0 12 && e_prB 158 0 4 && e_prB 159 0 4 && e_prB 160 0 12 && e_prB 161 0 35) = true := by decide +kernel
theorem e_pr_60 : (e_prB 162 0 13 && e_prB 163 0 10 && e_prB 164 0 4 && e_prB 165 0 23) = true := by decide +kernel
theorem e_pr_61 : (e_prB 166 0 26 && e_prB 167 0 5 && e_prB 168 0 19 && e_prB 169 0 4 && e_prB 170 0 14) = true := by decide +kernel
theorem e_pr_62 : (e_prB 171 0 13 && e_prB 172 0 19 && e_prB 173 0 6 && e_prB 174 0 29) = true := by decide +kernel
theorem e_pr_63 : (e_prB 175 0 11 && e_prB 176 0 17 && e_prB 177 0 4 && e_prB 178 0 4 && e_prB 179 0 4 && e_prB 180 0 12) = true := by decide +kernel
theorem e_pr_64 : (e_prB 181 0 29 && e_prB 182 0 4 && e_prB 183 0 4 && e_prB 184 0 18) = true := by decide +kernel
theorem e_pr_65 : (e_prB 185 0 20 && e_prB 186 0 4 && e_prB 187 0 33 && e_prB 188 0 4) = true := by decide +kernel
theorem e_pr_66 : (e_prB 189 0 11) = true := by decide +kernel
theorem e_pr_67 : (e_prB 190 0 60 && e_prB 190 60 2 && e_prB 191 0 6) = true := by decide +kernel
theorem e_pr_68 : (e_prB 192 0 60) = true := by decide +kernel
theorem e_pr_69 : (e_prB 192 60 60 && e_prB 192 120 1) = true := by decide +kernel
theorem e_pr_70 : (e_prB 193 0 12 && e_prB 194 0 7) = true := by decide +kernel
theorem e_pr_71 : (e_prB 195 0 52) = true := by decide +kernel
theorem e_pr_72 : (e_prB 196 0 23 && e_prB 197 0 34) = true := by decide +kernel
theorem e_pr_73 : (e_prB 198 0 29 && e_prB 199 0 16) = true := by decide +kernel
theorem e_pr_74 : (e_prB 200 0 28 && e_prB 201 0 25 && e_prB 202 0 6 && e_prB 203 0 11) = true := by decide +kernel
theorem e_pr_75 : (e_prB 204 0 28 && e_prB 205 0 18) = true := by decide +kernel
theorem e_pr_76 : (e_prB 206 0 59) = true := by decide +kernel
theorem e_pr_77 : (e_prB 207 0 60) = true := by decide +kernel
theorem e_pr_78 : (e_prB 207 60 37 && e_prB 208 0 12 && e_prB 209 0 16 && e_prB 210 0 3) = true := by decide +kernel
theorem e_pr_79 : (e_prB 211 0 3 && e_prB 212 0 10 && e_prB 213 0 11 && e_prB 214 0 35) = true := by decide +kernel
theorem e_pr_80 : (e_prB 215 0 44) = true := by decide +kernel
theorem e_pr_81 : (e_prB 216 0 29) = true := by decide +kernel
theorem e_pr_82 : (e_prB 217 0 55) = true := by decide +kernel
theorem e_pr_83 : (e_prB 218 0 53 && e_prB 219 0 8 && e_prB 220 0 3) = true := by decide +kernel
theorem e_pr_84 : (e_prB 221 0 49 && e_prB 222 0 6) = true := by decide +kernel
theorem e_pr_85 : (e_prB 223 0 60) = true := by decide +kernel
theorem e_pr_86 : (e_prB 223 60 59) = true := by decide +kernel
theorem e_pr_87 : (e_prB 224 0 17) = true := by decide +kernel
theorem e_pr_88 : (e_prB 225 0 60 && e_prB 225 60 8) = true := by decide +kernel
theorem e_pr_89 : (e_prB 226 0 23 && e_prB 227 0 25) = true := by decide +kernel
theorem e_pr_90 : (e_prB 228 0 60) = true := by decide +kernel
theorem e_pr_91 : (e_prB 228 60 31 && e_prB 229 0 3 && e_prB 230 0 10) = true := by decide +kernel
theorem e_pr_92 : (e_prB 231 0 27) = true := by decide +kernel
theorem e_pr_93 : (e_prB 232 0 60) = true := by decide +kernel
theorem e_pr_94 : (e_prB 232 60 57) = true := by decide +kernel
theorem e_pr_95 : (e_prB 233 0 38 && e_prB 234 0 17) = true := by decide +kernel
theorem e_pr_96 : (e_prB 235 0 37) = true := by decide +kernel
theorem e_pr_97 : (e_prB 236 0 60) = true := by decide +kernel
theorem e_pr_98 : (e_prB 236 60 21) = true := by decide +kernel
theorem e_pr_99 : (e_prB 237 0 60 && e_prB 237 60 10) = true := by decide +kernel
theorem e_pr_100 : (e_prB 238 0 60) = true := by decide +kernel
theorem e_pr_101 : (e_prB 238 60 17 && e_prB 239 0 41) = true := by decide +kernel
theorem e_pr_102 : (e_prB 240 0 37) = true := by decide +kernel
theorem e_pr_103 : (e_prB 241 0 60) = true := by decide +kernel
theorem e_pr_104 : (e_prB 241 60 28) = true := by decide +kernel
theorem e_pr_105 : (e_prB 242 0 60 && e_prB 242 60 6 && e_prB 243 0 3) = true := by decide +kernel
theorem e_pr_106 : (e_prB 244 0 60) = true := by decide +kernel
theorem e_pr_107 : (e_prB 245 0 60) = true := by decide +kernel
theorem e_pr_108 : (e_prB 245 60 12 && e_prB 246 0 46) = true := by decide +kernel
theorem e_pr_109 : (e_prB 247 0 60) = true := by decide +kernel
theorem e_pr_110 : (e_prB 247 60 60 && e_prB 247 120 7) = true := by decide +kernel
theorem e_pr_111 : (e_prB 248 0 29 && e_prB 249 0 25) = true := by decide +kernel
theorem e_pr_112 : (e_prB 250 0 28 && e_prB 251 0 8 && e_prB 252 0 33) = true := by decide +kernel
theorem e_pr_113 : (e_prB 253 0 59 && e_prB 254 0 8) = true := by decide +kernel
theorem e_pr_114 : (e_prB 255 0 25 && e_prB 256 0 6) = true := by decide +kernel
theorem e_pr_115 : (e_prB 257 0 60) = true := by decide +kernel
theorem e_pr_116 : (e_prB 257 60 60) = true := by decide +kernel
theorem e_pr_117 : (e_prB 257 120 46) = true := by decide +kernel
theorem e_pr_118 : (e_prB 258 0 49) = true := by decide +kernel
theorem e_pr_119 : (e_prB 259 0 32 && e_prB 260 0 3) = true := by decide +kernel
theorem e_pr_120 : (e_prB 261 0 41) = true := by decide +kernel
theorem e_pr_121 : (e_prB 262 0 60) = true := by decide +kernel
theorem e_pr_122 : (e_prB 262 60 60) = true := by decide +kernel
theorem e_pr_123 : (e_prB 262 120 60) = true := by decide +kernel
theorem e_pr_124 : (e_prB 262 180 60) = true := by decide +kernel
theorem e_pr_125 : (e_prB 262 240 17 && e_prB 263 0 19 && e_prB 264 0 7 && e_prB 265 0 7 && e_prB 266 0 7) = true := by decide +kernel
theorem e_pr_126 : (e_prB 267 0 15) = true := by decide +kernel
theorem e_pr_127 : (e_prB 268 0 60) = true := by decide +kernel
theorem e_pr_128 : (e_prB 268 60 60) = true := by decide +kernel
theorem e_pr_129 : (e_prB 268 120 60) = true := by decide +kernel
theorem e_pr_130 : (e_prB 268 180 60) = true := by decide +kernel
theorem e_pr_131 : (e_prB 268 240 60) = true := by decide +kernel
theorem e_pr_132 : (e_prB 268 300 60) = true := by decide +kernel
theorem e_pr_133 : (e_prB 268 360 60) = true := by decide +kernel
theorem e_pr_134 : (e_prB 268 420 60) = true := by decide +kernel
theorem e_pr_135 : (e_prB 268 480 60) = true := by decide +kernel
theorem e_pr_136 : (e_prB 268 540 60) = true := by decide +kernel
theorem e_pr_137 : (e_prB 268 600 60) = true := by decide +kernel
theorem e_pr_138 : (e_prB 268 660 38) = true := by decide +kernel
