/-! ===== every method's rows are checked ===== -/
theorem hs_ckpb_0 {y : Nat} (h1 : 0 ≤ y) (h2 : y < 16) : hs_ckp y = true := by
  rcases (show y = 0 ∨ y = 1 ∨ y = 2 ∨ y = 3 ∨ y = 4 ∨ y = 5 ∨ y = 6 ∨ y = 7 ∨ y = 8 ∨ y = 9 ∨ y = 10 ∨ y = 11 ∨ y = 12 ∨ y = 13 ∨ y = 14 ∨ y = 15 by omega) with e | e | e | e | e | e | e | e | e | e | e | e | e | e | e | e
  · rw [e]; exact hs_ckp_0
  · rw [e]; exact hs_ckp_1
  · rw [e]; exact hs_ckp_2
  · rw [e]; exact hs_ckp_3
  · rw [e]; exact hs_ckp_4
  · rw [e]; exact hs_ckp_5
  · rw [e]; exact hs_ckp_6
  · rw [e]; exact hs_ckp_7
  · rw [e]; exact hs_ckp_8
  · rw [e]; exact hs_ckp_9
  · rw [e]; exact hs_ckp_10
  · rw [e]; exact hs_ckp_11
  · rw [e]; exact hs_ckp_12
  · rw [e]; exact hs_ckp_13
  · rw [e]; exact hs_ckp_14
  · rw [e]; exact hs_ckp_15
theorem hs_ckpb_16 {y : Nat} (h1 : 16 ≤ y) (h2 : y < 32) : hs_ckp y = true := by
  rcases (show y = 16 ∨ y = 17 ∨ y = 18 ∨ y = 19 ∨ y = 20 ∨ y = 21 ∨ y = 22 ∨ y = 23 ∨ y = 24 ∨ y = 25 ∨ y = 26 ∨ y = 27 ∨ y = 28 ∨ y = 29 ∨ y = 30 ∨ y = 31 by omega) with e | e | e | e | e | e | e | e | e | e | e | e | e | e | e | e
  · rw [e]; exact hs_ckp_16
  · rw [e]; exact hs_ckp_17
  · rw [e]; exact hs_ckp_18
  · rw [e]; exact hs_ckp_19
  · rw [e]; exact hs_ckp_20
  · rw [e]; exact hs_ckp_21
  · rw [e]; exact hs_ckp_22
  · rw [e]; exact hs_ckp_23
  · rw [e]; exact hs_ckp_24
  · rw [e]; exact hs_ckp_25
  · rw [e]; exact hs_ckp_26
  · rw [e]; exact hs_ckp_27
  · rw [e]; exact hs_ckp_28
  · rw [e]; exact hs_ckp_29
  · rw [e]; exact hs_ckp_30
  · rw [e]; exact hs_ckp_31
theorem hs_ckpb_32 {y : Nat} (h1 : 32 ≤ y) (h2 : y < 48) : hs_ckp y = true := by
  rcases (show y = 32 ∨ y = 33 ∨ y = 34 ∨ y = 35 ∨ y = 36 ∨ y = 37 ∨ y = 38 ∨ y = 39 ∨ y = 40 ∨ y = 41 ∨ y = 42 ∨ y = 43 ∨ y = 44 ∨ y = 45 ∨ y = 46 ∨ y = 47 by omega) with e | e | e | e | e | e | e | e | e | e | e | e | e | e | e | e
  · rw [e]; exact hs_ckp_32
  · rw [e]; exact hs_ckp_33
  · rw [e]; exact hs_ckp_34
  · rw [e]; exact hs_ckp_35
  · rw [e]; exact hs_ckp_36
  · rw [e]; exact hs_ckp_37
  · rw [e]; exact hs_ckp_38
  · rw [e]; exact hs_ckp_39
  · rw [e]; exact hs_ckp_40
  · rw [e]; exact hs_ckp_41
  · rw [e]; exact hs_ckp_42
  · rw [e]; exact hs_ckp_43
  · rw [e]; exact hs_ckp_44
  · rw [e]; exact hs_ckp_45
  · rw [e]; exact hs_ckp_46
  · rw [e]; exact hs_ckp_47
theorem hs_ckpb_48 {y : Nat} (h1 : 48 ≤ y) (h2 : y < 64) : hs_ckp y = true := by
  rcases (show y = 48 ∨ y = 49 ∨ y = 50 ∨ y = 51 ∨ y = 52 ∨ y = 53 ∨ y = 54 ∨ y = 55 ∨ y = 56 ∨ y = 57 ∨ y = 58 ∨ y = 59 ∨ y = 60 ∨ y = 61 ∨ y = 62 ∨ y = 63 by omega) with e | e | e | e | e | e | e | e | e | e | e | e | e | e | e | e
  · rw [e]; exact hs_ckp_48
  · rw [e]; exact hs_ckp_49
  · rw [e]; exact hs_ckp_50
  · rw [e]; exact hs_ckp_51
  · rw [e]; exact hs_ckp_52
  · rw [e]; exact hs_ckp_53
  · rw [e]; exact hs_ckp_54
  · rw [e]; exact hs_ckp_55
  · rw [e]; exact hs_ckp_56
  · rw [e]; exact hs_ckp_57
  · rw [e]; exact hs_ckp_58
  · rw [e]; exact hs_ckp_59
  · rw [e]; exact hs_ckp_60
  · rw [e]; exact hs_ckp_61
  · rw [e]; exact hs_ckp_62
  · rw [e]; exact hs_ckp_63
theorem hs_ckpb_64 {y : Nat} (h1 : 64 ≤ y) (h2 : y < 80) : hs_ckp y = true := by
  rcases (show y = 64 ∨ y = 65 ∨ y = 66 ∨ y = 67 ∨ y = 68 ∨ y = 69 ∨ y = 70 ∨ y = 71 ∨ y = 72 ∨ y = 73 ∨ y = 74 ∨ y = 75 ∨ y = 76 ∨ y = 77 ∨ y = 78 ∨ y = 79 by omega) with e | e | e | e | e | e | e | e | e | e | e | e | e | e | e | e
  · rw [e]; exact hs_ckp_64
  · rw [e]; exact hs_ckp_65
  · rw [e]; exact hs_ckp_66
  · rw [e]; exact hs_ckp_67
  · rw [e]; exact hs_ckp_68
  · rw [e]; exact hs_ckp_69
  · rw [e]; exact hs_ckp_70
  · rw [e]; exact hs_ckp_71
  · rw [e]; exact hs_ckp_72
  · rw [e]; exact hs_ckp_73
  · rw [e]; exact hs_ckp_74
  · rw [e]; exact hs_ckp_75
  · rw [e]; exact hs_ckp_76
  · rw [e]; exact hs_ckp_77
  · rw [e]; exact hs_ckp_78
  · rw [e]; exact hs_ckp_79
theorem hs_ckpb_80 {y : Nat} (h1 : 80 ≤ y) (h2 : y < 96) : hs_ckp y = true := by
  rcases (show y = 80 ∨ y = 81 ∨ y = 82 ∨ y = 83 ∨ y = 84 ∨ y = 85 ∨ y = 86 ∨ y = 87 ∨ y = 88 ∨ y = 89 ∨ y = 90 ∨ y = 91 ∨ y = 92 ∨ y = 93 ∨ y = 94 ∨ y = 95 by omega) with e | e | e | e | e | e | e | e | e | e | e | e | e | e | e | e
  · rw [e]; exact hs_ckp_80
  · rw [e]; exact hs_ckp_81
  · rw [e]; exact hs_ckp_82
  · rw [e]; exact hs_ckp_83
  · rw [e]; exact hs_ckp_84
  · rw [e]; exact hs_ckp_85
  · rw [e]; exact hs_ckp_86
  · rw [e]; exact hs_ckp_87
  · rw [e]; exact hs_ckp_88
  · rw [e]; exact hs_ckp_89
  · rw [e]; exact hs_ckp_90
  · rw [e]; exact hs_ckp_91
  · rw [e]; exact hs_ckp_92
  · rw [e]; exact hs_ckp_93
  · rw [e]; exact hs_ckp_94
  · rw [e]; exact hs_ckp_95
theorem hs_ckpb_96 {y : Nat} (h1 : 96 ≤ y) (h2 : y < 112) : hs_ckp y = true := by
  rcases (show y = 96 ∨ y = 97 ∨ y = 98 ∨ y = 99 ∨ y = 100 ∨ y = 101 ∨ y = 102 ∨ y = 103 ∨ y = 104 ∨ y = 105 ∨ y = 106 ∨ y = 107 ∨ y = 108 ∨ y = 109 ∨ y = 110 ∨ y = 111 by omega) with e | e | e | e | e | e | e | e | e | e | e | e | e | e | e | e
  · rw [e]; exact hs_ckp_96
  · rw [e]; exact hs_ckp_97
  · rw [e]; exact hs_ckp_98
  · rw [e]; exact hs_ckp_99
  · rw [e]; exact hs_ckp_100
  · rw [e]; exact hs_ckp_101
  · rw [e]; exact hs_ckp_102
  · rw [e]; exact hs_ckp_103
  · rw [e]; exact hs_ckp_104
  · rw [e]; exact hs_ckp_105
  · rw [e]; exact hs_ckp_106
  · rw [e]; exact hs_ckp_107
  · rw [e]; exact hs_ckp_108
  · rw [e]; exact hs_ckp_109
  · rw [e]; exact hs_ckp_110
  · rw [e]; exact hs_ckp_111
theorem hs_ckpb_112 {y : Nat} (h1 : 112 ≤ y) (h2 : y < 128) : hs_ckp y = true := by
  rcases (show y = 112 ∨ y = 113 ∨ y = 114 ∨ y = 115 ∨ y = 116 ∨ y = 117 ∨ y = 118 ∨ y = 119 ∨ y = 120 ∨ y = 121 ∨ y = 122 ∨ y = 123 ∨ y = 124 ∨ y = 125 ∨ y = 126 ∨ y = 127 by omega) with e | e | e | e | e | e | e | e | e | e | e | e | e | e | e | e
  · rw [e]; exact hs_ckp_112
  · rw [e]; exact hs_ckp_113
  · rw [e]; exact hs_ckp_114
  · rw [e]; exact hs_ckp_115
  · rw [e]; exact hs_ckp_116
  · rw [e]; exact hs_ckp_117
  · rw [e]; exact hs_ckp_118
  · rw [e]; exact hs_ckp_119
  · rw [e]; exact hs_ckp_120
  · rw [e]; exact hs_ckp_121
  · rw [e]; exact hs_ckp_122
  · rw [e]; exact hs_ckp_123
  · rw [e]; exact hs_ckp_124
  · rw [e]; exact hs_ckp_125
  · rw [e]; exact hs_ckp_126
  · rw [e]; exact hs_ckp_127
theorem hs_ckpb_128 {y : Nat} (h1 : 128 ≤ y) (h2 : y < 144) : hs_ckp y = true := by
  rcases (show y = 128 ∨ y = 129 ∨ y = 130 ∨ y = 131 ∨ y = 132 ∨ y = 133 ∨ y = 134 ∨ y = 135 ∨ y = 136 ∨ y = 137 ∨ y = 138 ∨ y = 139 ∨ y = 140 ∨ y = 141 ∨ y = 142 ∨ y = 143 by omega) with e | e | e | e | e | e | e | e | e | e | e | e | e | e | e | e
  · rw [e]; exact hs_ckp_128
  · rw [e]; exact hs_ckp_129
  · rw [e]; exact hs_ckp_130
  · rw [e]; exact hs_ckp_131
  · rw [e]; exact hs_ckp_132
  · rw [e]; exact hs_ckp_133
  · rw [e]; exact hs_ckp_134
  · rw [e]; exact hs_ckp_135
  · rw [e]; exact hs_ckp_136
  · rw [e]; exact hs_ckp_137
  · rw [e]; exact hs_ckp_138
  · rw [e]; exact hs_ckp_139
  · rw [e]; exact hs_ckp_140
  · rw [e]; exact hs_ckp_141
  · rw [e]; exact hs_ckp_142
  · rw [e]; exact hs_ckp_143
theorem hs_ckpb_144 {y : Nat} (h1 : 144 ≤ y) (h2 : y < 160) : hs_ckp y = true := by
  rcases (show y = 144 ∨ y = 145 ∨ y = 146 ∨ y = 147 ∨ y = 148 ∨ y = 149 ∨ y = 150 ∨ y = 151 ∨ y = 152 ∨ y = 153 ∨ y = 154 ∨ y = 155 ∨ y = 156 ∨ y = 157 ∨ y = 158 ∨ y = 159 by omega) with e | e | e | e | e | e | e | e | e | e | e | e | e | e | e | e
  · rw [e]; exact hs_ckp_144
  · rw [e]; exact hs_ckp_145
  · rw [e]; exact hs_ckp_146
  · rw [e]; exact hs_ckp_147
  · rw [e]; exact hs_ckp_148
  · rw [e]; exact hs_ckp_149
  · rw [e]; exact hs_ckp_150
  · rw [e]; exact hs_ckp_151
  · rw [e]; exact hs_ckp_152
  · rw [e]; exact hs_ckp_153
  · rw [e]; exact hs_ckp_154
  · rw [e]; exact hs_ckp_155
  · rw [e]; exact hs_ckp_156
  · rw [e]; exact hs_ckp_157
  · rw [e]; exact hs_ckp_158
  · rw [e]; exact hs_ckp_159
theorem hs_ckpb_160 {y : Nat} (h1 : 160 ≤ y) (h2 : y < 176) : hs_ckp y = true := by
  rcases (show y = 160 ∨ y = 161 ∨ y = 162 ∨ y = 163 ∨ y = 164 ∨ y = 165 ∨ y = 166 ∨ y = 167 ∨ y = 168 ∨ y = 169 ∨ y = 170 ∨ y = 171 ∨ y = 172 ∨ y = 173 ∨ y = 174 ∨ y = 175 by omega) with e | e | e | e | e | e | e | e | e | e | e | e | e | e | e | e
  · rw [e]; exact hs_ckp_160
  · rw [e]; exact hs_ckp_161
  · rw [e]; exact hs_ckp_162
  · rw [e]; exact hs_ckp_163
  · rw [e]; exact hs_ckp_164
  · rw [e]; exact hs_ckp_165
  · rw [e]; exact hs_ckp_166
  · rw [e]; exact hs_ckp_167
  · rw [e]; exact hs_ckp_168
  · rw [e]; exact hs_ckp_169
  · rw [e]; exact hs_ckp_170
  · rw [e]; exact hs_ckp_171
  · rw [e]; exact hs_ckp_172
  · rw [e]; exact hs_ckp_173
  · rw [e]; exact hs_ckp_174
  · rw [e]; exact hs_ckp_175
theorem hs_ckpb_176 {y : Nat} (h1 : 176 ≤ y) (h2 : y < 192) : hs_ckp y = true := by
  rcases (show y = 176 ∨ y = 177 ∨ y = 178 ∨ y = 179 ∨ y = 180 ∨ y = 181 ∨ y = 182 ∨ y = 183 ∨ y = 184 ∨ y = 185 ∨ y = 186 ∨ y = 187 ∨ y = 188 ∨ y = 189 ∨ y = 190 ∨ y = 191 by omega) with e | e | e | e | e | e | e | e | e | e | e | e | e | e | e | e
  · rw [e]; exact hs_ckp_176
  · rw [e]; exact hs_ckp_177
  · rw [e]; exact hs_ckp_178
  · rw [e]; exact hs_ckp_179
  · rw [e]; exact hs_ckp_180
  · rw [e]; exact hs_ckp_181
  · rw [e]; exact hs_ckp_182
  · rw [e]; exact hs_ckp_183
  · rw [e]; exact hs_ckp_184
  · rw [e]; exact hs_ckp_185
  · rw [e]; exact hs_ckp_186
  · rw [e]; exact hs_ckp_187
  · rw [e]; exact hs_ckp_188
  · rw [e]; exact hs_ckp_189
  · rw [e]; exact hs_ckp_190
  · rw [e]; exact hs_ckp_191
theorem hs_ckpb_192 {y : Nat} (h1 : 192 ≤ y) (h2 : y < 208) : hs_ckp y = true := by
  rcases (show y = 192 ∨ y = 193 ∨ y = 194 ∨ y = 195 ∨ y = 196 ∨ y = 197 ∨ y = 198 ∨ y = 199 ∨ y = 200 ∨ y = 201 ∨ y = 202 ∨ y = 203 ∨ y = 204 ∨ y = 205 ∨ y = 206 ∨ y = 207 by omega) with e | e | e | e | e | e | e | e | e | e | e | e | e | e | e | e
  · rw [e]; exact hs_ckp_192
  · rw [e]; exact hs_ckp_193
  · rw [e]; exact hs_ckp_194
  · rw [e]; exact hs_ckp_195
  · rw [e]; exact hs_ckp_196
  · rw [e]; exact hs_ckp_197
  · rw [e]; exact hs_ckp_198
  · rw [e]; exact hs_ckp_199
  · rw [e]; exact hs_ckp_200
  · rw [e]; exact hs_ckp_201
  · rw [e]; exact hs_ckp_202
  · rw [e]; exact hs_ckp_203
  · rw [e]; exact hs_ckp_204
  · rw [e]; exact hs_ckp_205
  · rw [e]; exact hs_ckp_206
  · rw [e]; exact hs_ckp_207
theorem hs_ckpb_208 {y : Nat} (h1 : 208 ≤ y) (h2 : y < 224) : hs_ckp y = true := by
  rcases (show y = 208 ∨ y = 209 ∨ y = 210 ∨ y = 211 ∨ y = 212 ∨ y = 213 ∨ y = 214 ∨ y = 215 ∨ y = 216 ∨ y = 217 ∨ y = 218 ∨ y = 219 ∨ y = 220 ∨ y = 221 ∨ y = 222 ∨ y = 223 by omega) with e | e | e | e | e | e | e | e | e | e | e | e | e | e | e | e
  · rw [e]; exact hs_ckp_208
  · rw [e]; exact hs_ckp_209
  · rw [e]; exact hs_ckp_210
  · rw [e]; exact hs_ckp_211
  · rw [e]; exact hs_ckp_212
  · rw [e]; exact hs_ckp_213
  · rw [e]; exact hs_ckp_214
  · rw [e]; exact hs_ckp_215
  · rw [e]; exact hs_ckp_216
  · rw [e]; exact hs_ckp_217
  · rw [e]; exact hs_ckp_218
  · rw [e]; exact hs_ckp_219
  · rw [e]; exact hs_ckp_220
  · rw [e]; exact hs_ckp_221
  · rw [e]; exact hs_ckp_222
  · rw [e]; exact hs_ckp_223
theorem hs_ckpb_224 {y : Nat} (h1 : 224 ≤ y) (h2 : y < 240) : hs_ckp y = true := by
  rcases (show y = 224 ∨ y = 225 ∨ y = 226 ∨ y = 227 ∨ y = 228 ∨ y = 229 ∨ y = 230 ∨ y = 231 ∨ y = 232 ∨ y = 233 ∨ y = 234 ∨ y = 235 ∨ y = 236 ∨ y = 237 ∨ y = 238 ∨ y = 239 by omega) with e | e | e | e | e | e | e | e | e | e | e | e | e | e | e | e
  · rw [e]; exact hs_ckp_224
  · rw [e]; exact hs_ckp_225
  · rw [e]; exact hs_ckp_226
  · rw [e]; exact hs_ckp_227
  · rw [e]; exact hs_ckp_228
  · rw [e]; exact hs_ckp_229
  · rw [e]; exact hs_ckp_230
  · rw [e]; exact hs_ckp_231
  · rw [e]; exact hs_ckp_232
  · rw [e]; exact hs_ckp_233
  · rw [e]; exact hs_ckp_234
  · rw [e]; exact hs_ckp_235
  · rw [e]; exact hs_ckp_236
  · rw [e]; exact hs_ckp_237
  · rw [e]; exact hs_ckp_238
  · rw [e]; exact hs_ckp_239
theorem hs_ckpb_240 {y : Nat} (h1 : 240 ≤ y) (h2 : y < 256) : hs_ckp y = true := by
  rcases (show y = 240 ∨ y = 241 ∨ y = 242 ∨ y = 243 ∨ y = 244 ∨ y = 245 ∨ y = 246 ∨ y = 247 ∨ y = 248 ∨ y = 249 ∨ y = 250 ∨ y = 251 ∨ y = 252 ∨ y = 253 ∨ y = 254 ∨ y = 255 by omega) with e | e | e | e | e | e | e | e | e | e | e | e | e | e | e | e
  · rw [e]; exact hs_ckp_240
  · rw [e]; exact hs_ckp_241
  · rw [e]; exact hs_ckp_242
  · rw [e]; exact hs_ckp_243
  · rw [e]; exact hs_ckp_244
  · rw [e]; exact hs_ckp_245
  · rw [e]; exact hs_ckp_246
  · rw [e]; exact hs_ckp_247
  · rw [e]; exact hs_ckp_248
  · rw [e]; exact hs_ckp_249
  · rw [e]; exact hs_ckp_250
  · rw [e]; exact hs_ckp_251
  · rw [e]; exact hs_ckp_252
  · rw [e]; exact hs_ckp_253
  · rw [e]; exact hs_ckp_254
  · rw [e]; exact hs_ckp_255
theorem hs_ckpb_256 {y : Nat} (h1 : 256 ≤ y) (h2 : y < 267) : hs_ckp y = true := by
  rcases (show y = 256 ∨ y = 257 ∨ y = 258 ∨ y = 259 ∨ y = 260 ∨ y = 261 ∨ y = 262 ∨ y = 263 ∨ y = 264 ∨ y = 265 ∨ y = 266 by omega) with e | e | e | e | e | e | e | e | e | e | e
  · rw [e]; exact hs_ckp_256
  · rw [e]; exact hs_ckp_257
  · rw [e]; exact hs_ckp_258
  · rw [e]; exact hs_ckp_259
  · rw [e]; exact hs_ckp_260
  · rw [e]; exact hs_ckp_261
  · rw [e]; exact hs_ckp_262
  · rw [e]; exact hs_ckp_263
  · rw [e]; exact hs_ckp_264
  · rw [e]; exact hs_ckp_265
  · rw [e]; exact hs_ckp_266
theorem hs_ckp_all : ∀ y, y < 267 → hs_ckp y = true := by
  intro y hy
  by_cases c0 : y < 16
  · exact hs_ckpb_0 (by omega) c0
  by_cases c16 : y < 32
  · exact hs_ckpb_16 (by omega) c16
  by_cases c32 : y < 48
  · exact hs_ckpb_32 (by omega) c32
  by_cases c48 : y < 64
  · exact hs_ckpb_48 (by omega) c48
  by_cases c64 : y < 80
  · exact hs_ckpb_64 (by omega) c64
  by_cases c80 : y < 96
  · exact hs_ckpb_80 (by omega) c80
  by_cases c96 : y < 112
  · exact hs_ckpb_96 (by omega) c96
  by_cases c112 : y < 128
  · exact hs_ckpb_112 (by omega) c112
  by_cases c128 : y < 144
  · exact hs_ckpb_128 (by omega) c128
  by_cases c144 : y < 160
  · exact hs_ckpb_144 (by omega) c144
  by_cases c160 : y < 176
  · exact hs_ckpb_160 (by omega) c160
  by_cases c176 : y < 192
  · exact hs_ckpb_176 (by omega) c176
  by_cases c192 : y < 208
  · exact hs_ckpb_192 (by omega) c192
  by_cases c208 : y < 224
  · exact hs_ckpb_208 (by omega) c208
  by_cases c224 : y < 240
  · exact hs_ckpb_224 (by omega) c224
  by_cases c240 : y < 256
  · exact hs_ckpb_240 (by omega) c240
  by_cases c256 : y < 267
  · exact hs_ckpb_256 (by omega) c256
  omega
