theorem okl_0 : okL 269 0 (pcO 269 0) (cod 269 0) = true := by decide +kernel
theorem okl_1 : okL 269 1 (pcO 269 1) (cod 269 1) = true := by decide +kernel
theorem okl_2 : okL 269 2 (pcO 269 2) (cod 269 2) = true := by decide +kernel
theorem okl_3 : okL 269 3 (pcO 269 3) (cod 269 3) = true := by decide +kernel
theorem okl_4 : okL 269 4 (pcO 269 4) (cod 269 4) = true := by decide +kernel
theorem okl_5 : okL 269 5 (pcO 269 5) (cod 269 5) = true := by decide +kernel
theorem okl_6 : okL 269 6 (pcO 269 6) (cod 269 6) = true := by decide +kernel
theorem okl_7 : okL 269 7 (pcO 269 7) (cod 269 7) = true := by decide +kernel
theorem okl_8 : okL 269 8 (pcO 269 8) (cod 269 8) = true := by decide +kernel
theorem okl_9 : okL 269 9 (pcO 269 9) (cod 269 9) = true := by decide +kernel
theorem okl_10 : okL 269 10 (pcO 269 10) (cod 269 10) = true := by decide +kernel
theorem okl_11 : okL 269 11 (pcO 269 11) (cod 269 11) = true := by decide +kernel
theorem okl_12 : okL 269 12 (pcO 269 12) (cod 269 12) = true := by decide +kernel
theorem okl_13 : okL 269 13 (pcO 269 13) (cod 269 13) = true := by decide +kernel
theorem okl_14 : okL 269 14 (pcO 269 14) (cod 269 14) = true := by decide +kernel
theorem okl_15 : okL 269 15 (pcO 269 15) (cod 269 15) = true := by decide +kernel
theorem okl_16 : okL 269 16 (pcO 269 16) (cod 269 16) = true := by decide +kernel
theorem okl_17 : okL 269 17 (pcO 269 17) (cod 269 17) = true := by decide +kernel
theorem okl_18 : okL 269 18 (pcO 269 18) (cod 269 18) = true := by decide +kernel
theorem okl_19 : okL 269 19 (pcO 269 19) (cod 269 19) = true := by decide +kernel
theorem okl_20 : okL 269 20 (pcO 269 20) (cod 269 20) = true := by decide +kernel
theorem okl_21 : okL 269 21 (pcO 269 21) (cod 269 21) = true := by decide +kernel
theorem okl_22 : okL 269 22 (pcO 269 22) (cod 269 22) = true := by decide +kernel
theorem okl_23 : okL 269 23 (pcO 269 23) (cod 269 23) = true := by decide +kernel
theorem okl_24 : okL 269 24 (pcO 269 24) (cod 269 24) = true := by decide +kernel
theorem okl_25 : okL 269 25 (pcO 269 25) (cod 269 25) = true := by decide +kernel
theorem okl_26 : okL 269 26 (pcO 269 26) (cod 269 26) = true := by decide +kernel
theorem okl_27 : okL 269 27 (pcO 269 27) (cod 269 27) = true := by decide +kernel
theorem okl_28 : okL 269 28 (pcO 269 28) (cod 269 28) = true := by decide +kernel
theorem okl_29 : okL 269 29 (pcO 269 29) (cod 269 29) = true := by decide +kernel
theorem okl_30 : okL 269 30 (pcO 269 30) (cod 269 30) = true := by decide +kernel
theorem okl_31 : okL 269 31 (pcO 269 31) (cod 269 31) = true := by decide +kernel
theorem okl_32 : okL 269 32 (pcO 269 32) (cod 269 32) = true := by decide +kernel
theorem okl_33 : okL 269 33 (pcO 269 33) (cod 269 33) = true := by decide +kernel
theorem okl_34 : okL 269 34 (pcO 269 34) (cod 269 34) = true := by decide +kernel
theorem okl_35 : okL 269 35 (pcO 269 35) (cod 269 35) = true := by decide +kernel
theorem okl_36 : okL 269 36 (pcO 269 36) (cod 269 36) = true := by decide +kernel
theorem okl_37 : okL 269 37 (pcO 269 37) (cod 269 37) = true := by decide +kernel
theorem okl_38 : okL 269 38 (pcO 269 38) (cod 269 38) = true := by decide +kernel
theorem okl_39 : okL 269 39 (pcO 269 39) (cod 269 39) = true := by decide +kernel
theorem okl_40 : okL 269 40 (pcO 269 40) (cod 269 40) = true := by decide +kernel
theorem okl_41 : okL 269 41 (pcO 269 41) (cod 269 41) = true := by decide +kernel
theorem okl_42 : okL 269 42 (pcO 269 42) (cod 269 42) = true := by decide +kernel
theorem okl_43 : okL 269 43 (pcO 269 43) (cod 269 43) = true := by decide +kernel
theorem okl_44 : okL 269 44 (pcO 269 44) (cod 269 44) = true := by decide +kernel
theorem okl_45 : okL 269 45 (pcO 269 45) (cod 269 45) = true := by decide +kernel
theorem okl_46 : okL 269 46 (pcO 269 46) (cod 269 46) = true := by decide +kernel
theorem okl_47 : okL 269 47 (pcO 269 47) (cod 269 47) = true := by decide +kernel
theorem okl_48 : okL 269 48 (pcO 269 48) (cod 269 48) = true := by decide +kernel
theorem okl_49 : okL 269 49 (pcO 269 49) (cod 269 49) = true := by decide +kernel
theorem okl_50 : okL 269 50 (pcO 269 50) (cod 269 50) = true := by decide +kernel
theorem okl_51 : okL 269 51 (pcO 269 51) (cod 269 51) = true := by decide +kernel
theorem okl_52 : okL 269 52 (pcO 269 52) (cod 269 52) = true := by decide +kernel
theorem okl_53 : okL 269 53 (pcO 269 53) (cod 269 53) = true := by decide +kernel
theorem okl_54 : okL 269 54 (pcO 269 54) (cod 269 54) = true := by decide +kernel
theorem okl_55 : okL 269 55 (pcO 269 55) (cod 269 55) = true := by decide +kernel
theorem okl_56 : okL 269 56 (pcO 269 56) (cod 269 56) = true := by decide +kernel
theorem okl_57 : okL 269 57 (pcO 269 57) (cod 269 57) = true := by decide +kernel
theorem okl_58 : okL 269 58 (pcO 269 58) (cod 269 58) = true := by decide +kernel
theorem okl_59 : okL 269 59 (pcO 269 59) (cod 269 59) = true := by decide +kernel
theorem okl_60 : okL 269 60 (pcO 269 60) (cod 269 60) = true := by decide +kernel
theorem okl_61 : okL 269 61 (pcO 269 61) (cod 269 61) = true := by decide +kernel
theorem okl_62 : okL 269 62 (pcO 269 62) (cod 269 62) = true := by decide +kernel
theorem okl_63 : okL 269 63 (pcO 269 63) (cod 269 63) = true := by decide +kernel
theorem okl_64 : okL 269 64 (pcO 269 64) (cod 269 64) = true := by decide +kernel
theorem okl_65 : okL 269 65 (pcO 269 65) (cod 269 65) = true := by decide +kernel
theorem okl_66 : okL 269 66 (pcO 269 66) (cod 269 66) = true := by decide +kernel
theorem okl_67 : okL 269 67 (pcO 269 67) (cod 269 67) = true := by decide +kernel
theorem okl_68 : okL 269 68 (pcO 269 68) (cod 269 68) = true := by decide +kernel
theorem okm_269 : okM 269 = true := by
  unfold okM
  rw [Bool.and_eq_true, List.all_eq_true]
  refine ⟨by decide +kernel, ?_⟩
  intro b hb
  have hb : b < 69 := List.mem_range.mp hb
  exact (match b, hb with
    | 0, _ => okl_0
    | 1, _ => okl_1
    | 2, _ => okl_2
    | 3, _ => okl_3
    | 4, _ => okl_4
    | 5, _ => okl_5
    | 6, _ => okl_6
    | 7, _ => okl_7
    | 8, _ => okl_8
    | 9, _ => okl_9
    | 10, _ => okl_10
    | 11, _ => okl_11
    | 12, _ => okl_12
    | 13, _ => okl_13
    | 14, _ => okl_14
    | 15, _ => okl_15
    | 16, _ => okl_16
    | 17, _ => okl_17
    | 18, _ => okl_18
    | 19, _ => okl_19
    | 20, _ => okl_20
    | 21, _ => okl_21
    | 22, _ => okl_22
    | 23, _ => okl_23
    | 24, _ => okl_24
    | 25, _ => okl_25
    | 26, _ => okl_26
    | 27, _ => okl_27
    | 28, _ => okl_28
    | 29, _ => okl_29
    | 30, _ => okl_30
    | 31, _ => okl_31
    | 32, _ => okl_32
    | 33, _ => okl_33
    | 34, _ => okl_34
    | 35, _ => okl_35
    | 36, _ => okl_36
    | 37, _ => okl_37
    | 38, _ => okl_38
    | 39, _ => okl_39
    | 40, _ => okl_40
    | 41, _ => okl_41
    | 42, _ => okl_42
    | 43, _ => okl_43
    | 44, _ => okl_44
    | 45, _ => okl_45
    | 46, _ => okl_46
    | 47, _ => okl_47
    | 48, _ => okl_48
    | 49, _ => okl_49
    | 50, _ => okl_50
    | 51, _ => okl_51
    | 52, _ => okl_52
    | 53, _ => okl_53
    | 54, _ => okl_54
    | 55, _ => okl_55
    | 56, _ => okl_56
    | 57, _ => okl_57
    | 58, _ => okl_58
    | 59, _ => okl_59
    | 60, _ => okl_60
    | 61, _ => okl_61
    | 62, _ => okl_62
    | 63, _ => okl_63
    | 64, _ => okl_64
    | 65, _ => okl_65
    | 66, _ => okl_66
    | 67, _ => okl_67
    | 68, _ => okl_68
    | k + 69, h => absurd h (by omega))
theorem okm_all : ∀ mi, mi < 270 → okM mi = true
  | 0, _ => okm_0
  | 1, _ => okm_1
  | 2, _ => okm_2
  | 3, _ => okm_3
  | 4, _ => okm_4
  | 5, _ => okm_5
  | 6, _ => okm_6
  | 7, _ => okm_7
  | 8, _ => okm_8
  | 9, _ => okm_9
  | 10, _ => okm_10
  | 11, _ => okm_11
  | 12, _ => okm_12
  | 13, _ => okm_13
  | 14, _ => okm_14
  | 15, _ => okm_15
  | 16, _ => okm_16
  | 17, _ => okm_17
  | 18, _ => okm_18
  | 19, _ => okm_19
  | 20, _ => okm_20
  | 21, _ => okm_21
  | 22, _ => okm_22
  | 23, _ => okm_23
  | 24, _ => okm_24
  | 25, _ => okm_25
  | 26, _ => okm_26
  | 27, _ => okm_27
  | 28, _ => okm_28
  | 29, _ => okm_29
  | 30, _ => okm_30
  | 31, _ => okm_31
  | 32, _ => okm_32
  | 33, _ => okm_33
  | 34, _ => okm_34
  | 35, _ => okm_35
  | 36, _ => okm_36
  | 37, _ => okm_37
  | 38, _ => okm_38
  | 39, _ => okm_39
  | 40, _ => okm_40
  | 41, _ => okm_41
  | 42, _ => okm_42
  | 43, _ => okm_43
  | 44, _ => okm_44
  | 45, _ => okm_45
  | 46, _ => okm_46
  | 47, _ => okm_47
  | 48, _ => okm_48
  | 49, _ => okm_49
  | 50, _ => okm_50
  | 51, _ => okm_51
  | 52, _ => okm_52
  | 53, _ => okm_53
  | 54, _ => okm_54
  | 55, _ => okm_55
  | 56, _ => okm_56
  | 57, _ => okm_57
  | 58, _ => okm_58
  | 59, _ => okm_59
  | 60, _ => okm_60
  | 61, _ => okm_61
  | 62, _ => okm_62
  | 63, _ => okm_63
  | 64, _ => okm_64
  | 65, _ => okm_65
  | 66, _ => okm_66
  | 67, _ => okm_67
  | 68, _ => okm_68
  | 69, _ => okm_69
  | 70, _ => okm_70
  | 71, _ => okm_71
  | 72, _ => okm_72
  | 73, _ => okm_73
  | 74, _ => okm_74
  | 75, _ => okm_75
  | 76, _ => okm_76
  | 77, _ => okm_77
  | 78, _ => okm_78
  | 79, _ => okm_79
  | 80, _ => okm_80
  | 81, _ => okm_81
  | 82, _ => okm_82
  | 83, _ => okm_83
  | 84, _ => okm_84
  | 85, _ => okm_85
  | 86, _ => okm_86
  | 87, _ => okm_87
  | 88, _ => okm_88
  | 89, _ => okm_89
  | 90, _ => okm_90
  | 91, _ => okm_91
  | 92, _ => okm_92
  | 93, _ => okm_93
  | 94, _ => okm_94
  | 95, _ => okm_95
  | 96, _ => okm_96
  | 97, _ => okm_97
  | 98, _ => okm_98
  | 99, _ => okm_99
  | 100, _ => okm_100
  | 101, _ => okm_101
  | 102, _ => okm_102
  | 103, _ => okm_103
  | 104, _ => okm_104
  | 105, _ => okm_105
  | 106, _ => okm_106
  | 107, _ => okm_107
  | 108, _ => okm_108
  | 109, _ => okm_109
  | 110, _ => okm_110
  | 111, _ => okm_111
  | 112, _ => okm_112
  | 113, _ => okm_113
  | 114, _ => okm_114
  | 115, _ => okm_115
  | 116, _ => okm_116
  | 117, _ => okm_117
  | 118, _ => okm_118
  | 119, _ => okm_119
  | 120, _ => okm_120
  | 121, _ => okm_121
  | 122, _ => okm_122
  | 123, _ => okm_123
  | 124, _ => okm_124
  | 125, _ => okm_125
  | 126, _ => okm_126
  | 127, _ => okm_127
  | 128, _ => okm_128
  | 129, _ => okm_129
  | 130, _ => okm_130
  | 131, _ => okm_131
  | 132, _ => okm_132
  | 133, _ => okm_133
  | 134, _ => okm_134
  | 135, _ => okm_135
  | 136, _ => okm_136
  | 137, _ => okm_137
  | 138, _ => okm_138
  | 139, _ => okm_139
  | 140, _ => okm_140
  | 141, _ => okm_141
  | 142, _ => okm_142
  | 143, _ => okm_143
  | 144, _ => okm_144
  | 145, _ => okm_145
  | 146, _ => okm_146
  | 147, _ => okm_147
  | 148, _ => okm_148
  | 149, _ => okm_149
  | 150, _ => okm_150
  | 151, _ => okm_151
  | 152, _ => okm_152
  | 153, _ => okm_153
  | 154, _ => okm_154
  | 155, _ => okm_155
  | 156, _ => okm_156
  | 157, _ => okm_157
  | 158, _ => okm_158
  | 159, _ => okm_159
  | 160, _ => okm_160
  | 161, _ => okm_161
  | 162, _ => okm_162
  | 163, _ => okm_163
  | 164, _ => okm_164
  | 165, _ => okm_165
  | 166, _ => okm_166
  | 167, _ => okm_167
  | 168, _ => okm_168
  | 169, _ => okm_169
  | 170, _ => okm_170
  | 171, _ => okm_171
  | 172, _ => okm_172
  | 173, _ => okm_173
  | 174, _ => okm_174
  | 175, _ => okm_175
  | 176, _ => okm_176
  | 177, _ => okm_177
  | 178, _ => okm_178
  | 179, _ => okm_179
  | 180, _ => okm_180
  | 181, _ => okm_181
  | 182, _ => okm_182
  | 183, _ => okm_183
  | 184, _ => okm_184
  | 185, _ => okm_185
  | 186, _ => okm_186
  | 187, _ => okm_187
  | 188, _ => okm_188
  | 189, _ => okm_189
  | 190, _ => okm_190
  | 191, _ => okm_191
  | 192, _ => okm_192
  | 193, _ => okm_193
  | 194, _ => okm_194
  | 195, _ => okm_195
  | 196, _ => okm_196
  | 197, _ => okm_197
  | 198, _ => okm_198
  | 199, _ => okm_199
  | 200, _ => okm_200
  | 201, _ => okm_201
  | 202, _ => okm_202
  | 203, _ => okm_203
  | 204, _ => okm_204
  | 205, _ => okm_205
  | 206, _ => okm_206
  | 207, _ => okm_207
  | 208, _ => okm_208
  | 209, _ => okm_209
  | 210, _ => okm_210
  | 211, _ => okm_211
  | 212, _ => okm_212
  | 213, _ => okm_213
  | 214, _ => okm_214
  | 215, _ => okm_215
  | 216, _ => okm_216
  | 217, _ => okm_217
  | 218, _ => okm_218
  | 219, _ => okm_219
  | 220, _ => okm_220
  | 221, _ => okm_221
  | 222, _ => okm_222
  | 223, _ => okm_223
  | 224, _ => okm_224
  | 225, _ => okm_225
  | 226, _ => okm_226
  | 227, _ => okm_227
  | 228, _ => okm_228
  | 229, _ => okm_229
  | 230, _ => okm_230
  | 231, _ => okm_231
  | 232, _ => okm_232
  | 233, _ => okm_233
  | 234, _ => okm_234
  | 235, _ => okm_235
  | 236, _ => okm_236
  | 237, _ => okm_237
  | 238, _ => okm_238
  | 239, _ => okm_239
  | 240, _ => okm_240
  | 241, _ => okm_241
  | 242, _ => okm_242
  | 243, _ => okm_243
  | 244, _ => okm_244
  | 245, _ => okm_245
  | 246, _ => okm_246
  | 247, _ => okm_247
  | 248, _ => okm_248
  | 249, _ => okm_249
  | 250, _ => okm_250
  | 251, _ => okm_251
  | 252, _ => okm_252
  | 253, _ => okm_253
  | 254, _ => okm_254
  | 255, _ => okm_255
  | 256, _ => okm_256
  | 257, _ => okm_257
  | 258, _ => okm_258
  | 259, _ => okm_259
  | 260, _ => okm_260
  | 261, _ => okm_261
  | 262, _ => okm_262
  | 263, _ => okm_263
  | 264, _ => okm_264
  | 265, _ => okm_265
  | 266, _ => okm_266
  | 267, _ => okm_267
  | 268, _ => okm_268
  | 269, _ => okm_269
  | k + 270, h => absurd h (by omega)
