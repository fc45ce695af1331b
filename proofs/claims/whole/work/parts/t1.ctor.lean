/-! ===== THE CONSTRUCTORS, STEP BY STEP (made by wip/gen2/genct.py) ===== -/
def cA_0 : List Op := []
def cA_1 : List Op := (0, 100, 13, 0, 10) :: cA_0
def cA_2 : List Op := (0, 101, 12, 0, 7) :: cA_1
def cA_3 : List Op := (0, 102, 62, 4000, 4000) :: cA_2
def cA_4 : List Op := (2, 101, 3072, 0, 102) :: cA_3
def cA_5 : List Op := (3, 101, 3073, 0, 0) :: cA_4
def cA_6 : List Op := (2, 100, 3328, 0, 101) :: cA_5
def cA_7 : List Op := (0, 103, 4, 0, 8) :: cA_6
def cA_8 : List Op := (0, 104, 60, 613, 613) :: cA_7
def cA_9 : List Op := (2, 103, 1024, 0, 104) :: cA_8
def cA_10 : List Op := (0, 105, 60, 41, 41) :: cA_9
def cA_11 : List Op := (2, 103, 1025, 0, 105) :: cA_10
def cA_12 : List Op := (0, 106, 60, 41, 41) :: cA_11
def cA_13 : List Op := (2, 103, 1026, 0, 106) :: cA_12
def cA_14 : List Op := (1, 107, 48, 48, 0) :: cA_13
def cA_15 : List Op := (2, 103, 1027, 0, 107) :: cA_14
def cA_16 : List Op := (2, 100, 3329, 0, 103) :: cA_15
def cA_17 : List Op := (0, 156, 8, 0, 18) :: cA_16
def cA_18 : List Op := (0, 157, 2, 0, 9) :: cA_17
def cA_19 : List Op := (2, 157, 520, 0, 101) :: cA_18
def cA_20 : List Op := (0, 158, 1, 0, 3) :: cA_19
def cA_21 : List Op := (3, 158, 256, 0, 0) :: cA_20
def cA_22 : List Op := (2, 158, 257, 0, 61) :: cA_21
def cA_23 : List Op := (2, 157, 512, 0, 158) :: cA_22
def cA_24 : List Op := (0, 159, 1, 0, 3) :: cA_23
def cA_25 : List Op := (3, 159, 256, 0, 0) :: cA_24
def cA_26 : List Op := (2, 159, 257, 0, 61) :: cA_25
def cA_27 : List Op := (2, 157, 513, 0, 159) :: cA_26
def cA_28 : List Op := (0, 160, 1, 0, 3) :: cA_27
def cA_29 : List Op := (3, 160, 256, 0, 0) :: cA_28
def cA_30 : List Op := (2, 160, 257, 0, 61) :: cA_29
def cA_31 : List Op := (2, 157, 514, 0, 160) :: cA_30
def cA_32 : List Op := (0, 161, 1, 0, 3) :: cA_31
def cA_33 : List Op := (3, 161, 256, 0, 0) :: cA_32
def cA_34 : List Op := (2, 161, 257, 0, 61) :: cA_33
def cA_35 : List Op := (2, 157, 515, 0, 161) :: cA_34
def cA_36 : List Op := (0, 162, 61, 20, 20) :: cA_35
def cA_37 : List Op := (2, 157, 516, 0, 162) :: cA_36
def cA_38 : List Op := (0, 163, 61, 20, 20) :: cA_37
def cA_39 : List Op := (2, 157, 517, 0, 163) :: cA_38
def cA_40 : List Op := (2, 156, 2048, 0, 157) :: cA_39
def cA_41 : List Op := (0, 164, 1, 0, 3) :: cA_40
def cA_42 : List Op := (3, 164, 256, 0, 0) :: cA_41
def cA_43 : List Op := (2, 164, 257, 0, 61) :: cA_42
def cA_44 : List Op := (2, 156, 2049, 0, 164) :: cA_43
def cA_45 : List Op := (0, 165, 1, 0, 3) :: cA_44
def cA_46 : List Op := (3, 165, 256, 0, 0) :: cA_45
def cA_47 : List Op := (2, 165, 257, 0, 61) :: cA_46
def cA_48 : List Op := (2, 156, 2050, 0, 165) :: cA_47
def cA_49 : List Op := (0, 166, 60, 40, 40) :: cA_48
def cA_50 : List Op := (2, 156, 2053, 0, 166) :: cA_49
def cA_51 : List Op := (0, 167, 60, 40, 40) :: cA_50
def cA_52 : List Op := (2, 156, 2054, 0, 167) :: cA_51
def cA_53 : List Op := (0, 168, 60, 16, 16) :: cA_52
def cA_54 : List Op := (2, 156, 2056, 0, 168) :: cA_53
def cA_55 : List Op := (0, 169, 60, 16, 16) :: cA_54
def cA_56 : List Op := (2, 156, 2057, 0, 169) :: cA_55
def cA_57 : List Op := (0, 170, 60, 16, 16) :: cA_56
def cA_58 : List Op := (2, 156, 2058, 0, 170) :: cA_57
def cA_59 : List Op := (0, 171, 60, 200, 200) :: cA_58
def cA_60 : List Op := (2, 156, 2061, 0, 171) :: cA_59
def cA_61 : List Op := (0, 172, 60, 9, 9) :: cA_60
def cA_62 : List Op := (2, 156, 2062, 0, 172) :: cA_61
def cA_63 : List Op := (0, 173, 60, 9, 9) :: cA_62
def cA_64 : List Op := (2, 156, 2063, 0, 173) :: cA_63
def cA_65 : List Op := (0, 174, 60, 2048, 2048) :: cA_64
def cA_66 : List Op := (2, 156, 2065, 0, 174) :: cA_65
def cA_67 : List Op := (3, 156, 2052, 0, 7) :: cA_66
def cA_68 : List Op := (4, 156, 2059, 0, 0) :: cA_67
def cA_69 : List Op := (2, 100, 3330, 0, 156) :: cA_68
def cA_70 : List Op := (0, 175, 6, 0, 20) :: cA_69
def cA_71 : List Op := (2, 175, 1536, 0, 156) :: cA_70
def cA_72 : List Op := (0, 176, 61, 10, 10) :: cA_71
def cA_73 : List Op := (2, 175, 1537, 0, 176) :: cA_72
def cA_74 : List Op := (0, 177, 60, 4, 4) :: cA_73
def cA_75 : List Op := (6, 177, 0, 0, 0) :: cA_74
def cA_76 : List Op := (6, 177, 1, 0, 0) :: cA_75
def cA_77 : List Op := (6, 177, 2, 0, 0) :: cA_76
def cA_78 : List Op := (6, 177, 3, 0, 0) :: cA_77
def cA_79 : List Op := (2, 175, 1538, 0, 177) :: cA_78
def cA_80 : List Op := (0, 178, 60, 12, 12) :: cA_79
def cA_81 : List Op := (2, 175, 1539, 0, 178) :: cA_80
def cA_82 : List Op := (0, 179, 60, 12, 12) :: cA_81
def cA_83 : List Op := (2, 175, 1540, 0, 179) :: cA_82
def cA_84 : List Op := (0, 180, 60, 12, 12) :: cA_83
def cA_85 : List Op := (2, 175, 1541, 0, 180) :: cA_84
def cA_86 : List Op := (0, 181, 60, 12, 12) :: cA_85
def cA_87 : List Op := (2, 175, 1542, 0, 181) :: cA_86
def cA_88 : List Op := (0, 182, 61, 2000, 2000) :: cA_87
def cA_89 : List Op := (2, 175, 1543, 0, 182) :: cA_88
def cA_90 : List Op := (2, 100, 3331, 0, 175) :: cA_89
def cA_91 : List Op := (0, 183, 9, 0, 6) :: cA_90
def cA_92 : List Op := (0, 184, 60, 4001, 4001) :: cA_91
def cA_93 : List Op := (2, 183, 2304, 0, 184) :: cA_92
def cA_94 : List Op := (0, 185, 60, 4001, 4001) :: cA_93
def cA_95 : List Op := (2, 183, 2305, 0, 185) :: cA_94
def cA_96 : List Op := (2, 100, 3332, 0, 183) :: cA_95
def cA_97 : List Op := (0, 186, 9, 0, 6) :: cA_96
def cA_98 : List Op := (0, 187, 60, 4001, 4001) :: cA_97
def cA_99 : List Op := (2, 186, 2304, 0, 187) :: cA_98
def cA_100 : List Op := (0, 188, 60, 4001, 4001) :: cA_99
def cA_101 : List Op := (2, 186, 2305, 0, 188) :: cA_100
def cA_102 : List Op := (2, 100, 3333, 0, 186) :: cA_101
def cA_103 : List Op := (3, 100, 3334, 0, 0) :: cA_102
def cA_104 : List Op := (4, 100, 3335, 0, 0) :: cA_103
def cA_105 : List Op := (4, 100, 3336, 0, 0) :: cA_104
def cA_106 : List Op := (4, 100, 3337, 0, 0) :: cA_105
def cA_107 : List Op := (0, 189, 14, 0, 152) :: cA_106
def cA_108 : List Op := (2, 189, 3584, 0, 27) :: cA_107
def cA_109 : List Op := (0, 190, 61, 80, 80) :: cA_108
def cA_110 : List Op := (2, 189, 3585, 0, 190) :: cA_109
def cA_111 : List Op := (0, 191, 60, 126, 126) :: cA_110
def cA_112 : List Op := (2, 189, 3587, 0, 191) :: cA_111
def cA_113 : List Op := (0, 192, 60, 64, 64) :: cA_112
def cA_114 : List Op := (2, 189, 3588, 0, 192) :: cA_113
def cA_115 : List Op := (0, 193, 60, 4000, 4000) :: cA_114
def cA_116 : List Op := (2, 189, 3589, 0, 193) :: cA_115
def cA_117 : List Op := (0, 194, 60, 4002, 4002) :: cA_116
def cA_118 : List Op := (2, 189, 3592, 0, 194) :: cA_117
def cA_119 : List Op := (0, 195, 60, 4002, 4002) :: cA_118
def cA_120 : List Op := (2, 189, 3593, 0, 195) :: cA_119
def cA_121 : List Op := (0, 196, 61, 4002, 4002) :: cA_120
def cA_122 : List Op := (2, 189, 3594, 0, 196) :: cA_121
def cA_123 : List Op := (0, 197, 60, 2, 2) :: cA_122
def cA_124 : List Op := (2, 189, 3599, 0, 197) :: cA_123
def cA_125 : List Op := (0, 198, 61, 32, 32) :: cA_124
def cA_126 : List Op := (2, 189, 3600, 0, 198) :: cA_125
def cA_127 : List Op := (0, 199, 60, 32, 32) :: cA_126
def cA_128 : List Op := (2, 189, 3601, 0, 199) :: cA_127
def cA_129 : List Op := (0, 200, 60, 32, 32) :: cA_128
def cA_130 : List Op := (2, 189, 3602, 0, 200) :: cA_129
def cA_131 : List Op := (0, 201, 60, 32, 32) :: cA_130
def cA_132 : List Op := (2, 189, 3603, 0, 201) :: cA_131
def cA_133 : List Op := (0, 202, 60, 2, 2) :: cA_132
def cA_134 : List Op := (2, 189, 3604, 0, 202) :: cA_133
def cA_135 : List Op := (0, 203, 61, 40, 40) :: cA_134
def cA_136 : List Op := (2, 189, 3605, 0, 203) :: cA_135
def cA_137 : List Op := (0, 204, 61, 40, 40) :: cA_136
def cA_138 : List Op := (2, 189, 3606, 0, 204) :: cA_137
def cA_139 : List Op := (0, 205, 60, 2, 2) :: cA_138
def cA_140 : List Op := (2, 189, 3607, 0, 205) :: cA_139
def cA_141 : List Op := (0, 206, 61, 360, 360) :: cA_140
def cA_142 : List Op := (2, 189, 3608, 0, 206) :: cA_141
def cA_143 : List Op := (0, 207, 60, 120, 120) :: cA_142
def cA_144 : List Op := (2, 189, 3609, 0, 207) :: cA_143
def cA_145 : List Op := (0, 208, 60, 120, 120) :: cA_144
def cA_146 : List Op := (2, 189, 3610, 0, 208) :: cA_145
def cA_147 : List Op := (0, 209, 60, 120, 120) :: cA_146
def cA_148 : List Op := (2, 189, 3611, 0, 209) :: cA_147
def cA_149 : List Op := (0, 210, 60, 120, 120) :: cA_148
def cA_150 : List Op := (2, 189, 3612, 0, 210) :: cA_149
def cA_151 : List Op := (0, 211, 60, 120, 120) :: cA_150
def cA_152 : List Op := (2, 189, 3613, 0, 211) :: cA_151
def cA_153 : List Op := (0, 212, 60, 120, 120) :: cA_152
def cA_154 : List Op := (2, 189, 3614, 0, 212) :: cA_153
def cA_155 : List Op := (0, 213, 60, 120, 120) :: cA_154
def cA_156 : List Op := (2, 189, 3615, 0, 213) :: cA_155
def cA_157 : List Op := (0, 214, 60, 120, 120) :: cA_156
def cA_158 : List Op := (2, 189, 3616, 0, 214) :: cA_157
def cA_159 : List Op := (0, 215, 60, 120, 120) :: cA_158
def cA_160 : List Op := (2, 189, 3617, 0, 215) :: cA_159
def cA_161 : List Op := (0, 216, 60, 2, 2) :: cA_160
def cA_162 : List Op := (2, 189, 3618, 0, 216) :: cA_161
def cA_163 : List Op := (0, 217, 61, 16, 16) :: cA_162
def cA_164 : List Op := (2, 189, 3619, 0, 217) :: cA_163
def cA_165 : List Op := (0, 218, 60, 16, 16) :: cA_164
def cA_166 : List Op := (2, 189, 3620, 0, 218) :: cA_165
def cA_167 : List Op := (0, 219, 60, 16, 16) :: cA_166
def cA_168 : List Op := (2, 189, 3621, 0, 219) :: cA_167
def cA_169 : List Op := (0, 220, 60, 16, 16) :: cA_168
def cA_170 : List Op := (2, 189, 3622, 0, 220) :: cA_169
def cA_171 : List Op := (0, 221, 60, 128, 128) :: cA_170
def cA_172 : List Op := (2, 189, 3623, 0, 221) :: cA_171
def cA_173 : List Op := (0, 222, 60, 128, 128) :: cA_172
def cA_174 : List Op := (2, 189, 3624, 0, 222) :: cA_173
def cA_175 : List Op := (0, 223, 60, 128, 128) :: cA_174
def cA_176 : List Op := (2, 189, 3625, 0, 223) :: cA_175
def cA_177 : List Op := (0, 224, 60, 128, 128) :: cA_176
def cA_178 : List Op := (2, 189, 3626, 0, 224) :: cA_177
def cA_179 : List Op := (0, 225, 60, 2, 2) :: cA_178
def cA_180 : List Op := (2, 189, 3627, 0, 225) :: cA_179
def cA_181 : List Op := (0, 226, 60, 80, 80) :: cA_180
def cA_182 : List Op := (2, 189, 3628, 0, 226) :: cA_181
def cA_183 : List Op := (0, 227, 60, 80, 80) :: cA_182
def cA_184 : List Op := (2, 189, 3629, 0, 227) :: cA_183
def cA_185 : List Op := (0, 228, 60, 80, 80) :: cA_184
def cA_186 : List Op := (2, 189, 3630, 0, 228) :: cA_185
def cA_187 : List Op := (0, 229, 60, 80, 80) :: cA_186
def cA_188 : List Op := (2, 189, 3631, 0, 229) :: cA_187
def cA_189 : List Op := (0, 230, 60, 80, 80) :: cA_188
def cA_190 : List Op := (2, 189, 3632, 0, 230) :: cA_189
def cA_191 : List Op := (0, 231, 60, 80, 80) :: cA_190
def cA_192 : List Op := (2, 189, 3633, 0, 231) :: cA_191
def cA_193 : List Op := (0, 232, 60, 80, 80) :: cA_192
def cA_194 : List Op := (2, 189, 3634, 0, 232) :: cA_193
def cA_195 : List Op := (0, 233, 60, 1200, 1200) :: cA_194
def cA_196 : List Op := (2, 189, 3635, 0, 233) :: cA_195
def cA_197 : List Op := (0, 234, 60, 82, 82) :: cA_196
def cA_198 : List Op := (2, 189, 3636, 0, 234) :: cA_197
def cA_199 : List Op := (0, 235, 60, 82, 82) :: cA_198
def cA_200 : List Op := (2, 189, 3637, 0, 235) :: cA_199
def cA_201 : List Op := (4, 189, 3644, 0, 0) :: cA_200
def cA_202 : List Op := (4, 189, 3645, 0, 0) :: cA_201
def cA_203 : List Op := (0, 236, 60, 2200, 2200) :: cA_202
def cA_204 : List Op := (2, 189, 3646, 0, 236) :: cA_203
def cA_205 : List Op := (0, 237, 60, 11, 11) :: cA_204
def cA_206 : List Op := (2, 189, 3647, 0, 237) :: cA_205
def cA_207 : List Op := (0, 238, 60, 11, 11) :: cA_206
def cA_208 : List Op := (2, 189, 3648, 0, 238) :: cA_207
def cA_209 : List Op := (0, 239, 60, 20, 20) :: cA_208
def cA_210 : List Op := (2, 189, 3650, 0, 239) :: cA_209
def cA_211 : List Op := (0, 240, 60, 11, 11) :: cA_210
def cA_212 : List Op := (2, 189, 3651, 0, 240) :: cA_211
def cA_213 : List Op := (0, 241, 63, 11, 11) :: cA_212
def cA_214 : List Op := (2, 189, 3652, 0, 241) :: cA_213
def cA_215 : List Op := (4, 189, 3653, 0, 0) :: cA_214
def cA_216 : List Op := (0, 242, 60, 200, 200) :: cA_215
def cA_217 : List Op := (2, 189, 3655, 0, 242) :: cA_216
def cA_218 : List Op := (0, 243, 60, 200, 200) :: cA_217
def cA_219 : List Op := (2, 189, 3656, 0, 243) :: cA_218
def cA_220 : List Op := (0, 244, 60, 200, 200) :: cA_219
def cA_221 : List Op := (2, 189, 3657, 0, 244) :: cA_220
def cA_222 : List Op := (0, 245, 60, 200, 200) :: cA_221
def cA_223 : List Op := (2, 189, 3658, 0, 245) :: cA_222
def cA_224 : List Op := (0, 246, 60, 200, 200) :: cA_223
def cA_225 : List Op := (2, 189, 3659, 0, 246) :: cA_224
def cA_226 : List Op := (0, 247, 60, 200, 200) :: cA_225
def cA_227 : List Op := (2, 189, 3660, 0, 247) :: cA_226
def cA_228 : List Op := (0, 248, 60, 200, 200) :: cA_227
def cA_229 : List Op := (2, 189, 3661, 0, 248) :: cA_228
def cA_230 : List Op := (0, 249, 60, 200, 200) :: cA_229
def cA_231 : List Op := (2, 189, 3662, 0, 249) :: cA_230
def cA_232 : List Op := (0, 250, 60, 200, 200) :: cA_231
def cA_233 : List Op := (2, 189, 3663, 0, 250) :: cA_232
def cA_234 : List Op := (0, 251, 60, 200, 200) :: cA_233
def cA_235 : List Op := (2, 189, 3664, 0, 251) :: cA_234
def cA_236 : List Op := (0, 252, 60, 200, 200) :: cA_235
def cA_237 : List Op := (2, 189, 3665, 0, 252) :: cA_236
def cA_238 : List Op := (0, 253, 60, 200, 200) :: cA_237
def cA_239 : List Op := (2, 189, 3666, 0, 253) :: cA_238
def cA_240 : List Op := (0, 254, 60, 3200, 3200) :: cA_239
def cA_241 : List Op := (2, 189, 3668, 0, 254) :: cA_240
def cA_242 : List Op := (0, 255, 60, 16, 16) :: cA_241
def cA_243 : List Op := (2, 189, 3669, 0, 255) :: cA_242
def cA_244 : List Op := (0, 256, 60, 8000, 8000) :: cA_243
def cA_245 : List Op := (2, 189, 3670, 0, 256) :: cA_244
def cA_246 : List Op := (0, 257, 60, 40, 40) :: cA_245
def cA_247 : List Op := (2, 189, 3671, 0, 257) :: cA_246
def cA_248 : List Op := (0, 258, 60, 4000, 4000) :: cA_247
def cA_249 : List Op := (2, 189, 3672, 0, 258) :: cA_248
def cA_250 : List Op := (0, 259, 60, 200, 200) :: cA_249
def cA_251 : List Op := (2, 189, 3673, 0, 259) :: cA_250
def cA_252 : List Op := (0, 260, 60, 200, 200) :: cA_251
def cA_253 : List Op := (2, 189, 3674, 0, 260) :: cA_252
def cA_254 : List Op := (0, 261, 60, 200, 200) :: cA_253
def cA_255 : List Op := (2, 189, 3675, 0, 261) :: cA_254
def cA_256 : List Op := (3, 189, 3678, 0, 7) :: cA_255
def cA_257 : List Op := (4, 189, 3679, 0, 0) :: cA_256
def cA_258 : List Op := (0, 262, 60, 16, 16) :: cA_257
def cA_259 : List Op := (2, 189, 3681, 0, 262) :: cA_258
def cA_260 : List Op := (0, 263, 60, 16, 16) :: cA_259
def cA_261 : List Op := (2, 189, 3682, 0, 263) :: cA_260
def cA_262 : List Op := (0, 264, 60, 16, 16) :: cA_261
def cA_263 : List Op := (2, 189, 3683, 0, 264) :: cA_262
def cA_264 : List Op := (0, 265, 60, 40, 40) :: cA_263
def cA_265 : List Op := (2, 189, 3684, 0, 265) :: cA_264
def cA_266 : List Op := (0, 266, 60, 40, 40) :: cA_265
def cA_267 : List Op := (2, 189, 3685, 0, 266) :: cA_266
def cA_268 : List Op := (0, 267, 60, 40, 40) :: cA_267
def cA_269 : List Op := (2, 189, 3686, 0, 267) :: cA_268
def cA_270 : List Op := (0, 268, 60, 40, 40) :: cA_269
def cA_271 : List Op := (2, 189, 3687, 0, 268) :: cA_270
def cA_272 : List Op := (0, 269, 60, 9, 9) :: cA_271
def cA_273 : List Op := (2, 189, 3689, 0, 269) :: cA_272
def cA_274 : List Op := (0, 270, 60, 9, 9) :: cA_273
def cA_275 : List Op := (2, 189, 3690, 0, 270) :: cA_274
def cA_276 : List Op := (0, 271, 60, 200, 200) :: cA_275
def cA_277 : List Op := (2, 189, 3692, 0, 271) :: cA_276
def cA_278 : List Op := (0, 272, 60, 200, 200) :: cA_277
def cA_279 : List Op := (2, 189, 3693, 0, 272) :: cA_278
def cA_280 : List Op := (0, 273, 60, 2304, 2304) :: cA_279
def cA_281 : List Op := (2, 189, 3694, 0, 273) :: cA_280
def cA_282 : List Op := (0, 274, 60, 8800, 8800) :: cA_281
def cA_283 : List Op := (2, 189, 3699, 0, 274) :: cA_282
def cA_284 : List Op := (0, 275, 60, 8800, 8800) :: cA_283
def cA_285 : List Op := (2, 189, 3700, 0, 275) :: cA_284
def cA_286 : List Op := (0, 276, 60, 1640, 1640) :: cA_285
def cA_287 : List Op := (2, 189, 3703, 0, 276) :: cA_286
def cA_288 : List Op := (0, 277, 60, 1640, 1640) :: cA_287
def cA_289 : List Op := (2, 189, 3704, 0, 277) :: cA_288
def cA_290 : List Op := (0, 278, 60, 1640, 1640) :: cA_289
def cA_291 : List Op := (2, 189, 3705, 0, 278) :: cA_290
def cA_292 : List Op := (0, 279, 60, 1400, 1400) :: cA_291
def cA_293 : List Op := (2, 189, 3706, 0, 279) :: cA_292
def cA_294 : List Op := (0, 280, 60, 1400, 1400) :: cA_293
def cA_295 : List Op := (2, 189, 3707, 0, 280) :: cA_294
def cA_296 : List Op := (0, 281, 60, 1400, 1400) :: cA_295
def cA_297 : List Op := (2, 189, 3709, 0, 281) :: cA_296
def cA_298 : List Op := (0, 282, 61, 10, 10) :: cA_297
def cA_299 : List Op := (2, 189, 3710, 0, 282) :: cA_298
def cA_300 : List Op := (0, 283, 60, 4, 4) :: cA_299
def cA_301 : List Op := (2, 189, 3711, 0, 283) :: cA_300
def cA_302 : List Op := (0, 284, 60, 12, 12) :: cA_301
def cA_303 : List Op := (2, 189, 3712, 0, 284) :: cA_302
def cA_304 : List Op := (0, 285, 60, 13, 13) :: cA_303
def cA_305 : List Op := (2, 189, 3713, 0, 285) :: cA_304
def cA_306 : List Op := (0, 286, 60, 13, 13) :: cA_305
def cA_307 : List Op := (2, 189, 3714, 0, 286) :: cA_306
def cA_308 : List Op := (0, 287, 60, 13, 13) :: cA_307
def cA_309 : List Op := (2, 189, 3715, 0, 287) :: cA_308
def cA_310 : List Op := (0, 288, 61, 2000, 2000) :: cA_309
def cA_311 : List Op := (2, 189, 3716, 0, 288) :: cA_310
def cA_312 : List Op := (0, 289, 61, 2000, 2000) :: cA_311
def cA_313 : List Op := (2, 189, 3722, 0, 289) :: cA_312
def cA_314 : List Op := (0, 290, 60, 24, 24) :: cA_313
def cA_315 : List Op := (2, 189, 3727, 0, 290) :: cA_314
def cA_316 : List Op := (0, 291, 60, 24, 24) :: cA_315
def cA_317 : List Op := (2, 189, 3728, 0, 291) :: cA_316
def cA_318 : List Op := (0, 292, 60, 24, 24) :: cA_317
def cA_319 : List Op := (2, 189, 3729, 0, 292) :: cA_318
def cA_320 : List Op := (0, 293, 61, 24, 24) :: cA_319
def cA_321 : List Op := (2, 189, 3730, 0, 293) :: cA_320
def cA_322 : List Op := (0, 294, 61, 2000, 2000) :: cA_321
def cA_323 : List Op := (2, 189, 3735, 0, 294) :: cA_322
theorem cR_0 {d : Nat} {h : AH} (hN : gN h = 100) : E (d + 1) 185 [.ref 101] (ap cA_2 h) = some (none, ap cA_5 h) := by
  rw [n_185, show gN (ap cA_2 h) = 102 from nz hN (by decide +kernel) (by decide +kernel), show nwA (ap cA_2 h) 62 4000 = ap cA_3 h from rfl, n_185_10, ck_ok (show gC (ap cA_3 h) 101 = 12 from cz hN (by decide +kernel) (by decide +kernel)), ck_ok (show gC (ap cA_3 h) 101 = 12 from cz hN (by decide +kernel) (by decide +kernel))]
  rfl
theorem cR_1 {d : Nat} {h : AH} (hN : gN h = 100) : E (d + 1) 186 [.ref 103] (ap cA_7 h) = some (none, ap cA_15 h) := by
  rw [n_186, show gN (ap cA_7 h) = 104 from nz hN (by decide +kernel) (by decide +kernel), show nwA (ap cA_7 h) 60 613 = ap cA_8 h from rfl, n_186_10, ck_ok (show gC (ap cA_8 h) 103 = 4 from cz hN (by decide +kernel) (by decide +kernel)), show gN (ap cA_8 h) = 105 from nz hN (by decide +kernel) (by decide +kernel), show nwA (sR (ap cA_8 h) 1024 103 (some 104)) 60 41 = ap cA_10 h from rfl, n_186_18, ck_ok (show gC (ap cA_10 h) 103 = 4 from cz hN (by decide +kernel) (by decide +kernel)), show gN (ap cA_10 h) = 106 from nz hN (by decide +kernel) (by decide +kernel), show nwA (sR (ap cA_10 h) 1025 103 (some 105)) 60 41 = ap cA_12 h from rfl, n_186_26, ck_ok (show gC (ap cA_12 h) 103 = 4 from cz hN (by decide +kernel) (by decide +kernel)), show gN (ap cA_12 h) = 107 from nz hN (by decide +kernel) (by decide +kernel), show nwM (sR (ap cA_12 h) 1026 103 (some 106)) 48 48 = ap cA_14 h from rfl, n_186_38, ck_ok (show gC (ap cA_14 h) 103 = 4 from cz hN (by decide +kernel) (by decide +kernel))]
  rfl
theorem cR_2 {d : Nat} {h : AH} (hN : gN h = 100) : E (d + 1) 348 [.ref 158] (ap cA_20 h) = some (none, ap cA_20 h) := by
  rw [n_348]
theorem cR_3 {d : Nat} {h : AH} (hN : gN h = 100) : E (d + 2) 274 [.ref 158] (ap cA_20 h) = some (none, ap cA_21 h) := by
  rw [n_274, cR_2 (d := d) hN, cK_n, n_274_4, ck_ok (show gC (ap cA_20 h) 158 = 1 from cz hN (by decide +kernel) (by decide +kernel))]
  rfl
theorem cR_4 {d : Nat} {h : AH} (hN : gN h = 100) : E (d + 3) 226 [.ref 158] (ap cA_20 h) = some (none, ap cA_22 h) := by
  rw [n_226, cR_3 (d := d) hN, cK_n, n_226_4, ck_ok (show gC (ap cA_21 h) 158 = 1 from cz hN (by decide +kernel) (by decide +kernel))]
  rfl
theorem cR_5 {d : Nat} {h : AH} (hN : gN h = 100) : E (d + 1) 348 [.ref 159] (ap cA_24 h) = some (none, ap cA_24 h) := by
  rw [n_348]
theorem cR_6 {d : Nat} {h : AH} (hN : gN h = 100) : E (d + 2) 274 [.ref 159] (ap cA_24 h) = some (none, ap cA_25 h) := by
  rw [n_274, cR_5 (d := d) hN, cK_n, n_274_4, ck_ok (show gC (ap cA_24 h) 159 = 1 from cz hN (by decide +kernel) (by decide +kernel))]
  rfl
theorem cR_7 {d : Nat} {h : AH} (hN : gN h = 100) : E (d + 3) 226 [.ref 159] (ap cA_24 h) = some (none, ap cA_26 h) := by
  rw [n_226, cR_6 (d := d) hN, cK_n, n_226_4, ck_ok (show gC (ap cA_25 h) 159 = 1 from cz hN (by decide +kernel) (by decide +kernel))]
  rfl
theorem cR_8 {d : Nat} {h : AH} (hN : gN h = 100) : E (d + 1) 348 [.ref 160] (ap cA_28 h) = some (none, ap cA_28 h) := by
  rw [n_348]
theorem cR_9 {d : Nat} {h : AH} (hN : gN h = 100) : E (d + 2) 274 [.ref 160] (ap cA_28 h) = some (none, ap cA_29 h) := by
  rw [n_274, cR_8 (d := d) hN, cK_n, n_274_4, ck_ok (show gC (ap cA_28 h) 160 = 1 from cz hN (by decide +kernel) (by decide +kernel))]
  rfl
theorem cR_10 {d : Nat} {h : AH} (hN : gN h = 100) : E (d + 3) 226 [.ref 160] (ap cA_28 h) = some (none, ap cA_30 h) := by
  rw [n_226, cR_9 (d := d) hN, cK_n, n_226_4, ck_ok (show gC (ap cA_29 h) 160 = 1 from cz hN (by decide +kernel) (by decide +kernel))]
  rfl
theorem cR_11 {d : Nat} {h : AH} (hN : gN h = 100) : E (d + 1) 348 [.ref 161] (ap cA_32 h) = some (none, ap cA_32 h) := by
  rw [n_348]
theorem cR_12 {d : Nat} {h : AH} (hN : gN h = 100) : E (d + 2) 274 [.ref 161] (ap cA_32 h) = some (none, ap cA_33 h) := by
  rw [n_274, cR_11 (d := d) hN, cK_n, n_274_4, ck_ok (show gC (ap cA_32 h) 161 = 1 from cz hN (by decide +kernel) (by decide +kernel))]
  rfl
theorem cR_13 {d : Nat} {h : AH} (hN : gN h = 100) : E (d + 3) 226 [.ref 161] (ap cA_32 h) = some (none, ap cA_34 h) := by
  rw [n_226, cR_12 (d := d) hN, cK_n, n_226_4, ck_ok (show gC (ap cA_33 h) 161 = 1 from cz hN (by decide +kernel) (by decide +kernel))]
  rfl
theorem cR_14 {d : Nat} {h : AH} (hN : gN h = 100) : E (d + 4) 193 [.ref 157, .ref 101] (ap cA_18 h) = some (none, ap cA_39 h) := by
  rw [n_193, ck_ok (show gC (ap cA_18 h) 157 = 2 from cz hN (by decide +kernel) (by decide +kernel)), show gN (ap cA_18 h) = 158 from nz hN (by decide +kernel) (by decide +kernel), show nwO (sR (ap cA_18 h) 520 157 (some 101)) 1 3 = ap cA_20 h from rfl, n_193_13, cR_4 (d := d) hN, cK_n, n_193_17, ck_ok (show gC (ap cA_22 h) 157 = 2 from cz hN (by decide +kernel) (by decide +kernel)), show gN (ap cA_22 h) = 159 from nz hN (by decide +kernel) (by decide +kernel), show nwO (sR (ap cA_22 h) 512 157 (some 158)) 1 3 = ap cA_24 h from rfl, n_193_24, cR_7 (d := d) hN, cK_n, n_193_28, ck_ok (show gC (ap cA_26 h) 157 = 2 from cz hN (by decide +kernel) (by decide +kernel)), show gN (ap cA_26 h) = 160 from nz hN (by decide +kernel) (by decide +kernel), show nwO (sR (ap cA_26 h) 513 157 (some 159)) 1 3 = ap cA_28 h from rfl, n_193_35, cR_10 (d := d) hN, cK_n, n_193_39, ck_ok (show gC (ap cA_30 h) 157 = 2 from cz hN (by decide +kernel) (by decide +kernel)), show gN (ap cA_30 h) = 161 from nz hN (by decide +kernel) (by decide +kernel), show nwO (sR (ap cA_30 h) 514 157 (some 160)) 1 3 = ap cA_32 h from rfl, n_193_46, cR_13 (d := d) hN, cK_n, n_193_50, ck_ok (show gC (ap cA_34 h) 157 = 2 from cz hN (by decide +kernel) (by decide +kernel)), show gN (ap cA_34 h) = 162 from nz hN (by decide +kernel) (by decide +kernel), show nwA (sR (ap cA_34 h) 515 157 (some 161)) 61 20 = ap cA_36 h from rfl, n_193_58, ck_ok (show gC (ap cA_36 h) 157 = 2 from cz hN (by decide +kernel) (by decide +kernel)), show gN (ap cA_36 h) = 163 from nz hN (by decide +kernel) (by decide +kernel), show nwA (sR (ap cA_36 h) 516 157 (some 162)) 61 20 = ap cA_38 h from rfl, n_193_66, ck_ok (show gC (ap cA_38 h) 157 = 2 from cz hN (by decide +kernel) (by decide +kernel))]
  rfl
theorem cR_15 {d : Nat} {h : AH} (hN : gN h = 100) : E (d + 1) 348 [.ref 164] (ap cA_41 h) = some (none, ap cA_41 h) := by
  rw [n_348]
theorem cR_16 {d : Nat} {h : AH} (hN : gN h = 100) : E (d + 2) 274 [.ref 164] (ap cA_41 h) = some (none, ap cA_42 h) := by
  rw [n_274, cR_15 (d := d) hN, cK_n, n_274_4, ck_ok (show gC (ap cA_41 h) 164 = 1 from cz hN (by decide +kernel) (by decide +kernel))]
  rfl
theorem cR_17 {d : Nat} {h : AH} (hN : gN h = 100) : E (d + 3) 226 [.ref 164] (ap cA_41 h) = some (none, ap cA_43 h) := by
  rw [n_226, cR_16 (d := d) hN, cK_n, n_226_4, ck_ok (show gC (ap cA_42 h) 164 = 1 from cz hN (by decide +kernel) (by decide +kernel))]
  rfl
theorem cR_18 {d : Nat} {h : AH} (hN : gN h = 100) : E (d + 1) 348 [.ref 165] (ap cA_45 h) = some (none, ap cA_45 h) := by
  rw [n_348]
theorem cR_19 {d : Nat} {h : AH} (hN : gN h = 100) : E (d + 2) 274 [.ref 165] (ap cA_45 h) = some (none, ap cA_46 h) := by
  rw [n_274, cR_18 (d := d) hN, cK_n, n_274_4, ck_ok (show gC (ap cA_45 h) 165 = 1 from cz hN (by decide +kernel) (by decide +kernel))]
  rfl
theorem cR_20 {d : Nat} {h : AH} (hN : gN h = 100) : E (d + 3) 226 [.ref 165] (ap cA_45 h) = some (none, ap cA_47 h) := by
  rw [n_226, cR_19 (d := d) hN, cK_n, n_226_4, ck_ok (show gC (ap cA_46 h) 165 = 1 from cz hN (by decide +kernel) (by decide +kernel))]
  rfl
theorem cR_21 {d : Nat} {h : AH} (hN : gN h = 100) : E (d + 5) 187 [.ref 156, .ref 101] (ap cA_17 h) = some (none, ap cA_68 h) := by
  rw [n_187, show gN (ap cA_17 h) = 157 from nz hN (by decide +kernel) (by decide +kernel), show nwO (ap cA_17 h) 2 9 = ap cA_18 h from rfl, n_187_8, cR_14 (d := d) hN, cK_n, n_187_13, ck_ok (show gC (ap cA_39 h) 156 = 8 from cz hN (by decide +kernel) (by decide +kernel)), show gN (ap cA_39 h) = 164 from nz hN (by decide +kernel) (by decide +kernel), show nwO (sR (ap cA_39 h) 2048 156 (some 157)) 1 3 = ap cA_41 h from rfl, n_187_20, cR_17 (d := d + 1) hN, cK_n, n_187_24, ck_ok (show gC (ap cA_43 h) 156 = 8 from cz hN (by decide +kernel) (by decide +kernel)), show gN (ap cA_43 h) = 165 from nz hN (by decide +kernel) (by decide +kernel), show nwO (sR (ap cA_43 h) 2049 156 (some 164)) 1 3 = ap cA_45 h from rfl, n_187_31, cR_20 (d := d + 1) hN, cK_n, n_187_35, ck_ok (show gC (ap cA_47 h) 156 = 8 from cz hN (by decide +kernel) (by decide +kernel)), show gN (ap cA_47 h) = 166 from nz hN (by decide +kernel) (by decide +kernel), show nwA (sR (ap cA_47 h) 2050 156 (some 165)) 60 40 = ap cA_49 h from rfl, n_187_43, ck_ok (show gC (ap cA_49 h) 156 = 8 from cz hN (by decide +kernel) (by decide +kernel)), show gN (ap cA_49 h) = 167 from nz hN (by decide +kernel) (by decide +kernel), show nwA (sR (ap cA_49 h) 2053 156 (some 166)) 60 40 = ap cA_51 h from rfl, n_187_51, ck_ok (show gC (ap cA_51 h) 156 = 8 from cz hN (by decide +kernel) (by decide +kernel)), show gN (ap cA_51 h) = 168 from nz hN (by decide +kernel) (by decide +kernel), show nwA (sR (ap cA_51 h) 2054 156 (some 167)) 60 16 = ap cA_53 h from rfl, n_187_59, ck_ok (show gC (ap cA_53 h) 156 = 8 from cz hN (by decide +kernel) (by decide +kernel)), show gN (ap cA_53 h) = 169 from nz hN (by decide +kernel) (by decide +kernel), show nwA (sR (ap cA_53 h) 2056 156 (some 168)) 60 16 = ap cA_55 h from rfl, n_187_67, ck_ok (show gC (ap cA_55 h) 156 = 8 from cz hN (by decide +kernel) (by decide +kernel)), show gN (ap cA_55 h) = 170 from nz hN (by decide +kernel) (by decide +kernel), show nwA (sR (ap cA_55 h) 2057 156 (some 169)) 60 16 = ap cA_57 h from rfl, n_187_75, ck_ok (show gC (ap cA_57 h) 156 = 8 from cz hN (by decide +kernel) (by decide +kernel)), show gN (ap cA_57 h) = 171 from nz hN (by decide +kernel) (by decide +kernel), show nwA (sR (ap cA_57 h) 2058 156 (some 170)) 60 200 = ap cA_59 h from rfl, n_187_84, ck_ok (show gC (ap cA_59 h) 156 = 8 from cz hN (by decide +kernel) (by decide +kernel)), show gN (ap cA_59 h) = 172 from nz hN (by decide +kernel) (by decide +kernel), show nwA (sR (ap cA_59 h) 2061 156 (some 171)) 60 9 = ap cA_61 h from rfl, n_187_92, ck_ok (show gC (ap cA_61 h) 156 = 8 from cz hN (by decide +kernel) (by decide +kernel)), show gN (ap cA_61 h) = 173 from nz hN (by decide +kernel) (by decide +kernel), show nwA (sR (ap cA_61 h) 2062 156 (some 172)) 60 9 = ap cA_63 h from rfl, n_187_100, ck_ok (show gC (ap cA_63 h) 156 = 8 from cz hN (by decide +kernel) (by decide +kernel)), show gN (ap cA_63 h) = 174 from nz hN (by decide +kernel) (by decide +kernel), show nwA (sR (ap cA_63 h) 2063 156 (some 173)) 60 2048 = ap cA_65 h from rfl, n_187_109, ck_ok (show gC (ap cA_65 h) 156 = 8 from cz hN (by decide +kernel) (by decide +kernel)), ck_ok (show gC (ap cA_65 h) 156 = 8 from cz hN (by decide +kernel) (by decide +kernel)), ck_ok (show gC (ap cA_65 h) 156 = 8 from cz hN (by decide +kernel) (by decide +kernel))]
  rfl
theorem cR_22 {d : Nat} {h : AH} (hN : gN h = 100) : E (d + 1) 188 [.ref 175, .ref 156] (ap cA_70 h) = some (none, ap cA_89 h) := by
  rw [n_188, ck_ok (show gC (ap cA_70 h) 175 = 6 from cz hN (by decide +kernel) (by decide +kernel)), show gN (ap cA_70 h) = 176 from nz hN (by decide +kernel) (by decide +kernel), show nwA (sR (ap cA_70 h) 1536 175 (some 156)) 61 10 = ap cA_72 h from rfl, n_188_14, ck_ok (show gC (ap cA_72 h) 175 = 6 from cz hN (by decide +kernel) (by decide +kernel)), show gN (ap cA_72 h) = 177 from nz hN (by decide +kernel) (by decide +kernel), show nwA (sR (ap cA_72 h) 1537 175 (some 176)) 60 4 = ap cA_74 h from rfl, n_188_21, cw_ok (show gC (ap cA_74 h) 177 = 60 from cz hN (by decide +kernel) (by decide +kernel)) (by decide), show gK (ap cA_74 h) 177 = 4 from kz hN (by decide +kernel) (by decide +kernel), gd_nI (by decide) (by decide), cw_ok (show gC (ap cA_74 h) 177 = 60 from cz hN (by decide +kernel) (by decide +kernel)) (by decide), gd_nI (by decide) (by decide), cw_ok (show gC (ap cA_74 h) 177 = 60 from cz hN (by decide +kernel) (by decide +kernel)) (by decide), gd_nI (by decide) (by decide), cw_ok (show gC (ap cA_74 h) 177 = 60 from cz hN (by decide +kernel) (by decide +kernel)) (by decide), gd_nI (by decide) (by decide), ck_ok (show gC (ap cA_74 h) 175 = 6 from cz hN (by decide +kernel) (by decide +kernel)), show gN (ap cA_74 h) = 178 from nz hN (by decide +kernel) (by decide +kernel), show nwA (sR (sA (sA (sA (sA (ap cA_74 h) 177 0 (-1)) 177 1 (-1)) 177 2 (-1)) 177 3 (-1)) 1538 175 (some 177)) 60 12 = ap cA_80 h from rfl, n_188_45, ck_ok (show gC (ap cA_80 h) 175 = 6 from cz hN (by decide +kernel) (by decide +kernel)), show gN (ap cA_80 h) = 179 from nz hN (by decide +kernel) (by decide +kernel), show nwA (sR (ap cA_80 h) 1539 175 (some 178)) 60 12 = ap cA_82 h from rfl, n_188_53, ck_ok (show gC (ap cA_82 h) 175 = 6 from cz hN (by decide +kernel) (by decide +kernel)), show gN (ap cA_82 h) = 180 from nz hN (by decide +kernel) (by decide +kernel), show nwA (sR (ap cA_82 h) 1540 175 (some 179)) 60 12 = ap cA_84 h from rfl, n_188_61, ck_ok (show gC (ap cA_84 h) 175 = 6 from cz hN (by decide +kernel) (by decide +kernel)), show gN (ap cA_84 h) = 181 from nz hN (by decide +kernel) (by decide +kernel), show nwA (sR (ap cA_84 h) 1541 175 (some 180)) 60 12 = ap cA_86 h from rfl, n_188_69, ck_ok (show gC (ap cA_86 h) 175 = 6 from cz hN (by decide +kernel) (by decide +kernel)), show gN (ap cA_86 h) = 182 from nz hN (by decide +kernel) (by decide +kernel), show nwA (sR (ap cA_86 h) 1542 175 (some 181)) 61 2000 = ap cA_88 h from rfl, n_188_78, ck_ok (show gC (ap cA_88 h) 175 = 6 from cz hN (by decide +kernel) (by decide +kernel))]
  rfl
theorem cR_23 {d : Nat} {h : AH} (hN : gN h = 100) : E (d + 1) 189 [.ref 183] (ap cA_91 h) = some (none, ap cA_95 h) := by
  rw [n_189, show gN (ap cA_91 h) = 184 from nz hN (by decide +kernel) (by decide +kernel), show nwA (ap cA_91 h) 60 4001 = ap cA_92 h from rfl, n_189_10, ck_ok (show gC (ap cA_92 h) 183 = 9 from cz hN (by decide +kernel) (by decide +kernel)), show gN (ap cA_92 h) = 185 from nz hN (by decide +kernel) (by decide +kernel), show nwA (sR (ap cA_92 h) 2304 183 (some 184)) 60 4001 = ap cA_94 h from rfl, n_189_19, ck_ok (show gC (ap cA_94 h) 183 = 9 from cz hN (by decide +kernel) (by decide +kernel))]
  rfl
theorem cR_24 {d : Nat} {h : AH} (hN : gN h = 100) : E (d + 1) 189 [.ref 186] (ap cA_97 h) = some (none, ap cA_101 h) := by
  rw [n_189, show gN (ap cA_97 h) = 187 from nz hN (by decide +kernel) (by decide +kernel), show nwA (ap cA_97 h) 60 4001 = ap cA_98 h from rfl, n_189_10, ck_ok (show gC (ap cA_98 h) 186 = 9 from cz hN (by decide +kernel) (by decide +kernel)), show gN (ap cA_98 h) = 188 from nz hN (by decide +kernel) (by decide +kernel), show nwA (sR (ap cA_98 h) 2304 186 (some 187)) 60 4001 = ap cA_100 h from rfl, n_189_19, ck_ok (show gC (ap cA_100 h) 186 = 9 from cz hN (by decide +kernel) (by decide +kernel))]
  rfl
theorem cR_25 {d : Nat} {h : AH} (hN : gN h = 100) : E (d + 6) 0 [.ref 100] (ap cA_1 h) = some (none, ap cA_106 h) := by
  rw [n_0, show gN (ap cA_1 h) = 101 from nz hN (by decide +kernel) (by decide +kernel), show nwO (ap cA_1 h) 12 7 = ap cA_2 h from rfl, n_0_8, cR_0 (d := d + 4) hN, cK_n, n_0_12, ck_ok (show gC (ap cA_5 h) 100 = 13 from cz hN (by decide +kernel) (by decide +kernel)), show gN (ap cA_5 h) = 103 from nz hN (by decide +kernel) (by decide +kernel), show nwO (sR (ap cA_5 h) 3328 100 (some 101)) 4 8 = ap cA_7 h from rfl, n_0_19, cR_1 (d := d + 4) hN, cK_n, n_0_23, ck_ok (show gC (ap cA_15 h) 100 = 13 from cz hN (by decide +kernel) (by decide +kernel)), show gN (ap cA_15 h) = 156 from nz hN (by decide +kernel) (by decide +kernel), show nwO (sR (ap cA_15 h) 3329 100 (some 103)) 8 18 = ap cA_17 h from rfl, n_0_30, ck_ok (show gC (ap cA_17 h) 100 = 13 from cz hN (by decide +kernel) (by decide +kernel)), show gR (ap cA_17 h) 3328 100 = some 101 from rz hN (by decide +kernel) (by decide +kernel), Option.bind_some, cR_21 (d := d) hN, cK_n, n_0_38, ck_ok (show gC (ap cA_68 h) 100 = 13 from cz hN (by decide +kernel) (by decide +kernel)), show gN (ap cA_68 h) = 175 from nz hN (by decide +kernel) (by decide +kernel), show nwO (sR (ap cA_68 h) 3330 100 (some 156)) 6 20 = ap cA_70 h from rfl, n_0_45, ck_ok (show gC (ap cA_70 h) 100 = 13 from cz hN (by decide +kernel) (by decide +kernel)), show gR (ap cA_70 h) 3330 100 = some 156 from rz hN (by decide +kernel) (by decide +kernel), Option.bind_some, cR_22 (d := d + 4) hN, cK_n, n_0_53, ck_ok (show gC (ap cA_89 h) 100 = 13 from cz hN (by decide +kernel) (by decide +kernel)), show gN (ap cA_89 h) = 183 from nz hN (by decide +kernel) (by decide +kernel), show nwO (sR (ap cA_89 h) 3331 100 (some 175)) 9 6 = ap cA_91 h from rfl, n_0_60, cR_23 (d := d + 4) hN, cK_n, n_0_64, ck_ok (show gC (ap cA_95 h) 100 = 13 from cz hN (by decide +kernel) (by decide +kernel)), show gN (ap cA_95 h) = 186 from nz hN (by decide +kernel) (by decide +kernel), show nwO (sR (ap cA_95 h) 3332 100 (some 183)) 9 6 = ap cA_97 h from rfl, n_0_71, cR_24 (d := d + 4) hN, cK_n, n_0_75, ck_ok (show gC (ap cA_101 h) 100 = 13 from cz hN (by decide +kernel) (by decide +kernel)), ck_ok (show gC (ap cA_101 h) 100 = 13 from cz hN (by decide +kernel) (by decide +kernel)), ck_ok (show gC (ap cA_101 h) 100 = 13 from cz hN (by decide +kernel) (by decide +kernel)), ck_ok (show gC (ap cA_101 h) 100 = 13 from cz hN (by decide +kernel) (by decide +kernel)), ck_ok (show gC (ap cA_101 h) 100 = 13 from cz hN (by decide +kernel) (by decide +kernel))]
  rfl
theorem cR_26 {d : Nat} {h : AH} (hN : gN h = 100) : E (d + 1) 1 [.ref 189] (ap cA_107 h) = Q d 1 920 [some (.ref 189), some (.int (nI 1)), some (.long 0), none, some (.int (nI 0)), none] [] (ap cA_323 h) := by
  rw [n_1, ck_ok (show gC (ap cA_107 h) 189 = 14 from cz hN (by decide +kernel) (by decide +kernel)), show gN (ap cA_107 h) = 190 from nz hN (by decide +kernel) (by decide +kernel), show nwA (sR (ap cA_107 h) 3584 189 (some 27)) 61 80 = ap cA_109 h from rfl, n_1_15, ck_ok (show gC (ap cA_109 h) 189 = 14 from cz hN (by decide +kernel) (by decide +kernel)), show gN (ap cA_109 h) = 191 from nz hN (by decide +kernel) (by decide +kernel), show nwA (sR (ap cA_109 h) 3585 189 (some 190)) 60 126 = ap cA_111 h from rfl, n_1_23, ck_ok (show gC (ap cA_111 h) 189 = 14 from cz hN (by decide +kernel) (by decide +kernel)), show gN (ap cA_111 h) = 192 from nz hN (by decide +kernel) (by decide +kernel), show nwA (sR (ap cA_111 h) 3587 189 (some 191)) 60 64 = ap cA_113 h from rfl, n_1_31, ck_ok (show gC (ap cA_113 h) 189 = 14 from cz hN (by decide +kernel) (by decide +kernel)), show gN (ap cA_113 h) = 193 from nz hN (by decide +kernel) (by decide +kernel), show nwA (sR (ap cA_113 h) 3588 189 (some 192)) 60 4000 = ap cA_115 h from rfl, n_1_40, ck_ok (show gC (ap cA_115 h) 189 = 14 from cz hN (by decide +kernel) (by decide +kernel)), show gN (ap cA_115 h) = 194 from nz hN (by decide +kernel) (by decide +kernel), show nwA (sR (ap cA_115 h) 3589 189 (some 193)) 60 4002 = ap cA_117 h from rfl, n_1_49, ck_ok (show gC (ap cA_117 h) 189 = 14 from cz hN (by decide +kernel) (by decide +kernel)), show gN (ap cA_117 h) = 195 from nz hN (by decide +kernel) (by decide +kernel), show nwA (sR (ap cA_117 h) 3592 189 (some 194)) 60 4002 = ap cA_119 h from rfl, n_1_58, ck_ok (show gC (ap cA_119 h) 189 = 14 from cz hN (by decide +kernel) (by decide +kernel)), show gN (ap cA_119 h) = 196 from nz hN (by decide +kernel) (by decide +kernel), show nwA (sR (ap cA_119 h) 3593 189 (some 195)) 61 4002 = ap cA_121 h from rfl, n_1_67, ck_ok (show gC (ap cA_121 h) 189 = 14 from cz hN (by decide +kernel) (by decide +kernel)), show gN (ap cA_121 h) = 197 from nz hN (by decide +kernel) (by decide +kernel), show nwA (sR (ap cA_121 h) 3594 189 (some 196)) 60 2 = ap cA_123 h from rfl, n_1_74, ck_ok (show gC (ap cA_123 h) 189 = 14 from cz hN (by decide +kernel) (by decide +kernel)), show gN (ap cA_123 h) = 198 from nz hN (by decide +kernel) (by decide +kernel), show nwA (sR (ap cA_123 h) 3599 189 (some 197)) 61 32 = ap cA_125 h from rfl, n_1_82, ck_ok (show gC (ap cA_125 h) 189 = 14 from cz hN (by decide +kernel) (by decide +kernel)), show gN (ap cA_125 h) = 199 from nz hN (by decide +kernel) (by decide +kernel), show nwA (sR (ap cA_125 h) 3600 189 (some 198)) 60 32 = ap cA_127 h from rfl, n_1_90, ck_ok (show gC (ap cA_127 h) 189 = 14 from cz hN (by decide +kernel) (by decide +kernel)), show gN (ap cA_127 h) = 200 from nz hN (by decide +kernel) (by decide +kernel), show nwA (sR (ap cA_127 h) 3601 189 (some 199)) 60 32 = ap cA_129 h from rfl, n_1_98, ck_ok (show gC (ap cA_129 h) 189 = 14 from cz hN (by decide +kernel) (by decide +kernel)), show gN (ap cA_129 h) = 201 from nz hN (by decide +kernel) (by decide +kernel), show nwA (sR (ap cA_129 h) 3602 189 (some 200)) 60 32 = ap cA_131 h from rfl, n_1_106, ck_ok (show gC (ap cA_131 h) 189 = 14 from cz hN (by decide +kernel) (by decide +kernel)), show gN (ap cA_131 h) = 202 from nz hN (by decide +kernel) (by decide +kernel), show nwA (sR (ap cA_131 h) 3603 189 (some 201)) 60 2 = ap cA_133 h from rfl, n_1_113, ck_ok (show gC (ap cA_133 h) 189 = 14 from cz hN (by decide +kernel) (by decide +kernel)), show gN (ap cA_133 h) = 203 from nz hN (by decide +kernel) (by decide +kernel), show nwA (sR (ap cA_133 h) 3604 189 (some 202)) 61 40 = ap cA_135 h from rfl, n_1_121, ck_ok (show gC (ap cA_135 h) 189 = 14 from cz hN (by decide +kernel) (by decide +kernel)), show gN (ap cA_135 h) = 204 from nz hN (by decide +kernel) (by decide +kernel), show nwA (sR (ap cA_135 h) 3605 189 (some 203)) 61 40 = ap cA_137 h from rfl, n_1_129, ck_ok (show gC (ap cA_137 h) 189 = 14 from cz hN (by decide +kernel) (by decide +kernel)), show gN (ap cA_137 h) = 205 from nz hN (by decide +kernel) (by decide +kernel), show nwA (sR (ap cA_137 h) 3606 189 (some 204)) 60 2 = ap cA_139 h from rfl, n_1_136, ck_ok (show gC (ap cA_139 h) 189 = 14 from cz hN (by decide +kernel) (by decide +kernel)), show gN (ap cA_139 h) = 206 from nz hN (by decide +kernel) (by decide +kernel), show nwA (sR (ap cA_139 h) 3607 189 (some 205)) 61 360 = ap cA_141 h from rfl, n_1_145, ck_ok (show gC (ap cA_141 h) 189 = 14 from cz hN (by decide +kernel) (by decide +kernel)), show gN (ap cA_141 h) = 207 from nz hN (by decide +kernel) (by decide +kernel), show nwA (sR (ap cA_141 h) 3608 189 (some 206)) 60 120 = ap cA_143 h from rfl, n_1_153, ck_ok (show gC (ap cA_143 h) 189 = 14 from cz hN (by decide +kernel) (by decide +kernel)), show gN (ap cA_143 h) = 208 from nz hN (by decide +kernel) (by decide +kernel), show nwA (sR (ap cA_143 h) 3609 189 (some 207)) 60 120 = ap cA_145 h from rfl, n_1_161, ck_ok (show gC (ap cA_145 h) 189 = 14 from cz hN (by decide +kernel) (by decide +kernel)), show gN (ap cA_145 h) = 209 from nz hN (by decide +kernel) (by decide +kernel), show nwA (sR (ap cA_145 h) 3610 189 (some 208)) 60 120 = ap cA_147 h from rfl, n_1_169, ck_ok (show gC (ap cA_147 h) 189 = 14 from cz hN (by decide +kernel) (by decide +kernel)), show gN (ap cA_147 h) = 210 from nz hN (by decide +kernel) (by decide +kernel), show nwA (sR (ap cA_147 h) 3611 189 (some 209)) 60 120 = ap cA_149 h from rfl, n_1_177, ck_ok (show gC (ap cA_149 h) 189 = 14 from cz hN (by decide +kernel) (by decide +kernel)), show gN (ap cA_149 h) = 211 from nz hN (by decide +kernel) (by decide +kernel), show nwA (sR (ap cA_149 h) 3612 189 (some 210)) 60 120 = ap cA_151 h from rfl, n_1_185, ck_ok (show gC (ap cA_151 h) 189 = 14 from cz hN (by decide +kernel) (by decide +kernel)), show gN (ap cA_151 h) = 212 from nz hN (by decide +kernel) (by decide +kernel), show nwA (sR (ap cA_151 h) 3613 189 (some 211)) 60 120 = ap cA_153 h from rfl, n_1_193, ck_ok (show gC (ap cA_153 h) 189 = 14 from cz hN (by decide +kernel) (by decide +kernel)), show gN (ap cA_153 h) = 213 from nz hN (by decide +kernel) (by decide +kernel), show nwA (sR (ap cA_153 h) 3614 189 (some 212)) 60 120 = ap cA_155 h from rfl, n_1_201, ck_ok (show gC (ap cA_155 h) 189 = 14 from cz hN (by decide +kernel) (by decide +kernel)), show gN (ap cA_155 h) = 214 from nz hN (by decide +kernel) (by decide +kernel), show nwA (sR (ap cA_155 h) 3615 189 (some 213)) 60 120 = ap cA_157 h from rfl, n_1_209, ck_ok (show gC (ap cA_157 h) 189 = 14 from cz hN (by decide +kernel) (by decide +kernel)), show gN (ap cA_157 h) = 215 from nz hN (by decide +kernel) (by decide +kernel), show nwA (sR (ap cA_157 h) 3616 189 (some 214)) 60 120 = ap cA_159 h from rfl, n_1_217, ck_ok (show gC (ap cA_159 h) 189 = 14 from cz hN (by decide +kernel) (by decide +kernel)), show gN (ap cA_159 h) = 216 from nz hN (by decide +kernel) (by decide +kernel), show nwA (sR (ap cA_159 h) 3617 189 (some 215)) 60 2 = ap cA_161 h from rfl, n_1_224, ck_ok (show gC (ap cA_161 h) 189 = 14 from cz hN (by decide +kernel) (by decide +kernel)), show gN (ap cA_161 h) = 217 from nz hN (by decide +kernel) (by decide +kernel), show nwA (sR (ap cA_161 h) 3618 189 (some 216)) 61 16 = ap cA_163 h from rfl, n_1_232, ck_ok (show gC (ap cA_163 h) 189 = 14 from cz hN (by decide +kernel) (by decide +kernel)), show gN (ap cA_163 h) = 218 from nz hN (by decide +kernel) (by decide +kernel), show nwA (sR (ap cA_163 h) 3619 189 (some 217)) 60 16 = ap cA_165 h from rfl, n_1_240, ck_ok (show gC (ap cA_165 h) 189 = 14 from cz hN (by decide +kernel) (by decide +kernel)), show gN (ap cA_165 h) = 219 from nz hN (by decide +kernel) (by decide +kernel), show nwA (sR (ap cA_165 h) 3620 189 (some 218)) 60 16 = ap cA_167 h from rfl, n_1_248, ck_ok (show gC (ap cA_167 h) 189 = 14 from cz hN (by decide +kernel) (by decide +kernel)), show gN (ap cA_167 h) = 220 from nz hN (by decide +kernel) (by decide +kernel), show nwA (sR (ap cA_167 h) 3621 189 (some 219)) 60 16 = ap cA_169 h from rfl, n_1_256, ck_ok (show gC (ap cA_169 h) 189 = 14 from cz hN (by decide +kernel) (by decide +kernel)), show gN (ap cA_169 h) = 221 from nz hN (by decide +kernel) (by decide +kernel), show nwA (sR (ap cA_169 h) 3622 189 (some 220)) 60 128 = ap cA_171 h from rfl, n_1_265, ck_ok (show gC (ap cA_171 h) 189 = 14 from cz hN (by decide +kernel) (by decide +kernel)), show gN (ap cA_171 h) = 222 from nz hN (by decide +kernel) (by decide +kernel), show nwA (sR (ap cA_171 h) 3623 189 (some 221)) 60 128 = ap cA_173 h from rfl, n_1_274, ck_ok (show gC (ap cA_173 h) 189 = 14 from cz hN (by decide +kernel) (by decide +kernel)), show gN (ap cA_173 h) = 223 from nz hN (by decide +kernel) (by decide +kernel), show nwA (sR (ap cA_173 h) 3624 189 (some 222)) 60 128 = ap cA_175 h from rfl, n_1_283, ck_ok (show gC (ap cA_175 h) 189 = 14 from cz hN (by decide +kernel) (by decide +kernel)), show gN (ap cA_175 h) = 224 from nz hN (by decide +kernel) (by decide +kernel), show nwA (sR (ap cA_175 h) 3625 189 (some 223)) 60 128 = ap cA_177 h from rfl, n_1_292, ck_ok (show gC (ap cA_177 h) 189 = 14 from cz hN (by decide +kernel) (by decide +kernel)), show gN (ap cA_177 h) = 225 from nz hN (by decide +kernel) (by decide +kernel), show nwA (sR (ap cA_177 h) 3626 189 (some 224)) 60 2 = ap cA_179 h from rfl, n_1_299, ck_ok (show gC (ap cA_179 h) 189 = 14 from cz hN (by decide +kernel) (by decide +kernel)), show gN (ap cA_179 h) = 226 from nz hN (by decide +kernel) (by decide +kernel), show nwA (sR (ap cA_179 h) 3627 189 (some 225)) 60 80 = ap cA_181 h from rfl, n_1_307, ck_ok (show gC (ap cA_181 h) 189 = 14 from cz hN (by decide +kernel) (by decide +kernel)), show gN (ap cA_181 h) = 227 from nz hN (by decide +kernel) (by decide +kernel), show nwA (sR (ap cA_181 h) 3628 189 (some 226)) 60 80 = ap cA_183 h from rfl, n_1_315, ck_ok (show gC (ap cA_183 h) 189 = 14 from cz hN (by decide +kernel) (by decide +kernel)), show gN (ap cA_183 h) = 228 from nz hN (by decide +kernel) (by decide +kernel), show nwA (sR (ap cA_183 h) 3629 189 (some 227)) 60 80 = ap cA_185 h from rfl, n_1_323, ck_ok (show gC (ap cA_185 h) 189 = 14 from cz hN (by decide +kernel) (by decide +kernel)), show gN (ap cA_185 h) = 229 from nz hN (by decide +kernel) (by decide +kernel), show nwA (sR (ap cA_185 h) 3630 189 (some 228)) 60 80 = ap cA_187 h from rfl, n_1_331, ck_ok (show gC (ap cA_187 h) 189 = 14 from cz hN (by decide +kernel) (by decide +kernel)), show gN (ap cA_187 h) = 230 from nz hN (by decide +kernel) (by decide +kernel), show nwA (sR (ap cA_187 h) 3631 189 (some 229)) 60 80 = ap cA_189 h from rfl, n_1_339, ck_ok (show gC (ap cA_189 h) 189 = 14 from cz hN (by decide +kernel) (by decide +kernel)), show gN (ap cA_189 h) = 231 from nz hN (by decide +kernel) (by decide +kernel), show nwA (sR (ap cA_189 h) 3632 189 (some 230)) 60 80 = ap cA_191 h from rfl, n_1_347, ck_ok (show gC (ap cA_191 h) 189 = 14 from cz hN (by decide +kernel) (by decide +kernel)), show gN (ap cA_191 h) = 232 from nz hN (by decide +kernel) (by decide +kernel), show nwA (sR (ap cA_191 h) 3633 189 (some 231)) 60 80 = ap cA_193 h from rfl, n_1_355, ck_ok (show gC (ap cA_193 h) 189 = 14 from cz hN (by decide +kernel) (by decide +kernel)), show gN (ap cA_193 h) = 233 from nz hN (by decide +kernel) (by decide +kernel), show nwA (sR (ap cA_193 h) 3634 189 (some 232)) 60 1200 = ap cA_195 h from rfl, n_1_364, ck_ok (show gC (ap cA_195 h) 189 = 14 from cz hN (by decide +kernel) (by decide +kernel)), show gN (ap cA_195 h) = 234 from nz hN (by decide +kernel) (by decide +kernel), show nwA (sR (ap cA_195 h) 3635 189 (some 233)) 60 82 = ap cA_197 h from rfl, n_1_372, ck_ok (show gC (ap cA_197 h) 189 = 14 from cz hN (by decide +kernel) (by decide +kernel)), show gN (ap cA_197 h) = 235 from nz hN (by decide +kernel) (by decide +kernel), show nwA (sR (ap cA_197 h) 3636 189 (some 234)) 60 82 = ap cA_199 h from rfl, n_1_380, ck_ok (show gC (ap cA_199 h) 189 = 14 from cz hN (by decide +kernel) (by decide +kernel)), ck_ok (show gC (ap cA_199 h) 189 = 14 from cz hN (by decide +kernel) (by decide +kernel)), ck_ok (show gC (ap cA_199 h) 189 = 14 from cz hN (by decide +kernel) (by decide +kernel)), show gN (ap cA_199 h) = 236 from nz hN (by decide +kernel) (by decide +kernel), show nwA (sI (sI (sR (ap cA_199 h) 3637 189 (some 235)) 3644 189 (-1)) 3645 189 (-1)) 60 2200 = ap cA_203 h from rfl, n_1_399, ck_ok (show gC (ap cA_203 h) 189 = 14 from cz hN (by decide +kernel) (by decide +kernel)), show gN (ap cA_203 h) = 237 from nz hN (by decide +kernel) (by decide +kernel), show nwA (sR (ap cA_203 h) 3646 189 (some 236)) 60 11 = ap cA_205 h from rfl, n_1_407, ck_ok (show gC (ap cA_205 h) 189 = 14 from cz hN (by decide +kernel) (by decide +kernel)), show gN (ap cA_205 h) = 238 from nz hN (by decide +kernel) (by decide +kernel), show nwA (sR (ap cA_205 h) 3647 189 (some 237)) 60 11 = ap cA_207 h from rfl, n_1_415, ck_ok (show gC (ap cA_207 h) 189 = 14 from cz hN (by decide +kernel) (by decide +kernel)), show gN (ap cA_207 h) = 239 from nz hN (by decide +kernel) (by decide +kernel), show nwA (sR (ap cA_207 h) 3648 189 (some 238)) 60 20 = ap cA_209 h from rfl, n_1_423, ck_ok (show gC (ap cA_209 h) 189 = 14 from cz hN (by decide +kernel) (by decide +kernel)), show gN (ap cA_209 h) = 240 from nz hN (by decide +kernel) (by decide +kernel), show nwA (sR (ap cA_209 h) 3650 189 (some 239)) 60 11 = ap cA_211 h from rfl, n_1_431, ck_ok (show gC (ap cA_211 h) 189 = 14 from cz hN (by decide +kernel) (by decide +kernel)), show gN (ap cA_211 h) = 241 from nz hN (by decide +kernel) (by decide +kernel), show nwA (sR (ap cA_211 h) 3651 189 (some 240)) 63 11 = ap cA_213 h from rfl, n_1_439, ck_ok (show gC (ap cA_213 h) 189 = 14 from cz hN (by decide +kernel) (by decide +kernel)), ck_ok (show gC (ap cA_213 h) 189 = 14 from cz hN (by decide +kernel) (by decide +kernel)), show gN (ap cA_213 h) = 242 from nz hN (by decide +kernel) (by decide +kernel), show nwA (sI (sR (ap cA_213 h) 3652 189 (some 241)) 3653 189 (-1)) 60 200 = ap cA_216 h from rfl, n_1_453, ck_ok (show gC (ap cA_216 h) 189 = 14 from cz hN (by decide +kernel) (by decide +kernel)), show gN (ap cA_216 h) = 243 from nz hN (by decide +kernel) (by decide +kernel), show nwA (sR (ap cA_216 h) 3655 189 (some 242)) 60 200 = ap cA_218 h from rfl, n_1_462, ck_ok (show gC (ap cA_218 h) 189 = 14 from cz hN (by decide +kernel) (by decide +kernel)), show gN (ap cA_218 h) = 244 from nz hN (by decide +kernel) (by decide +kernel), show nwA (sR (ap cA_218 h) 3656 189 (some 243)) 60 200 = ap cA_220 h from rfl, n_1_471, ck_ok (show gC (ap cA_220 h) 189 = 14 from cz hN (by decide +kernel) (by decide +kernel)), show gN (ap cA_220 h) = 245 from nz hN (by decide +kernel) (by decide +kernel), show nwA (sR (ap cA_220 h) 3657 189 (some 244)) 60 200 = ap cA_222 h from rfl, n_1_480, ck_ok (show gC (ap cA_222 h) 189 = 14 from cz hN (by decide +kernel) (by decide +kernel)), show gN (ap cA_222 h) = 246 from nz hN (by decide +kernel) (by decide +kernel), show nwA (sR (ap cA_222 h) 3658 189 (some 245)) 60 200 = ap cA_224 h from rfl, n_1_489, ck_ok (show gC (ap cA_224 h) 189 = 14 from cz hN (by decide +kernel) (by decide +kernel)), show gN (ap cA_224 h) = 247 from nz hN (by decide +kernel) (by decide +kernel), show nwA (sR (ap cA_224 h) 3659 189 (some 246)) 60 200 = ap cA_226 h from rfl, n_1_498, ck_ok (show gC (ap cA_226 h) 189 = 14 from cz hN (by decide +kernel) (by decide +kernel)), show gN (ap cA_226 h) = 248 from nz hN (by decide +kernel) (by decide +kernel), show nwA (sR (ap cA_226 h) 3660 189 (some 247)) 60 200 = ap cA_228 h from rfl, n_1_507, ck_ok (show gC (ap cA_228 h) 189 = 14 from cz hN (by decide +kernel) (by decide +kernel)), show gN (ap cA_228 h) = 249 from nz hN (by decide +kernel) (by decide +kernel), show nwA (sR (ap cA_228 h) 3661 189 (some 248)) 60 200 = ap cA_230 h from rfl, n_1_516, ck_ok (show gC (ap cA_230 h) 189 = 14 from cz hN (by decide +kernel) (by decide +kernel)), show gN (ap cA_230 h) = 250 from nz hN (by decide +kernel) (by decide +kernel), show nwA (sR (ap cA_230 h) 3662 189 (some 249)) 60 200 = ap cA_232 h from rfl, n_1_525, ck_ok (show gC (ap cA_232 h) 189 = 14 from cz hN (by decide +kernel) (by decide +kernel)), show gN (ap cA_232 h) = 251 from nz hN (by decide +kernel) (by decide +kernel), show nwA (sR (ap cA_232 h) 3663 189 (some 250)) 60 200 = ap cA_234 h from rfl, n_1_534, ck_ok (show gC (ap cA_234 h) 189 = 14 from cz hN (by decide +kernel) (by decide +kernel)), show gN (ap cA_234 h) = 252 from nz hN (by decide +kernel) (by decide +kernel), show nwA (sR (ap cA_234 h) 3664 189 (some 251)) 60 200 = ap cA_236 h from rfl, n_1_543, ck_ok (show gC (ap cA_236 h) 189 = 14 from cz hN (by decide +kernel) (by decide +kernel)), show gN (ap cA_236 h) = 253 from nz hN (by decide +kernel) (by decide +kernel), show nwA (sR (ap cA_236 h) 3665 189 (some 252)) 60 200 = ap cA_238 h from rfl, n_1_552, ck_ok (show gC (ap cA_238 h) 189 = 14 from cz hN (by decide +kernel) (by decide +kernel)), show gN (ap cA_238 h) = 254 from nz hN (by decide +kernel) (by decide +kernel), show nwA (sR (ap cA_238 h) 3666 189 (some 253)) 60 3200 = ap cA_240 h from rfl, n_1_561, ck_ok (show gC (ap cA_240 h) 189 = 14 from cz hN (by decide +kernel) (by decide +kernel)), show gN (ap cA_240 h) = 255 from nz hN (by decide +kernel) (by decide +kernel), show nwA (sR (ap cA_240 h) 3668 189 (some 254)) 60 16 = ap cA_242 h from rfl, n_1_569, ck_ok (show gC (ap cA_242 h) 189 = 14 from cz hN (by decide +kernel) (by decide +kernel)), show gN (ap cA_242 h) = 256 from nz hN (by decide +kernel) (by decide +kernel), show nwA (sR (ap cA_242 h) 3669 189 (some 255)) 60 8000 = ap cA_244 h from rfl, n_1_578, ck_ok (show gC (ap cA_244 h) 189 = 14 from cz hN (by decide +kernel) (by decide +kernel)), show gN (ap cA_244 h) = 257 from nz hN (by decide +kernel) (by decide +kernel), show nwA (sR (ap cA_244 h) 3670 189 (some 256)) 60 40 = ap cA_246 h from rfl, n_1_586, ck_ok (show gC (ap cA_246 h) 189 = 14 from cz hN (by decide +kernel) (by decide +kernel)), show gN (ap cA_246 h) = 258 from nz hN (by decide +kernel) (by decide +kernel), show nwA (sR (ap cA_246 h) 3671 189 (some 257)) 60 4000 = ap cA_248 h from rfl, n_1_595, ck_ok (show gC (ap cA_248 h) 189 = 14 from cz hN (by decide +kernel) (by decide +kernel)), show gN (ap cA_248 h) = 259 from nz hN (by decide +kernel) (by decide +kernel), show nwA (sR (ap cA_248 h) 3672 189 (some 258)) 60 200 = ap cA_250 h from rfl, n_1_604, ck_ok (show gC (ap cA_250 h) 189 = 14 from cz hN (by decide +kernel) (by decide +kernel)), show gN (ap cA_250 h) = 260 from nz hN (by decide +kernel) (by decide +kernel), show nwA (sR (ap cA_250 h) 3673 189 (some 259)) 60 200 = ap cA_252 h from rfl, n_1_613, ck_ok (show gC (ap cA_252 h) 189 = 14 from cz hN (by decide +kernel) (by decide +kernel)), show gN (ap cA_252 h) = 261 from nz hN (by decide +kernel) (by decide +kernel), show nwA (sR (ap cA_252 h) 3674 189 (some 260)) 60 200 = ap cA_254 h from rfl, n_1_622, ck_ok (show gC (ap cA_254 h) 189 = 14 from cz hN (by decide +kernel) (by decide +kernel)), ck_ok (show gC (ap cA_254 h) 189 = 14 from cz hN (by decide +kernel) (by decide +kernel)), ck_ok (show gC (ap cA_254 h) 189 = 14 from cz hN (by decide +kernel) (by decide +kernel)), show gN (ap cA_254 h) = 262 from nz hN (by decide +kernel) (by decide +kernel), show nwA (sI (sI (sR (ap cA_254 h) 3675 189 (some 261)) 3678 189 (nI 7)) 3679 189 (-1)) 60 16 = ap cA_258 h from rfl, n_1_641, ck_ok (show gC (ap cA_258 h) 189 = 14 from cz hN (by decide +kernel) (by decide +kernel)), show gN (ap cA_258 h) = 263 from nz hN (by decide +kernel) (by decide +kernel), show nwA (sR (ap cA_258 h) 3681 189 (some 262)) 60 16 = ap cA_260 h from rfl, n_1_649, ck_ok (show gC (ap cA_260 h) 189 = 14 from cz hN (by decide +kernel) (by decide +kernel)), show gN (ap cA_260 h) = 264 from nz hN (by decide +kernel) (by decide +kernel), show nwA (sR (ap cA_260 h) 3682 189 (some 263)) 60 16 = ap cA_262 h from rfl, n_1_657, ck_ok (show gC (ap cA_262 h) 189 = 14 from cz hN (by decide +kernel) (by decide +kernel)), show gN (ap cA_262 h) = 265 from nz hN (by decide +kernel) (by decide +kernel), show nwA (sR (ap cA_262 h) 3683 189 (some 264)) 60 40 = ap cA_264 h from rfl, n_1_665, ck_ok (show gC (ap cA_264 h) 189 = 14 from cz hN (by decide +kernel) (by decide +kernel)), show gN (ap cA_264 h) = 266 from nz hN (by decide +kernel) (by decide +kernel), show nwA (sR (ap cA_264 h) 3684 189 (some 265)) 60 40 = ap cA_266 h from rfl, n_1_673, ck_ok (show gC (ap cA_266 h) 189 = 14 from cz hN (by decide +kernel) (by decide +kernel)), show gN (ap cA_266 h) = 267 from nz hN (by decide +kernel) (by decide +kernel), show nwA (sR (ap cA_266 h) 3685 189 (some 266)) 60 40 = ap cA_268 h from rfl, n_1_681, ck_ok (show gC (ap cA_268 h) 189 = 14 from cz hN (by decide +kernel) (by decide +kernel)), show gN (ap cA_268 h) = 268 from nz hN (by decide +kernel) (by decide +kernel), show nwA (sR (ap cA_268 h) 3686 189 (some 267)) 60 40 = ap cA_270 h from rfl, n_1_689, ck_ok (show gC (ap cA_270 h) 189 = 14 from cz hN (by decide +kernel) (by decide +kernel)), show gN (ap cA_270 h) = 269 from nz hN (by decide +kernel) (by decide +kernel), show nwA (sR (ap cA_270 h) 3687 189 (some 268)) 60 9 = ap cA_272 h from rfl, n_1_697, ck_ok (show gC (ap cA_272 h) 189 = 14 from cz hN (by decide +kernel) (by decide +kernel)), show gN (ap cA_272 h) = 270 from nz hN (by decide +kernel) (by decide +kernel), show nwA (sR (ap cA_272 h) 3689 189 (some 269)) 60 9 = ap cA_274 h from rfl, n_1_705, ck_ok (show gC (ap cA_274 h) 189 = 14 from cz hN (by decide +kernel) (by decide +kernel)), show gN (ap cA_274 h) = 271 from nz hN (by decide +kernel) (by decide +kernel), show nwA (sR (ap cA_274 h) 3690 189 (some 270)) 60 200 = ap cA_276 h from rfl, n_1_714, ck_ok (show gC (ap cA_276 h) 189 = 14 from cz hN (by decide +kernel) (by decide +kernel)), show gN (ap cA_276 h) = 272 from nz hN (by decide +kernel) (by decide +kernel), show nwA (sR (ap cA_276 h) 3692 189 (some 271)) 60 200 = ap cA_278 h from rfl, n_1_723, ck_ok (show gC (ap cA_278 h) 189 = 14 from cz hN (by decide +kernel) (by decide +kernel)), show gN (ap cA_278 h) = 273 from nz hN (by decide +kernel) (by decide +kernel), show nwA (sR (ap cA_278 h) 3693 189 (some 272)) 60 2304 = ap cA_280 h from rfl, n_1_732, ck_ok (show gC (ap cA_280 h) 189 = 14 from cz hN (by decide +kernel) (by decide +kernel)), show gN (ap cA_280 h) = 274 from nz hN (by decide +kernel) (by decide +kernel), show nwA (sR (ap cA_280 h) 3694 189 (some 273)) 60 8800 = ap cA_282 h from rfl, n_1_741, ck_ok (show gC (ap cA_282 h) 189 = 14 from cz hN (by decide +kernel) (by decide +kernel)), show gN (ap cA_282 h) = 275 from nz hN (by decide +kernel) (by decide +kernel), show nwA (sR (ap cA_282 h) 3699 189 (some 274)) 60 8800 = ap cA_284 h from rfl, n_1_750, ck_ok (show gC (ap cA_284 h) 189 = 14 from cz hN (by decide +kernel) (by decide +kernel)), show gN (ap cA_284 h) = 276 from nz hN (by decide +kernel) (by decide +kernel), show nwA (sR (ap cA_284 h) 3700 189 (some 275)) 60 1640 = ap cA_286 h from rfl, n_1_759, ck_ok (show gC (ap cA_286 h) 189 = 14 from cz hN (by decide +kernel) (by decide +kernel)), show gN (ap cA_286 h) = 277 from nz hN (by decide +kernel) (by decide +kernel), show nwA (sR (ap cA_286 h) 3703 189 (some 276)) 60 1640 = ap cA_288 h from rfl, n_1_768, ck_ok (show gC (ap cA_288 h) 189 = 14 from cz hN (by decide +kernel) (by decide +kernel)), show gN (ap cA_288 h) = 278 from nz hN (by decide +kernel) (by decide +kernel), show nwA (sR (ap cA_288 h) 3704 189 (some 277)) 60 1640 = ap cA_290 h from rfl, n_1_777, ck_ok (show gC (ap cA_290 h) 189 = 14 from cz hN (by decide +kernel) (by decide +kernel)), show gN (ap cA_290 h) = 279 from nz hN (by decide +kernel) (by decide +kernel), show nwA (sR (ap cA_290 h) 3705 189 (some 278)) 60 1400 = ap cA_292 h from rfl, n_1_786, ck_ok (show gC (ap cA_292 h) 189 = 14 from cz hN (by decide +kernel) (by decide +kernel)), show gN (ap cA_292 h) = 280 from nz hN (by decide +kernel) (by decide +kernel), show nwA (sR (ap cA_292 h) 3706 189 (some 279)) 60 1400 = ap cA_294 h from rfl, n_1_795, ck_ok (show gC (ap cA_294 h) 189 = 14 from cz hN (by decide +kernel) (by decide +kernel)), show gN (ap cA_294 h) = 281 from nz hN (by decide +kernel) (by decide +kernel), show nwA (sR (ap cA_294 h) 3707 189 (some 280)) 60 1400 = ap cA_296 h from rfl, n_1_804, ck_ok (show gC (ap cA_296 h) 189 = 14 from cz hN (by decide +kernel) (by decide +kernel)), show gN (ap cA_296 h) = 282 from nz hN (by decide +kernel) (by decide +kernel), show nwA (sR (ap cA_296 h) 3709 189 (some 281)) 61 10 = ap cA_298 h from rfl, n_1_812, ck_ok (show gC (ap cA_298 h) 189 = 14 from cz hN (by decide +kernel) (by decide +kernel)), show gN (ap cA_298 h) = 283 from nz hN (by decide +kernel) (by decide +kernel), show nwA (sR (ap cA_298 h) 3710 189 (some 282)) 60 4 = ap cA_300 h from rfl, n_1_819, ck_ok (show gC (ap cA_300 h) 189 = 14 from cz hN (by decide +kernel) (by decide +kernel)), show gN (ap cA_300 h) = 284 from nz hN (by decide +kernel) (by decide +kernel), show nwA (sR (ap cA_300 h) 3711 189 (some 283)) 60 12 = ap cA_302 h from rfl, n_1_827, ck_ok (show gC (ap cA_302 h) 189 = 14 from cz hN (by decide +kernel) (by decide +kernel)), show gN (ap cA_302 h) = 285 from nz hN (by decide +kernel) (by decide +kernel), show nwA (sR (ap cA_302 h) 3712 189 (some 284)) 60 13 = ap cA_304 h from rfl, n_1_835, ck_ok (show gC (ap cA_304 h) 189 = 14 from cz hN (by decide +kernel) (by decide +kernel)), show gN (ap cA_304 h) = 286 from nz hN (by decide +kernel) (by decide +kernel), show nwA (sR (ap cA_304 h) 3713 189 (some 285)) 60 13 = ap cA_306 h from rfl, n_1_843, ck_ok (show gC (ap cA_306 h) 189 = 14 from cz hN (by decide +kernel) (by decide +kernel)), show gN (ap cA_306 h) = 287 from nz hN (by decide +kernel) (by decide +kernel), show nwA (sR (ap cA_306 h) 3714 189 (some 286)) 60 13 = ap cA_308 h from rfl, n_1_851, ck_ok (show gC (ap cA_308 h) 189 = 14 from cz hN (by decide +kernel) (by decide +kernel)), show gN (ap cA_308 h) = 288 from nz hN (by decide +kernel) (by decide +kernel), show nwA (sR (ap cA_308 h) 3715 189 (some 287)) 61 2000 = ap cA_310 h from rfl, n_1_860, ck_ok (show gC (ap cA_310 h) 189 = 14 from cz hN (by decide +kernel) (by decide +kernel)), show gN (ap cA_310 h) = 289 from nz hN (by decide +kernel) (by decide +kernel), show nwA (sR (ap cA_310 h) 3716 189 (some 288)) 61 2000 = ap cA_312 h from rfl, n_1_869, ck_ok (show gC (ap cA_312 h) 189 = 14 from cz hN (by decide +kernel) (by decide +kernel)), show gN (ap cA_312 h) = 290 from nz hN (by decide +kernel) (by decide +kernel), show nwA (sR (ap cA_312 h) 3722 189 (some 289)) 60 24 = ap cA_314 h from rfl, n_1_877, ck_ok (show gC (ap cA_314 h) 189 = 14 from cz hN (by decide +kernel) (by decide +kernel)), show gN (ap cA_314 h) = 291 from nz hN (by decide +kernel) (by decide +kernel), show nwA (sR (ap cA_314 h) 3727 189 (some 290)) 60 24 = ap cA_316 h from rfl, n_1_885, ck_ok (show gC (ap cA_316 h) 189 = 14 from cz hN (by decide +kernel) (by decide +kernel)), show gN (ap cA_316 h) = 292 from nz hN (by decide +kernel) (by decide +kernel), show nwA (sR (ap cA_316 h) 3728 189 (some 291)) 60 24 = ap cA_318 h from rfl, n_1_893, ck_ok (show gC (ap cA_318 h) 189 = 14 from cz hN (by decide +kernel) (by decide +kernel)), show gN (ap cA_318 h) = 293 from nz hN (by decide +kernel) (by decide +kernel), show nwA (sR (ap cA_318 h) 3729 189 (some 292)) 61 24 = ap cA_320 h from rfl, n_1_901, ck_ok (show gC (ap cA_320 h) 189 = 14 from cz hN (by decide +kernel) (by decide +kernel)), show gN (ap cA_320 h) = 294 from nz hN (by decide +kernel) (by decide +kernel), show nwA (sR (ap cA_320 h) 3730 189 (some 293)) 61 2000 = ap cA_322 h from rfl, n_1_910, ck_ok (show gC (ap cA_322 h) 189 = 14 from cz hN (by decide +kernel) (by decide +kernel)), show sR (ap cA_322 h) 3735 189 (some 294) = ap cA_323 h from rfl]
