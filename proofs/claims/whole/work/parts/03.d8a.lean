theorem dX8_init_0 : decode cX8_init 0 = .ok (.aload_n 0, 1) := by decide +kernel
theorem dX8_init_1 : decode cX8_init 1 = .ok (.invokespecial 1, 3) := by decide +kernel
theorem dX8_init_4 : decode cX8_init 4 = .ok (.aload_n 0, 1) := by decide +kernel
theorem dX8_init_5 : decode cX8_init 5 = .ok (.sipush 1468, 3) := by decide +kernel
theorem dX8_init_8 : decode cX8_init 8 = .ok (.newarray .int, 2) := by decide +kernel
theorem dX8_init_10 : decode cX8_init 10 = .ok (.putfield 9, 3) := by decide +kernel
theorem dX8_init_13 : decode cX8_init 13 = .ok (.aload_n 0, 1) := by decide +kernel
theorem dX8_init_14 : decode cX8_init 14 = .ok (.sipush 1468, 3) := by decide +kernel
theorem dX8_init_17 : decode cX8_init 17 = .ok (.newarray .int, 2) := by decide +kernel
theorem dX8_init_19 : decode cX8_init 19 = .ok (.putfield 13, 3) := by decide +kernel
theorem dX8_init_22 : decode cX8_init 22 = .ok (.aload_n 0, 1) := by decide +kernel
theorem dX8_init_23 : decode cX8_init 23 = .ok (.sipush 1468, 3) := by decide +kernel
theorem dX8_init_26 : decode cX8_init 26 = .ok (.newarray .int, 2) := by decide +kernel
theorem dX8_init_28 : decode cX8_init 28 = .ok (.putfield 16, 3) := by decide +kernel
theorem dX8_init_31 : decode cX8_init 31 = .ok (.aload_n 0, 1) := by decide +kernel
theorem dX8_init_32 : decode cX8_init 32 = .ok (.bipush 10, 2) := by decide +kernel
theorem dX8_init_34 : decode cX8_init 34 = .ok (.newarray .boolean, 2) := by decide +kernel
theorem dX8_init_36 : decode cX8_init 36 = .ok (.putfield 19, 3) := by decide +kernel
theorem dX8_init_39 : decode cX8_init 39 = .ok (.aload_n 0, 1) := by decide +kernel
theorem dX8_init_40 : decode cX8_init 40 = .ok (.bipush 96, 2) := by decide +kernel
theorem dX8_init_42 : decode cX8_init 42 = .ok (.newarray .int, 2) := by decide +kernel
theorem dX8_init_44 : decode cX8_init 44 = .ok (.putfield 23, 3) := by decide +kernel
theorem dX8_init_47 : decode cX8_init 47 = .ok (.aload_n 0, 1) := by decide +kernel
theorem dX8_init_48 : decode cX8_init 48 = .ok (.bipush 96, 2) := by decide +kernel
theorem dX8_init_50 : decode cX8_init 50 = .ok (.newarray .int, 2) := by decide +kernel
theorem dX8_init_52 : decode cX8_init 52 = .ok (.putfield 26, 3) := by decide +kernel
theorem dX8_init_55 : decode cX8_init 55 = .ok (.aload_n 0, 1) := by decide +kernel
theorem dX8_init_56 : decode cX8_init 56 = .ok (.bipush 11, 2) := by decide +kernel
theorem dX8_init_58 : decode cX8_init 58 = .ok (.newarray .char, 2) := by decide +kernel
theorem dX8_init_60 : decode cX8_init 60 = .ok (.dup, 1) := by decide +kernel
theorem dX8_init_61 : decode cX8_init 61 = .ok (.iconst 0, 1) := by decide +kernel
theorem dX8_init_62 : decode cX8_init 62 = .ok (.bipush 98, 2) := by decide +kernel
theorem dX8_init_64 : decode cX8_init 64 = .ok (.castore, 1) := by decide +kernel
theorem dX8_init_65 : decode cX8_init 65 = .ok (.dup, 1) := by decide +kernel
theorem dX8_init_66 : decode cX8_init 66 = .ok (.iconst 1, 1) := by decide +kernel
theorem dX8_init_67 : decode cX8_init 67 = .ok (.bipush 117, 2) := by decide +kernel
theorem dX8_init_69 : decode cX8_init 69 = .ok (.castore, 1) := by decide +kernel
theorem dX8_init_70 : decode cX8_init 70 = .ok (.dup, 1) := by decide +kernel
theorem dX8_init_71 : decode cX8_init 71 = .ok (.iconst 2, 1) := by decide +kernel
theorem dX8_init_72 : decode cX8_init 72 = .ok (.bipush 114, 2) := by decide +kernel
theorem dX8_init_74 : decode cX8_init 74 = .ok (.castore, 1) := by decide +kernel
theorem dX8_init_75 : decode cX8_init 75 = .ok (.dup, 1) := by decide +kernel
theorem dX8_init_76 : decode cX8_init 76 = .ok (.iconst 3, 1) := by decide +kernel
theorem dX8_init_77 : decode cX8_init 77 = .ok (.bipush 110, 2) := by decide +kernel
theorem dX8_init_79 : decode cX8_init 79 = .ok (.castore, 1) := by decide +kernel
theorem dX8_init_80 : decode cX8_init 80 = .ok (.dup, 1) := by decide +kernel
theorem dX8_init_81 : decode cX8_init 81 = .ok (.iconst 4, 1) := by decide +kernel
theorem dX8_init_82 : decode cX8_init 82 = .ok (.bipush 102, 2) := by decide +kernel
theorem dX8_init_84 : decode cX8_init 84 = .ok (.castore, 1) := by decide +kernel
theorem dX8_init_85 : decode cX8_init 85 = .ok (.dup, 1) := by decide +kernel
theorem dX8_init_86 : decode cX8_init 86 = .ok (.iconst 5, 1) := by decide +kernel
theorem dX8_init_87 : decode cX8_init 87 = .ok (.bipush 101, 2) := by decide +kernel
theorem dX8_init_89 : decode cX8_init 89 = .ok (.castore, 1) := by decide +kernel
theorem dX8_init_90 : decode cX8_init 90 = .ok (.dup, 1) := by decide +kernel
theorem dX8_init_91 : decode cX8_init 91 = .ok (.bipush 6, 2) := by decide +kernel
theorem dX8_init_93 : decode cX8_init 93 = .ok (.bipush 101, 2) := by decide +kernel
theorem dX8_init_95 : decode cX8_init 95 = .ok (.castore, 1) := by decide +kernel
theorem dX8_init_96 : decode cX8_init 96 = .ok (.dup, 1) := by decide +kernel
theorem dX8_init_97 : decode cX8_init 97 = .ok (.bipush 7, 2) := by decide +kernel
theorem dX8_init_99 : decode cX8_init 99 = .ok (.bipush 102, 2) := by decide +kernel
theorem dX8_init_101 : decode cX8_init 101 = .ok (.castore, 1) := by decide +kernel
theorem dX8_init_102 : decode cX8_init 102 = .ok (.dup, 1) := by decide +kernel
theorem dX8_init_103 : decode cX8_init 103 = .ok (.bipush 8, 2) := by decide +kernel
theorem dX8_init_105 : decode cX8_init 105 = .ok (.bipush 105, 2) := by decide +kernel
theorem dX8_init_107 : decode cX8_init 107 = .ok (.castore, 1) := by decide +kernel
theorem dX8_init_108 : decode cX8_init 108 = .ok (.dup, 1) := by decide +kernel
theorem dX8_init_109 : decode cX8_init 109 = .ok (.bipush 9, 2) := by decide +kernel
theorem dX8_init_111 : decode cX8_init 111 = .ok (.bipush 110, 2) := by decide +kernel
theorem dX8_init_113 : decode cX8_init 113 = .ok (.castore, 1) := by decide +kernel
theorem dX8_init_114 : decode cX8_init 114 = .ok (.dup, 1) := by decide +kernel
theorem dX8_init_115 : decode cX8_init 115 = .ok (.bipush 10, 2) := by decide +kernel
theorem dX8_init_117 : decode cX8_init 117 = .ok (.bipush 101, 2) := by decide +kernel
theorem dX8_init_119 : decode cX8_init 119 = .ok (.castore, 1) := by decide +kernel
theorem dX8_init_120 : decode cX8_init 120 = .ok (.putfield 29, 3) := by decide +kernel
theorem dX8_init_123 : decode cX8_init 123 = .ok (.aload_n 0, 1) := by decide +kernel
theorem dX8_init_124 : decode cX8_init 124 = .ok (.iconst 4, 1) := by decide +kernel
theorem dX8_init_125 : decode cX8_init 125 = .ok (.newarray .int, 2) := by decide +kernel
theorem dX8_init_127 : decode cX8_init 127 = .ok (.dup, 1) := by decide +kernel
theorem dX8_init_128 : decode cX8_init 128 = .ok (.iconst 0, 1) := by decide +kernel
theorem dX8_init_129 : decode cX8_init 129 = .ok (.iconst 0, 1) := by decide +kernel
theorem dX8_init_130 : decode cX8_init 130 = .ok (.iastore, 1) := by decide +kernel
theorem dX8_init_131 : decode cX8_init 131 = .ok (.dup, 1) := by decide +kernel
theorem dX8_init_132 : decode cX8_init 132 = .ok (.iconst 1, 1) := by decide +kernel
theorem dX8_init_133 : decode cX8_init 133 = .ok (.iconst 4, 1) := by decide +kernel
theorem dX8_init_134 : decode cX8_init 134 = .ok (.iastore, 1) := by decide +kernel
theorem dX8_init_135 : decode cX8_init 135 = .ok (.dup, 1) := by decide +kernel
theorem dX8_init_136 : decode cX8_init 136 = .ok (.iconst 2, 1) := by decide +kernel
theorem dX8_init_137 : decode cX8_init 137 = .ok (.bipush 7, 2) := by decide +kernel
theorem dX8_init_139 : decode cX8_init 139 = .ok (.iastore, 1) := by decide +kernel
theorem dX8_init_140 : decode cX8_init 140 = .ok (.dup, 1) := by decide +kernel
theorem dX8_init_141 : decode cX8_init 141 = .ok (.iconst 3, 1) := by decide +kernel
theorem dX8_init_142 : decode cX8_init 142 = .ok (.bipush 11, 2) := by decide +kernel
theorem dX8_init_144 : decode cX8_init 144 = .ok (.iastore, 1) := by decide +kernel
theorem dX8_init_145 : decode cX8_init 145 = .ok (.putfield 33, 3) := by decide +kernel
theorem dX8_init_148 : decode cX8_init 148 = .ok (.aload_n 0, 1) := by decide +kernel
theorem dX8_init_149 : decode cX8_init 149 = .ok (.bipush 96, 2) := by decide +kernel
theorem dX8_init_151 : decode cX8_init 151 = .ok (.newarray .int, 2) := by decide +kernel
theorem dX8_init_153 : decode cX8_init 153 = .ok (.putfield 36, 3) := by decide +kernel
theorem dX8_init_156 : decode cX8_init 156 = .ok (.aload_n 0, 1) := by decide +kernel
theorem dX8_init_157 : decode cX8_init 157 = .ok (.bipush 96, 2) := by decide +kernel
theorem dX8_init_159 : decode cX8_init 159 = .ok (.newarray .int, 2) := by decide +kernel
theorem dX8_init_161 : decode cX8_init 161 = .ok (.putfield 39, 3) := by decide +kernel
theorem dX8_init_164 : decode cX8_init 164 = .ok (.aload_n 0, 1) := by decide +kernel
theorem dX8_init_165 : decode cX8_init 165 = .ok (.bipush 10, 2) := by decide +kernel
theorem dX8_init_167 : decode cX8_init 167 = .ok (.newarray .boolean, 2) := by decide +kernel
theorem dX8_init_169 : decode cX8_init 169 = .ok (.putfield 42, 3) := by decide +kernel
theorem dX8_init_172 : decode cX8_init 172 = .ok (.aload_n 0, 1) := by decide +kernel
theorem dX8_init_173 : decode cX8_init 173 = .ok (.bipush 96, 2) := by decide +kernel
theorem dX8_init_175 : decode cX8_init 175 = .ok (.newarray .int, 2) := by decide +kernel
theorem dX8_init_177 : decode cX8_init 177 = .ok (.putfield 45, 3) := by decide +kernel
theorem dX8_init_180 : decode cX8_init 180 = .ok (.aload_n 0, 1) := by decide +kernel
theorem dX8_init_181 : decode cX8_init 181 = .ok (.iconst 4, 1) := by decide +kernel
theorem dX8_init_182 : decode cX8_init 182 = .ok (.newarray .int, 2) := by decide +kernel
theorem dX8_init_184 : decode cX8_init 184 = .ok (.putfield 48, 3) := by decide +kernel
theorem dX8_init_187 : decode cX8_init 187 = .ok (.aload_n 0, 1) := by decide +kernel
theorem dX8_init_188 : decode cX8_init 188 = .ok (.iconst 4, 1) := by decide +kernel
theorem dX8_init_189 : decode cX8_init 189 = .ok (.newarray .int, 2) := by decide +kernel
theorem dX8_init_191 : decode cX8_init 191 = .ok (.dup, 1) := by decide +kernel
theorem dX8_init_192 : decode cX8_init 192 = .ok (.iconst 0, 1) := by decide +kernel
theorem dX8_init_193 : decode cX8_init 193 = .ok (.iconst (-1), 1) := by decide +kernel
theorem dX8_init_194 : decode cX8_init 194 = .ok (.iastore, 1) := by decide +kernel
theorem dX8_init_195 : decode cX8_init 195 = .ok (.dup, 1) := by decide +kernel
theorem dX8_init_196 : decode cX8_init 196 = .ok (.iconst 1, 1) := by decide +kernel
theorem dX8_init_197 : decode cX8_init 197 = .ok (.iconst (-1), 1) := by decide +kernel
theorem dX8_init_198 : decode cX8_init 198 = .ok (.iastore, 1) := by decide +kernel
theorem dX8_init_199 : decode cX8_init 199 = .ok (.dup, 1) := by decide +kernel
theorem dX8_init_200 : decode cX8_init 200 = .ok (.iconst 2, 1) := by decide +kernel
theorem dX8_init_201 : decode cX8_init 201 = .ok (.iconst (-1), 1) := by decide +kernel
theorem dX8_init_202 : decode cX8_init 202 = .ok (.iastore, 1) := by decide +kernel
theorem dX8_init_203 : decode cX8_init 203 = .ok (.dup, 1) := by decide +kernel
theorem dX8_init_204 : decode cX8_init 204 = .ok (.iconst 3, 1) := by decide +kernel
theorem dX8_init_205 : decode cX8_init 205 = .ok (.iconst (-1), 1) := by decide +kernel
theorem dX8_init_206 : decode cX8_init 206 = .ok (.iastore, 1) := by decide +kernel
theorem dX8_init_207 : decode cX8_init 207 = .ok (.putfield 51, 3) := by decide +kernel
theorem dX8_init_210 : decode cX8_init 210 = .ok (.aload_n 0, 1) := by decide +kernel
theorem dX8_init_211 : decode cX8_init 211 = .ok (.iconst 4, 1) := by decide +kernel
theorem dX8_init_212 : decode cX8_init 212 = .ok (.newarray .int, 2) := by decide +kernel
theorem dX8_init_214 : decode cX8_init 214 = .ok (.putfield 54, 3) := by decide +kernel
theorem dX8_init_217 : decode cX8_init 217 = .ok (.aload_n 0, 1) := by decide +kernel
theorem dX8_init_218 : decode cX8_init 218 = .ok (.bipush 96, 2) := by decide +kernel
theorem dX8_init_220 : decode cX8_init 220 = .ok (.newarray .int, 2) := by decide +kernel
theorem dX8_init_222 : decode cX8_init 222 = .ok (.putfield 57, 3) := by decide +kernel
theorem dX8_init_225 : decode cX8_init 225 = .ok (.aload_n 0, 1) := by decide +kernel
theorem dX8_init_226 : decode cX8_init 226 = .ok (.iconst 5, 1) := by decide +kernel
theorem dX8_init_227 : decode cX8_init 227 = .ok (.newarray .int, 2) := by decide +kernel
theorem dX8_init_229 : decode cX8_init 229 = .ok (.putfield 60, 3) := by decide +kernel
theorem dX8_init_232 : decode cX8_init 232 = .ok (.aload_n 0, 1) := by decide +kernel
theorem dX8_init_233 : decode cX8_init 233 = .ok (.iconst 5, 1) := by decide +kernel
theorem dX8_init_234 : decode cX8_init 234 = .ok (.newarray .int, 2) := by decide +kernel
theorem dX8_init_236 : decode cX8_init 236 = .ok (.putfield 63, 3) := by decide +kernel
theorem dX8_init_239 : decode cX8_init 239 = .ok (.aload_n 0, 1) := by decide +kernel
theorem dX8_init_240 : decode cX8_init 240 = .ok (.iconst 5, 1) := by decide +kernel
theorem dX8_init_241 : decode cX8_init 241 = .ok (.newarray .int, 2) := by decide +kernel
theorem dX8_init_243 : decode cX8_init 243 = .ok (.putfield 66, 3) := by decide +kernel
theorem dX8_init_246 : decode cX8_init 246 = .ok (.aload_n 0, 1) := by decide +kernel
theorem dX8_init_247 : decode cX8_init 247 = .ok (.bipush 120, 2) := by decide +kernel
theorem dX8_init_249 : decode cX8_init 249 = .ok (.newarray .int, 2) := by decide +kernel
theorem dX8_init_251 : decode cX8_init 251 = .ok (.putfield 69, 3) := by decide +kernel
theorem dX8_init_254 : decode cX8_init 254 = .ok (.aload_n 0, 1) := by decide +kernel
theorem dX8_init_255 : decode cX8_init 255 = .ok (.bipush 24, 2) := by decide +kernel
theorem dX8_init_257 : decode cX8_init 257 = .ok (.newarray .int, 2) := by decide +kernel
theorem dX8_init_259 : decode cX8_init 259 = .ok (.putfield 72, 3) := by decide +kernel
theorem dX8_init_262 : decode cX8_init 262 = .ok (.aload_n 0, 1) := by decide +kernel
theorem dX8_init_263 : decode cX8_init 263 = .ok (.bipush 60, 2) := by decide +kernel
theorem dX8_init_265 : decode cX8_init 265 = .ok (.newarray .int, 2) := by decide +kernel
theorem dX8_init_267 : decode cX8_init 267 = .ok (.putfield 75, 3) := by decide +kernel
theorem dX8_init_270 : decode cX8_init 270 = .ok (.aload_n 0, 1) := by decide +kernel
theorem dX8_init_271 : decode cX8_init 271 = .ok (.getfield 9, 3) := by decide +kernel
theorem dX8_init_274 : decode cX8_init 274 = .ok (.iconst 0, 1) := by decide +kernel
theorem dX8_init_275 : decode cX8_init 275 = .ok (.iconst 1, 1) := by decide +kernel
theorem dX8_init_276 : decode cX8_init 276 = .ok (.iastore, 1) := by decide +kernel
theorem dX8_init_277 : decode cX8_init 277 = .ok (.aload_n 0, 1) := by decide +kernel
theorem dX8_init_278 : decode cX8_init 278 = .ok (.getfield 9, 3) := by decide +kernel
theorem dX8_init_281 : decode cX8_init 281 = .ok (.iconst 4, 1) := by decide +kernel
theorem dX8_init_282 : decode cX8_init 282 = .ok (.bipush 10, 2) := by decide +kernel
theorem dX8_init_284 : decode cX8_init 284 = .ok (.iastore, 1) := by decide +kernel
theorem dX8_init_285 : decode cX8_init 285 = .ok (.return_, 1) := by decide +kernel
theorem dX8_in_0 : decode cX8_in 0 = .ok (.iload_n 0, 1) := by decide +kernel
theorem dX8_in_1 : decode cX8_in 1 = .ok (.iload_n 1, 1) := by decide +kernel
theorem dX8_in_2 : decode cX8_in 2 = .ok (.if_icmp .lt 12, 3) := by decide +kernel
theorem dX8_in_5 : decode cX8_in 5 = .ok (.iload_n 0, 1) := by decide +kernel
theorem dX8_in_6 : decode cX8_in 6 = .ok (.iload_n 2, 1) := by decide +kernel
theorem dX8_in_7 : decode cX8_in 7 = .ok (.if_icmp .gt 7, 3) := by decide +kernel
theorem dX8_in_10 : decode cX8_in 10 = .ok (.iconst 1, 1) := by decide +kernel
theorem dX8_in_11 : decode cX8_in 11 = .ok (.goto 4, 3) := by decide +kernel
theorem dX8_in_14 : decode cX8_in 14 = .ok (.iconst 0, 1) := by decide +kernel
theorem dX8_in_15 : decode cX8_in 15 = .ok (.ireturn, 1) := by decide +kernel
theorem dX8_within_0 : decode cX8_within 0 = .ok (.iload_n 0, 1) := by decide +kernel
theorem dX8_within_1 : decode cX8_within 1 = .ok (.iload_n 1, 1) := by decide +kernel
theorem dX8_within_2 : decode cX8_within 2 = .ok (.if_icmp .ge 7, 3) := by decide +kernel
theorem dX8_within_5 : decode cX8_within 5 = .ok (.iload_n 1, 1) := by decide +kernel
theorem dX8_within_6 : decode cX8_within 6 = .ok (.goto 13, 3) := by decide +kernel
theorem dX8_within_9 : decode cX8_within 9 = .ok (.iload_n 0, 1) := by decide +kernel
theorem dX8_within_10 : decode cX8_within 10 = .ok (.iload_n 2, 1) := by decide +kernel
theorem dX8_within_11 : decode cX8_within 11 = .ok (.if_icmp .le 7, 3) := by decide +kernel
theorem dX8_within_14 : decode cX8_within 14 = .ok (.iload_n 2, 1) := by decide +kernel
theorem dX8_within_15 : decode cX8_within 15 = .ok (.goto 4, 3) := by decide +kernel
theorem dX8_within_18 : decode cX8_within 18 = .ok (.iload_n 0, 1) := by decide +kernel
theorem dX8_within_19 : decode cX8_within 19 = .ok (.ireturn, 1) := by decide +kernel
theorem dX8_copyAll_0 : decode cX8_copyAll 0 = .ok (.iconst 0, 1) := by decide +kernel
theorem dX8_copyAll_1 : decode cX8_copyAll 1 = .ok (.istore_n 2, 1) := by decide +kernel
theorem dX8_copyAll_2 : decode cX8_copyAll 2 = .ok (.iload_n 2, 1) := by decide +kernel
theorem dX8_copyAll_3 : decode cX8_copyAll 3 = .ok (.sipush 1468, 3) := by decide +kernel
theorem dX8_copyAll_6 : decode cX8_copyAll 6 = .ok (.if_icmp .ge 15, 3) := by decide +kernel
theorem dX8_copyAll_9 : decode cX8_copyAll 9 = .ok (.aload_n 1, 1) := by decide +kernel
theorem dX8_copyAll_10 : decode cX8_copyAll 10 = .ok (.iload_n 2, 1) := by decide +kernel
theorem dX8_copyAll_11 : decode cX8_copyAll 11 = .ok (.aload_n 0, 1) := by decide +kernel
theorem dX8_copyAll_12 : decode cX8_copyAll 12 = .ok (.iload_n 2, 1) := by decide +kernel
theorem dX8_copyAll_13 : decode cX8_copyAll 13 = .ok (.iaload, 1) := by decide +kernel
theorem dX8_copyAll_14 : decode cX8_copyAll 14 = .ok (.iastore, 1) := by decide +kernel
theorem dX8_copyAll_15 : decode cX8_copyAll 15 = .ok (.iinc 2 1, 3) := by decide +kernel
theorem dX8_copyAll_18 : decode cX8_copyAll 18 = .ok (.goto (-16), 3) := by decide +kernel
theorem dX8_copyAll_21 : decode cX8_copyAll 21 = .ok (.return_, 1) := by decide +kernel
theorem dX8_isLodger_0 : decode cX8_isLodger 0 = .ok (.iload_n 1, 1) := by decide +kernel
theorem dX8_isLodger_1 : decode cX8_isLodger 1 = .ok (.iconst 0, 1) := by decide +kernel
theorem dX8_isLodger_2 : decode cX8_isLodger 2 = .ok (.aload_n 0, 1) := by decide +kernel
theorem dX8_isLodger_3 : decode cX8_isLodger 3 = .ok (.getfield 9, 3) := by decide +kernel
theorem dX8_isLodger_6 : decode cX8_isLodger 6 = .ok (.iconst 1, 1) := by decide +kernel
theorem dX8_isLodger_7 : decode cX8_isLodger 7 = .ok (.iaload, 1) := by decide +kernel
theorem dX8_isLodger_8 : decode cX8_isLodger 8 = .ok (.iconst 1, 1) := by decide +kernel
theorem dX8_isLodger_9 : decode cX8_isLodger 9 = .ok (.isub, 1) := by decide +kernel
theorem dX8_isLodger_10 : decode cX8_isLodger 10 = .ok (.invokestatic 78, 3) := by decide +kernel
theorem dX8_isLodger_13 : decode cX8_isLodger 13 = .ok (.ireturn, 1) := by decide +kernel
theorem dX8_of_0 : decode cX8_of 0 = .ok (.aload_n 0, 1) := by decide +kernel
theorem dX8_of_1 : decode cX8_of 1 = .ok (.getfield 9, 3) := by decide +kernel
theorem dX8_of_4 : decode cX8_of 4 = .ok (.bipush 6, 2) := by decide +kernel
theorem dX8_of_6 : decode cX8_of 6 = .ok (.bipush 9, 2) := by decide +kernel
theorem dX8_of_8 : decode cX8_of 8 = .ok (.iload_n 1, 1) := by decide +kernel
theorem dX8_of_9 : decode cX8_of 9 = .ok (.imul, 1) := by decide +kernel
theorem dX8_of_10 : decode cX8_of 10 = .ok (.iadd, 1) := by decide +kernel
theorem dX8_of_11 : decode cX8_of 11 = .ok (.iload_n 2, 1) := by decide +kernel
theorem dX8_of_12 : decode cX8_of 12 = .ok (.iadd, 1) := by decide +kernel
theorem dX8_of_13 : decode cX8_of 13 = .ok (.iaload, 1) := by decide +kernel
theorem dX8_of_14 : decode cX8_of 14 = .ok (.ireturn, 1) := by decide +kernel
theorem dX8_put_0 : decode cX8_put 0 = .ok (.aload_n 0, 1) := by decide +kernel
theorem dX8_put_1 : decode cX8_put 1 = .ok (.getfield 9, 3) := by decide +kernel
theorem dX8_put_4 : decode cX8_put 4 = .ok (.bipush 6, 2) := by decide +kernel
theorem dX8_put_6 : decode cX8_put 6 = .ok (.bipush 9, 2) := by decide +kernel
theorem dX8_put_8 : decode cX8_put 8 = .ok (.iload_n 1, 1) := by decide +kernel
theorem dX8_put_9 : decode cX8_put 9 = .ok (.imul, 1) := by decide +kernel
theorem dX8_put_10 : decode cX8_put 10 = .ok (.iadd, 1) := by decide +kernel
theorem dX8_put_11 : decode cX8_put 11 = .ok (.iload_n 2, 1) := by decide +kernel
theorem dX8_put_12 : decode cX8_put 12 = .ok (.iadd, 1) := by decide +kernel
theorem dX8_put_13 : decode cX8_put 13 = .ok (.iload_n 3, 1) := by decide +kernel
theorem dX8_put_14 : decode cX8_put 14 = .ok (.iastore, 1) := by decide +kernel
theorem dX8_put_15 : decode cX8_put 15 = .ok (.return_, 1) := by decide +kernel
theorem dX8_becomes_0 : decode cX8_becomes 0 = .ok (.aload_n 0, 1) := by decide +kernel
theorem dX8_becomes_1 : decode cX8_becomes 1 = .ok (.getfield 9, 3) := by decide +kernel
theorem dX8_becomes_4 : decode cX8_becomes 4 = .ok (.iload_n 1, 1) := by decide +kernel
theorem dX8_becomes_5 : decode cX8_becomes 5 = .ok (.iaload, 1) := by decide +kernel
theorem dX8_becomes_6 : decode cX8_becomes 6 = .ok (.istore_n 3, 1) := by decide +kernel
theorem dX8_becomes_7 : decode cX8_becomes 7 = .ok (.aload_n 0, 1) := by decide +kernel
theorem dX8_becomes_8 : decode cX8_becomes 8 = .ok (.getfield 9, 3) := by decide +kernel
theorem dX8_becomes_11 : decode cX8_becomes 11 = .ok (.iload_n 1, 1) := by decide +kernel
theorem dX8_becomes_12 : decode cX8_becomes 12 = .ok (.iload_n 2, 1) := by decide +kernel
theorem dX8_becomes_13 : decode cX8_becomes 13 = .ok (.iastore, 1) := by decide +kernel
theorem dX8_becomes_14 : decode cX8_becomes 14 = .ok (.iload_n 3, 1) := by decide +kernel
theorem dX8_becomes_15 : decode cX8_becomes 15 = .ok (.ireturn, 1) := by decide +kernel
theorem dX8_comes_0 : decode cX8_comes 0 = .ok (.aload_n 0, 1) := by decide +kernel
theorem dX8_comes_1 : decode cX8_comes 1 = .ok (.getfield 9, 3) := by decide +kernel
theorem dX8_comes_4 : decode cX8_comes 4 = .ok (.iconst 1, 1) := by decide +kernel
theorem dX8_comes_5 : decode cX8_comes 5 = .ok (.iaload, 1) := by decide +kernel
theorem dX8_comes_6 : decode cX8_comes 6 = .ok (.istore 4, 2) := by decide +kernel
theorem dX8_comes_8 : decode cX8_comes 8 = .ok (.iconst 0, 1) := by decide +kernel
theorem dX8_comes_9 : decode cX8_comes 9 = .ok (.istore 5, 2) := by decide +kernel
theorem dX8_comes_11 : decode cX8_comes 11 = .ok (.iload 5, 2) := by decide +kernel
theorem dX8_comes_13 : decode cX8_comes 13 = .ok (.bipush 9, 2) := by decide +kernel
theorem dX8_comes_15 : decode cX8_comes 15 = .ok (.if_icmp .ge 18, 3) := by decide +kernel
theorem dX8_comes_18 : decode cX8_comes 18 = .ok (.aload_n 0, 1) := by decide +kernel
theorem dX8_comes_19 : decode cX8_comes 19 = .ok (.iload 4, 2) := by decide +kernel
theorem dX8_comes_21 : decode cX8_comes 21 = .ok (.iload 5, 2) := by decide +kernel
theorem dX8_comes_23 : decode cX8_comes 23 = .ok (.iconst 0, 1) := by decide +kernel
theorem dX8_comes_24 : decode cX8_comes 24 = .ok (.invokevirtual 82, 3) := by decide +kernel
theorem dX8_comes_27 : decode cX8_comes 27 = .ok (.iinc 5 1, 3) := by decide +kernel
theorem dX8_comes_30 : decode cX8_comes 30 = .ok (.goto (-19), 3) := by decide +kernel
theorem dX8_comes_33 : decode cX8_comes 33 = .ok (.aload_n 0, 1) := by decide +kernel
theorem dX8_comes_34 : decode cX8_comes 34 = .ok (.iload 4, 2) := by decide +kernel
theorem dX8_comes_36 : decode cX8_comes 36 = .ok (.iconst 0, 1) := by decide +kernel
theorem dX8_comes_37 : decode cX8_comes 37 = .ok (.iload_n 1, 1) := by decide +kernel
theorem dX8_comes_38 : decode cX8_comes 38 = .ok (.invokevirtual 82, 3) := by decide +kernel
theorem dX8_comes_41 : decode cX8_comes 41 = .ok (.aload_n 0, 1) := by decide +kernel
theorem dX8_comes_42 : decode cX8_comes 42 = .ok (.iload 4, 2) := by decide +kernel
theorem dX8_comes_44 : decode cX8_comes 44 = .ok (.iconst 1, 1) := by decide +kernel
theorem dX8_comes_45 : decode cX8_comes 45 = .ok (.iload_n 2, 1) := by decide +kernel
theorem dX8_comes_46 : decode cX8_comes 46 = .ok (.invokevirtual 82, 3) := by decide +kernel
theorem dX8_comes_49 : decode cX8_comes 49 = .ok (.aload_n 0, 1) := by decide +kernel
theorem dX8_comes_50 : decode cX8_comes 50 = .ok (.iload 4, 2) := by decide +kernel
theorem dX8_comes_52 : decode cX8_comes 52 = .ok (.iconst 2, 1) := by decide +kernel
theorem dX8_comes_53 : decode cX8_comes 53 = .ok (.iload_n 3, 1) := by decide +kernel
theorem dX8_comes_54 : decode cX8_comes 54 = .ok (.invokevirtual 82, 3) := by decide +kernel
theorem dX8_comes_57 : decode cX8_comes 57 = .ok (.aload_n 0, 1) := by decide +kernel
theorem dX8_comes_58 : decode cX8_comes 58 = .ok (.getfield 9, 3) := by decide +kernel
theorem dX8_comes_61 : decode cX8_comes 61 = .ok (.iconst 1, 1) := by decide +kernel
theorem dX8_comes_62 : decode cX8_comes 62 = .ok (.dup2, 1) := by decide +kernel
theorem dX8_comes_63 : decode cX8_comes 63 = .ok (.iaload, 1) := by decide +kernel
theorem dX8_comes_64 : decode cX8_comes 64 = .ok (.iconst 1, 1) := by decide +kernel
theorem dX8_comes_65 : decode cX8_comes 65 = .ok (.iadd, 1) := by decide +kernel
theorem dX8_comes_66 : decode cX8_comes 66 = .ok (.iastore, 1) := by decide +kernel
theorem dX8_comes_67 : decode cX8_comes 67 = .ok (.iload 4, 2) := by decide +kernel
theorem dX8_comes_69 : decode cX8_comes 69 = .ok (.ireturn, 1) := by decide +kernel
theorem dX8_isOf_0 : decode cX8_isOf 0 = .ok (.iload_n 1, 1) := by decide +kernel
theorem dX8_isOf_1 : decode cX8_isOf 1 = .ok (.iload_n 0, 1) := by decide +kernel
theorem dX8_isOf_2 : decode cX8_isOf 2 = .ok (.iconst 3, 1) := by decide +kernel
theorem dX8_isOf_3 : decode cX8_isOf 3 = .ok (.if_icmp .ne 8, 3) := by decide +kernel
theorem dX8_isOf_6 : decode cX8_isOf 6 = .ok (.bipush (-60), 2) := by decide +kernel
theorem dX8_isOf_8 : decode cX8_isOf 8 = .ok (.goto 4, 3) := by decide +kernel
theorem dX8_isOf_11 : decode cX8_isOf 11 = .ok (.iconst 0, 1) := by decide +kernel
theorem dX8_isOf_12 : decode cX8_isOf 12 = .ok (.iload_n 0, 1) := by decide +kernel
theorem dX8_isOf_13 : decode cX8_isOf 13 = .ok (.iconst 1, 1) := by decide +kernel
theorem dX8_isOf_14 : decode cX8_isOf 14 = .ok (.if_icmp .ne 7, 3) := by decide +kernel
theorem dX8_isOf_17 : decode cX8_isOf 17 = .ok (.iconst 2, 1) := by decide +kernel
theorem dX8_isOf_18 : decode cX8_isOf 18 = .ok (.goto 27, 3) := by decide +kernel
theorem dX8_isOf_21 : decode cX8_isOf 21 = .ok (.iload_n 0, 1) := by decide +kernel
theorem dX8_isOf_22 : decode cX8_isOf 22 = .ok (.iconst 2, 1) := by decide +kernel
theorem dX8_isOf_23 : decode cX8_isOf 23 = .ok (.if_icmp .ne 9, 3) := by decide +kernel
theorem dX8_isOf_26 : decode cX8_isOf 26 = .ok (.sipush 599, 3) := by decide +kernel
theorem dX8_isOf_29 : decode cX8_isOf 29 = .ok (.goto 16, 3) := by decide +kernel
theorem dX8_isOf_32 : decode cX8_isOf 32 = .ok (.iload_n 0, 1) := by decide +kernel
theorem dX8_isOf_33 : decode cX8_isOf 33 = .ok (.iconst 3, 1) := by decide +kernel
theorem dX8_isOf_34 : decode cX8_isOf 34 = .ok (.if_icmp .ne 8, 3) := by decide +kernel
theorem dX8_isOf_37 : decode cX8_isOf 37 = .ok (.bipush 60, 2) := by decide +kernel
theorem dX8_isOf_39 : decode cX8_isOf 39 = .ok (.goto 6, 3) := by decide +kernel
theorem dX8_isOf_42 : decode cX8_isOf 42 = .ok (.sipush 300, 3) := by decide +kernel
theorem dX8_isOf_45 : decode cX8_isOf 45 = .ok (.invokestatic 78, 3) := by decide +kernel
theorem dX8_isOf_48 : decode cX8_isOf 48 = .ok (.ireturn, 1) := by decide +kernel
theorem dX8_lodger_0 : decode cX8_lodger 0 = .ok (.iload_n 1, 1) := by decide +kernel
theorem dX8_lodger_1 : decode cX8_lodger 1 = .ok (.iconst 0, 1) := by decide +kernel
theorem dX8_lodger_2 : decode cX8_lodger 2 = .ok (.iconst 5, 1) := by decide +kernel
theorem dX8_lodger_3 : decode cX8_lodger 3 = .ok (.invokestatic 78, 3) := by decide +kernel
theorem dX8_lodger_6 : decode cX8_lodger 6 = .ok (.ifCond .eq 19, 3) := by decide +kernel
theorem dX8_lodger_9 : decode cX8_lodger 9 = .ok (.iconst 1, 1) := by decide +kernel
theorem dX8_lodger_10 : decode cX8_lodger 10 = .ok (.iload_n 2, 1) := by decide +kernel
theorem dX8_lodger_11 : decode cX8_lodger 11 = .ok (.invokestatic 86, 3) := by decide +kernel
theorem dX8_lodger_14 : decode cX8_lodger 14 = .ok (.ifCond .eq 11, 3) := by decide +kernel
theorem dX8_lodger_17 : decode cX8_lodger 17 = .ok (.iconst 2, 1) := by decide +kernel
theorem dX8_lodger_18 : decode cX8_lodger 18 = .ok (.iload_n 3, 1) := by decide +kernel
theorem dX8_lodger_19 : decode cX8_lodger 19 = .ok (.invokestatic 86, 3) := by decide +kernel
theorem dX8_lodger_22 : decode cX8_lodger 22 = .ok (.ifCond .ne 6, 3) := by decide +kernel
theorem dX8_lodger_25 : decode cX8_lodger 25 = .ok (.ldc 90, 2) := by decide +kernel
theorem dX8_lodger_27 : decode cX8_lodger 27 = .ok (.ireturn, 1) := by decide +kernel
theorem dX8_lodger_28 : decode cX8_lodger 28 = .ok (.aload_n 0, 1) := by decide +kernel
theorem dX8_lodger_29 : decode cX8_lodger 29 = .ok (.getfield 9, 3) := by decide +kernel
theorem dX8_lodger_32 : decode cX8_lodger 32 = .ok (.iconst 1, 1) := by decide +kernel
theorem dX8_lodger_33 : decode cX8_lodger 33 = .ok (.iaload, 1) := by decide +kernel
theorem dX8_lodger_34 : decode cX8_lodger 34 = .ok (.bipush 10, 2) := by decide +kernel
theorem dX8_lodger_36 : decode cX8_lodger 36 = .ok (.if_icmp .ne 8, 3) := by decide +kernel
theorem dX8_lodger_39 : decode cX8_lodger 39 = .ok (.ldc 91, 2) := by decide +kernel
theorem dX8_lodger_41 : decode cX8_lodger 41 = .ok (.goto 10, 3) := by decide +kernel
theorem dX8_lodger_44 : decode cX8_lodger 44 = .ok (.aload_n 0, 1) := by decide +kernel
theorem dX8_lodger_45 : decode cX8_lodger 45 = .ok (.iload_n 1, 1) := by decide +kernel
theorem dX8_lodger_46 : decode cX8_lodger 46 = .ok (.iload_n 2, 1) := by decide +kernel
theorem dX8_lodger_47 : decode cX8_lodger 47 = .ok (.iload_n 3, 1) := by decide +kernel
theorem dX8_lodger_48 : decode cX8_lodger 48 = .ok (.invokevirtual 92, 3) := by decide +kernel
theorem dX8_lodger_51 : decode cX8_lodger 51 = .ok (.ireturn, 1) := by decide +kernel
theorem dX8_worthOf_0 : decode cX8_worthOf 0 = .ok (.aload_n 0, 1) := by decide +kernel
theorem dX8_worthOf_1 : decode cX8_worthOf 1 = .ok (.iload_n 1, 1) := by decide +kernel
theorem dX8_worthOf_2 : decode cX8_worthOf 2 = .ok (.iconst 2, 1) := by decide +kernel
theorem dX8_worthOf_3 : decode cX8_worthOf 3 = .ok (.invokevirtual 96, 3) := by decide +kernel
theorem dX8_worthOf_6 : decode cX8_worthOf 6 = .ok (.bipush 10, 2) := by decide +kernel
theorem dX8_worthOf_8 : decode cX8_worthOf 8 = .ok (.idiv, 1) := by decide +kernel
theorem dX8_worthOf_9 : decode cX8_worthOf 9 = .ok (.istore_n 2, 1) := by decide +kernel
theorem dX8_worthOf_10 : decode cX8_worthOf 10 = .ok (.aload_n 0, 1) := by decide +kernel
theorem dX8_worthOf_11 : decode cX8_worthOf 11 = .ok (.iload_n 1, 1) := by decide +kernel
theorem dX8_worthOf_12 : decode cX8_worthOf 12 = .ok (.iconst 0, 1) := by decide +kernel
theorem dX8_worthOf_13 : decode cX8_worthOf 13 = .ok (.invokevirtual 96, 3) := by decide +kernel
theorem dX8_worthOf_16 : decode cX8_worthOf 16 = .ok (.tableswitch 58 1 5 #[36, 40, 45, 51, 56], 36) := by decide +kernel
theorem dX8_worthOf_52 : decode cX8_worthOf 52 = .ok (.iload_n 2, 1) := by decide +kernel
theorem dX8_worthOf_53 : decode cX8_worthOf 53 = .ok (.iconst 5, 1) := by decide +kernel
theorem dX8_worthOf_54 : decode cX8_worthOf 54 = .ok (.iadd, 1) := by decide +kernel
theorem dX8_worthOf_55 : decode cX8_worthOf 55 = .ok (.ireturn, 1) := by decide +kernel
theorem dX8_worthOf_56 : decode cX8_worthOf 56 = .ok (.bipush 99, 2) := by decide +kernel
theorem dX8_worthOf_58 : decode cX8_worthOf 58 = .ok (.iload_n 2, 1) := by decide +kernel
theorem dX8_worthOf_59 : decode cX8_worthOf 59 = .ok (.isub, 1) := by decide +kernel
theorem dX8_worthOf_60 : decode cX8_worthOf 60 = .ok (.ireturn, 1) := by decide +kernel
theorem dX8_worthOf_61 : decode cX8_worthOf 61 = .ok (.iconst 2, 1) := by decide +kernel
theorem dX8_worthOf_62 : decode cX8_worthOf 62 = .ok (.iload_n 2, 1) := by decide +kernel
theorem dX8_worthOf_63 : decode cX8_worthOf 63 = .ok (.iconst 5, 1) := by decide +kernel
theorem dX8_worthOf_64 : decode cX8_worthOf 64 = .ok (.iadd, 1) := by decide +kernel
theorem dX8_worthOf_65 : decode cX8_worthOf 65 = .ok (.imul, 1) := by decide +kernel
theorem dX8_worthOf_66 : decode cX8_worthOf 66 = .ok (.ireturn, 1) := by decide +kernel
theorem dX8_worthOf_67 : decode cX8_worthOf 67 = .ok (.bipush 90, 2) := by decide +kernel
theorem dX8_worthOf_69 : decode cX8_worthOf 69 = .ok (.iload_n 2, 1) := by decide +kernel
theorem dX8_worthOf_70 : decode cX8_worthOf 70 = .ok (.isub, 1) := by decide +kernel
theorem dX8_worthOf_71 : decode cX8_worthOf 71 = .ok (.ireturn, 1) := by decide +kernel
theorem dX8_worthOf_72 : decode cX8_worthOf 72 = .ok (.iconst 1, 1) := by decide +kernel
theorem dX8_worthOf_73 : decode cX8_worthOf 73 = .ok (.ireturn, 1) := by decide +kernel
theorem dX8_worthOf_74 : decode cX8_worthOf 74 = .ok (.iload_n 2, 1) := by decide +kernel
theorem dX8_worthOf_75 : decode cX8_worthOf 75 = .ok (.ireturn, 1) := by decide +kernel
theorem dX8_told_0 : decode cX8_told 0 = .ok (.aload_n 0, 1) := by decide +kernel
theorem dX8_told_1 : decode cX8_told 1 = .ok (.iload_n 1, 1) := by decide +kernel
theorem dX8_told_2 : decode cX8_told 2 = .ok (.invokevirtual 100, 3) := by decide +kernel
theorem dX8_told_5 : decode cX8_told 5 = .ok (.ifCond .eq 13, 3) := by decide +kernel
theorem dX8_told_8 : decode cX8_told 8 = .ok (.iload_n 2, 1) := by decide +kernel
theorem dX8_told_9 : decode cX8_told 9 = .ok (.iconst 0, 1) := by decide +kernel
theorem dX8_told_10 : decode cX8_told 10 = .ok (.bipush 9, 2) := by decide +kernel
theorem dX8_told_12 : decode cX8_told 12 = .ok (.invokestatic 78, 3) := by decide +kernel
theorem dX8_told_15 : decode cX8_told 15 = .ok (.ifCond .ne 6, 3) := by decide +kernel
theorem dX8_told_18 : decode cX8_told 18 = .ok (.ldc 90, 2) := by decide +kernel
theorem dX8_told_20 : decode cX8_told 20 = .ok (.ireturn, 1) := by decide +kernel
theorem dX8_told_21 : decode cX8_told 21 = .ok (.iload_n 2, 1) := by decide +kernel
theorem dX8_told_22 : decode cX8_told 22 = .ok (.bipush 9, 2) := by decide +kernel
theorem dX8_told_24 : decode cX8_told 24 = .ok (.if_icmp .ge 12, 3) := by decide +kernel
theorem dX8_told_27 : decode cX8_told 27 = .ok (.aload_n 0, 1) := by decide +kernel
theorem dX8_told_28 : decode cX8_told 28 = .ok (.iload_n 1, 1) := by decide +kernel
theorem dX8_told_29 : decode cX8_told 29 = .ok (.iload_n 2, 1) := by decide +kernel
theorem dX8_told_30 : decode cX8_told 30 = .ok (.invokevirtual 96, 3) := by decide +kernel
theorem dX8_told_33 : decode cX8_told 33 = .ok (.goto 8, 3) := by decide +kernel
theorem dX8_told_36 : decode cX8_told 36 = .ok (.aload_n 0, 1) := by decide +kernel
theorem dX8_told_37 : decode cX8_told 37 = .ok (.iload_n 1, 1) := by decide +kernel
theorem dX8_told_38 : decode cX8_told 38 = .ok (.invokevirtual 104, 3) := by decide +kernel
theorem dX8_told_41 : decode cX8_told 41 = .ok (.ireturn, 1) := by decide +kernel
theorem dX8_burnsBy_0 : decode cX8_burnsBy 0 = .ok (.aload_n 0, 1) := by decide +kernel
theorem dX8_burnsBy_1 : decode cX8_burnsBy 1 = .ok (.iconst 0, 1) := by decide +kernel
theorem dX8_burnsBy_2 : decode cX8_burnsBy 2 = .ok (.invokevirtual 108, 3) := by decide +kernel
theorem dX8_burnsBy_5 : decode cX8_burnsBy 5 = .ok (.istore_n 3, 1) := by decide +kernel
theorem dX8_burnsBy_6 : decode cX8_burnsBy 6 = .ok (.aload_n 0, 1) := by decide +kernel
theorem dX8_burnsBy_7 : decode cX8_burnsBy 7 = .ok (.getfield 48, 3) := by decide +kernel
theorem dX8_burnsBy_10 : decode cX8_burnsBy 10 = .ok (.iconst 0, 1) := by decide +kernel
theorem dX8_burnsBy_11 : decode cX8_burnsBy 11 = .ok (.aload_n 0, 1) := by decide +kernel
theorem dX8_burnsBy_12 : decode cX8_burnsBy 12 = .ok (.iload_n 1, 1) := by decide +kernel
theorem dX8_burnsBy_13 : decode cX8_burnsBy 13 = .ok (.iconst 2, 1) := by decide +kernel
theorem dX8_burnsBy_14 : decode cX8_burnsBy 14 = .ok (.invokevirtual 96, 3) := by decide +kernel
theorem dX8_burnsBy_17 : decode cX8_burnsBy 17 = .ok (.iastore, 1) := by decide +kernel
theorem dX8_burnsBy_18 : decode cX8_burnsBy 18 = .ok (.aload_n 0, 1) := by decide +kernel
theorem dX8_burnsBy_19 : decode cX8_burnsBy 19 = .ok (.getfield 48, 3) := by decide +kernel
theorem dX8_burnsBy_22 : decode cX8_burnsBy 22 = .ok (.iconst 1, 1) := by decide +kernel
theorem dX8_burnsBy_23 : decode cX8_burnsBy 23 = .ok (.aload_n 0, 1) := by decide +kernel
theorem dX8_burnsBy_24 : decode cX8_burnsBy 24 = .ok (.iload_n 1, 1) := by decide +kernel
theorem dX8_burnsBy_25 : decode cX8_burnsBy 25 = .ok (.iconst 4, 1) := by decide +kernel
theorem dX8_burnsBy_26 : decode cX8_burnsBy 26 = .ok (.invokevirtual 96, 3) := by decide +kernel
theorem dX8_burnsBy_29 : decode cX8_burnsBy 29 = .ok (.iastore, 1) := by decide +kernel
theorem dX8_burnsBy_30 : decode cX8_burnsBy 30 = .ok (.aload_n 0, 1) := by decide +kernel
theorem dX8_burnsBy_31 : decode cX8_burnsBy 31 = .ok (.getfield 48, 3) := by decide +kernel
theorem dX8_burnsBy_34 : decode cX8_burnsBy 34 = .ok (.iconst 2, 1) := by decide +kernel
theorem dX8_burnsBy_35 : decode cX8_burnsBy 35 = .ok (.iload_n 2, 1) := by decide +kernel
theorem dX8_burnsBy_36 : decode cX8_burnsBy 36 = .ok (.iastore, 1) := by decide +kernel
theorem dX8_burnsBy_37 : decode cX8_burnsBy 37 = .ok (.iload_n 3, 1) := by decide +kernel
theorem dX8_burnsBy_38 : decode cX8_burnsBy 38 = .ok (.ifCond .ge 21, 3) := by decide +kernel
theorem dX8_burnsBy_41 : decode cX8_burnsBy 41 = .ok (.aload_n 0, 1) := by decide +kernel
theorem dX8_burnsBy_42 : decode cX8_burnsBy 42 = .ok (.iload_n 1, 1) := by decide +kernel
theorem dX8_burnsBy_43 : decode cX8_burnsBy 43 = .ok (.iconst 2, 1) := by decide +kernel
theorem dX8_burnsBy_44 : decode cX8_burnsBy 44 = .ok (.invokevirtual 96, 3) := by decide +kernel
theorem dX8_burnsBy_47 : decode cX8_burnsBy 47 = .ok (.aload_n 0, 1) := by decide +kernel
theorem dX8_burnsBy_48 : decode cX8_burnsBy 48 = .ok (.iload_n 1, 1) := by decide +kernel
theorem dX8_burnsBy_49 : decode cX8_burnsBy 49 = .ok (.iconst 4, 1) := by decide +kernel
theorem dX8_burnsBy_50 : decode cX8_burnsBy 50 = .ok (.invokevirtual 96, 3) := by decide +kernel
theorem dX8_burnsBy_53 : decode cX8_burnsBy 53 = .ok (.isub, 1) := by decide +kernel
theorem dX8_burnsBy_54 : decode cX8_burnsBy 54 = .ok (.iload_n 2, 1) := by decide +kernel
theorem dX8_burnsBy_55 : decode cX8_burnsBy 55 = .ok (.iadd, 1) := by decide +kernel
theorem dX8_burnsBy_56 : decode cX8_burnsBy 56 = .ok (.goto 8, 3) := by decide +kernel
theorem dX8_burnsBy_59 : decode cX8_burnsBy 59 = .ok (.aload_n 0, 1) := by decide +kernel
theorem dX8_burnsBy_60 : decode cX8_burnsBy 60 = .ok (.iload_n 3, 1) := by decide +kernel
theorem dX8_burnsBy_61 : decode cX8_burnsBy 61 = .ok (.invokevirtual 111, 3) := by decide +kernel
theorem dX8_burnsBy_64 : decode cX8_burnsBy 64 = .ok (.iconst 0, 1) := by decide +kernel
theorem dX8_burnsBy_65 : decode cX8_burnsBy 65 = .ok (.sipush 599, 3) := by decide +kernel
theorem dX8_burnsBy_68 : decode cX8_burnsBy 68 = .ok (.invokestatic 114, 3) := by decide +kernel
theorem dX8_burnsBy_71 : decode cX8_burnsBy 71 = .ok (.istore 4, 2) := by decide +kernel
theorem dX8_burnsBy_73 : decode cX8_burnsBy 73 = .ok (.aload_n 0, 1) := by decide +kernel
theorem dX8_burnsBy_74 : decode cX8_burnsBy 74 = .ok (.iload_n 1, 1) := by decide +kernel
theorem dX8_burnsBy_75 : decode cX8_burnsBy 75 = .ok (.iconst 0, 1) := by decide +kernel
theorem dX8_burnsBy_76 : decode cX8_burnsBy 76 = .ok (.invokevirtual 96, 3) := by decide +kernel
theorem dX8_burnsBy_79 : decode cX8_burnsBy 79 = .ok (.tableswitch 93 1 5 #[33, 46, 51, 76, 91], 33) := by decide +kernel
theorem dX8_burnsBy_112 : decode cX8_burnsBy 112 = .ok (.iload 4, 2) := by decide +kernel
theorem dX8_burnsBy_114 : decode cX8_burnsBy 114 = .ok (.bipush 60, 2) := by decide +kernel
theorem dX8_burnsBy_116 : decode cX8_burnsBy 116 = .ok (.iadd, 1) := by decide +kernel
theorem dX8_burnsBy_117 : decode cX8_burnsBy 117 = .ok (.iconst 0, 1) := by decide +kernel
theorem dX8_burnsBy_118 : decode cX8_burnsBy 118 = .ok (.sipush 599, 3) := by decide +kernel
theorem dX8_burnsBy_121 : decode cX8_burnsBy 121 = .ok (.invokestatic 114, 3) := by decide +kernel
theorem dX8_burnsBy_124 : decode cX8_burnsBy 124 = .ok (.ireturn, 1) := by decide +kernel
theorem dX8_burnsBy_125 : decode cX8_burnsBy 125 = .ok (.iload 4, 2) := by decide +kernel
theorem dX8_burnsBy_127 : decode cX8_burnsBy 127 = .ok (.iconst 2, 1) := by decide +kernel
theorem dX8_burnsBy_128 : decode cX8_burnsBy 128 = .ok (.idiv, 1) := by decide +kernel
theorem dX8_burnsBy_129 : decode cX8_burnsBy 129 = .ok (.ireturn, 1) := by decide +kernel
theorem dX8_burnsBy_130 : decode cX8_burnsBy 130 = .ok (.iload_n 2, 1) := by decide +kernel
theorem dX8_burnsBy_131 : decode cX8_burnsBy 131 = .ok (.bipush 50, 2) := by decide +kernel
theorem dX8_burnsBy_133 : decode cX8_burnsBy 133 = .ok (.if_icmp .le 9, 3) := by decide +kernel
theorem dX8_burnsBy_136 : decode cX8_burnsBy 136 = .ok (.sipush 599, 3) := by decide +kernel
theorem dX8_burnsBy_139 : decode cX8_burnsBy 139 = .ok (.goto 15, 3) := by decide +kernel
theorem dX8_burnsBy_142 : decode cX8_burnsBy 142 = .ok (.iload 4, 2) := by decide +kernel
theorem dX8_burnsBy_144 : decode cX8_burnsBy 144 = .ok (.bipush 60, 2) := by decide +kernel
theorem dX8_burnsBy_146 : decode cX8_burnsBy 146 = .ok (.iadd, 1) := by decide +kernel
theorem dX8_burnsBy_147 : decode cX8_burnsBy 147 = .ok (.iconst 0, 1) := by decide +kernel
theorem dX8_burnsBy_148 : decode cX8_burnsBy 148 = .ok (.sipush 599, 3) := by decide +kernel
theorem dX8_burnsBy_151 : decode cX8_burnsBy 151 = .ok (.invokestatic 114, 3) := by decide +kernel
theorem dX8_burnsBy_154 : decode cX8_burnsBy 154 = .ok (.ireturn, 1) := by decide +kernel
theorem dX8_burnsBy_155 : decode cX8_burnsBy 155 = .ok (.iload 4, 2) := by decide +kernel
theorem dX8_burnsBy_157 : decode cX8_burnsBy 157 = .ok (.iconst 2, 1) := by decide +kernel
theorem dX8_burnsBy_158 : decode cX8_burnsBy 158 = .ok (.idiv, 1) := by decide +kernel
theorem dX8_burnsBy_159 : decode cX8_burnsBy 159 = .ok (.bipush 30, 2) := by decide +kernel
theorem dX8_burnsBy_161 : decode cX8_burnsBy 161 = .ok (.iadd, 1) := by decide +kernel
theorem dX8_burnsBy_162 : decode cX8_burnsBy 162 = .ok (.iconst 0, 1) := by decide +kernel
theorem dX8_burnsBy_163 : decode cX8_burnsBy 163 = .ok (.sipush 599, 3) := by decide +kernel
theorem dX8_burnsBy_166 : decode cX8_burnsBy 166 = .ok (.invokestatic 114, 3) := by decide +kernel
theorem dX8_burnsBy_169 : decode cX8_burnsBy 169 = .ok (.ireturn, 1) := by decide +kernel
theorem dX8_burnsBy_170 : decode cX8_burnsBy 170 = .ok (.iconst 0, 1) := by decide +kernel
theorem dX8_burnsBy_171 : decode cX8_burnsBy 171 = .ok (.ireturn, 1) := by decide +kernel
theorem dX8_burnsBy_172 : decode cX8_burnsBy 172 = .ok (.iload 4, 2) := by decide +kernel
theorem dX8_burnsBy_174 : decode cX8_burnsBy 174 = .ok (.ireturn, 1) := by decide +kernel
theorem dX8_burns_0 : decode cX8_burns 0 = .ok (.aload_n 0, 1) := by decide +kernel
theorem dX8_burns_1 : decode cX8_burns 1 = .ok (.iload_n 1, 1) := by decide +kernel
theorem dX8_burns_2 : decode cX8_burns 2 = .ok (.invokevirtual 100, 3) := by decide +kernel
theorem dX8_burns_5 : decode cX8_burns 5 = .ok (.ifCond .eq 22, 3) := by decide +kernel
theorem dX8_burns_8 : decode cX8_burns 8 = .ok (.iload_n 2, 1) := by decide +kernel
theorem dX8_burns_9 : decode cX8_burns 9 = .ok (.iconst 0, 1) := by decide +kernel
theorem dX8_burns_10 : decode cX8_burns 10 = .ok (.bipush 59, 2) := by decide +kernel
theorem dX8_burns_12 : decode cX8_burns 12 = .ok (.invokestatic 78, 3) := by decide +kernel
theorem dX8_burns_15 : decode cX8_burns 15 = .ok (.ifCond .eq 12, 3) := by decide +kernel
theorem dX8_burns_18 : decode cX8_burns 18 = .ok (.aload_n 0, 1) := by decide +kernel
theorem dX8_burns_19 : decode cX8_burns 19 = .ok (.iload_n 1, 1) := by decide +kernel
theorem dX8_burns_20 : decode cX8_burns 20 = .ok (.iload_n 2, 1) := by decide +kernel
theorem dX8_burns_21 : decode cX8_burns 21 = .ok (.invokevirtual 117, 3) := by decide +kernel
theorem dX8_burns_24 : decode cX8_burns 24 = .ok (.goto 5, 3) := by decide +kernel
theorem dX8_burns_27 : decode cX8_burns 27 = .ok (.ldc 90, 2) := by decide +kernel
theorem dX8_burns_29 : decode cX8_burns 29 = .ok (.ireturn, 1) := by decide +kernel
theorem dX8_learnsOf_0 : decode cX8_learnsOf 0 = .ok (.aload_n 0, 1) := by decide +kernel
theorem dX8_learnsOf_1 : decode cX8_learnsOf 1 = .ok (.iload_n 1, 1) := by decide +kernel
theorem dX8_learnsOf_2 : decode cX8_learnsOf 2 = .ok (.iconst 0, 1) := by decide +kernel
theorem dX8_learnsOf_3 : decode cX8_learnsOf 3 = .ok (.invokevirtual 96, 3) := by decide +kernel
theorem dX8_learnsOf_6 : decode cX8_learnsOf 6 = .ok (.istore_n 3, 1) := by decide +kernel
theorem dX8_learnsOf_7 : decode cX8_learnsOf 7 = .ok (.iload_n 2, 1) := by decide +kernel
theorem dX8_learnsOf_8 : decode cX8_learnsOf 8 = .ok (.ifCond .eq 29, 3) := by decide +kernel
theorem dX8_learnsOf_11 : decode cX8_learnsOf 11 = .ok (.iload_n 3, 1) := by decide +kernel
theorem dX8_learnsOf_12 : decode cX8_learnsOf 12 = .ok (.iconst 1, 1) := by decide +kernel
theorem dX8_learnsOf_13 : decode cX8_learnsOf 13 = .ok (.if_icmp .eq 8, 3) := by decide +kernel
theorem dX8_learnsOf_16 : decode cX8_learnsOf 16 = .ok (.iload_n 3, 1) := by decide +kernel
theorem dX8_learnsOf_17 : decode cX8_learnsOf 17 = .ok (.iconst 3, 1) := by decide +kernel
theorem dX8_learnsOf_18 : decode cX8_learnsOf 18 = .ok (.if_icmp .ne 7, 3) := by decide +kernel
theorem dX8_learnsOf_21 : decode cX8_learnsOf 21 = .ok (.iconst 5, 1) := by decide +kernel
theorem dX8_learnsOf_22 : decode cX8_learnsOf 22 = .ok (.goto 14, 3) := by decide +kernel
theorem dX8_learnsOf_25 : decode cX8_learnsOf 25 = .ok (.iload_n 3, 1) := by decide +kernel
theorem dX8_learnsOf_26 : decode cX8_learnsOf 26 = .ok (.iconst 4, 1) := by decide +kernel
theorem dX8_learnsOf_27 : decode cX8_learnsOf 27 = .ok (.if_icmp .ne 7, 3) := by decide +kernel
theorem dX8_learnsOf_30 : decode cX8_learnsOf 30 = .ok (.iconst 0, 1) := by decide +kernel
theorem dX8_learnsOf_31 : decode cX8_learnsOf 31 = .ok (.goto 5, 3) := by decide +kernel
theorem dX8_learnsOf_34 : decode cX8_learnsOf 34 = .ok (.bipush 20, 2) := by decide +kernel
theorem dX8_learnsOf_36 : decode cX8_learnsOf 36 = .ok (.ireturn, 1) := by decide +kernel
theorem dX8_learnsOf_37 : decode cX8_learnsOf 37 = .ok (.iload_n 3, 1) := by decide +kernel
theorem dX8_learnsOf_38 : decode cX8_learnsOf 38 = .ok (.iconst 3, 1) := by decide +kernel
theorem dX8_learnsOf_39 : decode cX8_learnsOf 39 = .ok (.if_icmp .ne 7, 3) := by decide +kernel
theorem dX8_learnsOf_42 : decode cX8_learnsOf 42 = .ok (.iconst (-1), 1) := by decide +kernel
theorem dX8_learnsOf_43 : decode cX8_learnsOf 43 = .ok (.goto 5, 3) := by decide +kernel
theorem dX8_learnsOf_46 : decode cX8_learnsOf 46 = .ok (.bipush (-4), 2) := by decide +kernel
theorem dX8_learnsOf_48 : decode cX8_learnsOf 48 = .ok (.ireturn, 1) := by decide +kernel
theorem dX8_isUnder_0 : decode cX8_isUnder 0 = .ok (.iload_n 1, 1) := by decide +kernel
theorem dX8_isUnder_1 : decode cX8_isUnder 1 = .ok (.ifCond .eq 28, 3) := by decide +kernel
theorem dX8_isUnder_4 : decode cX8_isUnder 4 = .ok (.iload_n 0, 1) := by decide +kernel
theorem dX8_isUnder_5 : decode cX8_isUnder 5 = .ok (.iload_n 1, 1) := by decide +kernel
theorem dX8_isUnder_6 : decode cX8_isUnder 6 = .ok (.if_icmp .eq 23, 3) := by decide +kernel
theorem dX8_isUnder_9 : decode cX8_isUnder 9 = .ok (.iload_n 1, 1) := by decide +kernel
theorem dX8_isUnder_10 : decode cX8_isUnder 10 = .ok (.iconst 1, 1) := by decide +kernel
theorem dX8_isUnder_11 : decode cX8_isUnder 11 = .ok (.if_icmp .ne 8, 3) := by decide +kernel
theorem dX8_isUnder_14 : decode cX8_isUnder 14 = .ok (.iload_n 0, 1) := by decide +kernel
theorem dX8_isUnder_15 : decode cX8_isUnder 15 = .ok (.iconst 3, 1) := by decide +kernel
theorem dX8_isUnder_16 : decode cX8_isUnder 16 = .ok (.if_icmp .eq 13, 3) := by decide +kernel
theorem dX8_isUnder_19 : decode cX8_isUnder 19 = .ok (.iload_n 1, 1) := by decide +kernel
theorem dX8_isUnder_20 : decode cX8_isUnder 20 = .ok (.iconst 2, 1) := by decide +kernel
theorem dX8_isUnder_21 : decode cX8_isUnder 21 = .ok (.if_icmp .ne 12, 3) := by decide +kernel
theorem dX8_isUnder_24 : decode cX8_isUnder 24 = .ok (.iload_n 0, 1) := by decide +kernel
theorem dX8_isUnder_25 : decode cX8_isUnder 25 = .ok (.iconst 4, 1) := by decide +kernel
theorem dX8_isUnder_26 : decode cX8_isUnder 26 = .ok (.if_icmp .ne 7, 3) := by decide +kernel
theorem dX8_isUnder_29 : decode cX8_isUnder 29 = .ok (.iconst 1, 1) := by decide +kernel
theorem dX8_isUnder_30 : decode cX8_isUnder 30 = .ok (.goto 4, 3) := by decide +kernel
theorem dX8_isUnder_33 : decode cX8_isUnder 33 = .ok (.iconst 0, 1) := by decide +kernel
theorem dX8_isUnder_34 : decode cX8_isUnder 34 = .ok (.ireturn, 1) := by decide +kernel
theorem dX8_as_0 : decode cX8_as 0 = .ok (.aload_n 0, 1) := by decide +kernel
theorem dX8_as_1 : decode cX8_as 1 = .ok (.iload_n 1, 1) := by decide +kernel
theorem dX8_as_2 : decode cX8_as 2 = .ok (.invokevirtual 100, 3) := by decide +kernel
theorem dX8_as_5 : decode cX8_as 5 = .ok (.ifCond .eq 12, 3) := by decide +kernel
theorem dX8_as_8 : decode cX8_as 8 = .ok (.iload_n 2, 1) := by decide +kernel
theorem dX8_as_9 : decode cX8_as 9 = .ok (.iconst 0, 1) := by decide +kernel
theorem dX8_as_10 : decode cX8_as 10 = .ok (.iconst 5, 1) := by decide +kernel
theorem dX8_as_11 : decode cX8_as 11 = .ok (.invokestatic 78, 3) := by decide +kernel
theorem dX8_as_14 : decode cX8_as 14 = .ok (.ifCond .ne 6, 3) := by decide +kernel
theorem dX8_as_17 : decode cX8_as 17 = .ok (.ldc 90, 2) := by decide +kernel
theorem dX8_as_19 : decode cX8_as 19 = .ok (.ireturn, 1) := by decide +kernel
theorem dX8_as_20 : decode cX8_as 20 = .ok (.aload_n 0, 1) := by decide +kernel
theorem dX8_as_21 : decode cX8_as 21 = .ok (.iload_n 1, 1) := by decide +kernel
theorem dX8_as_22 : decode cX8_as 22 = .ok (.iconst 0, 1) := by decide +kernel
theorem dX8_as_23 : decode cX8_as 23 = .ok (.invokevirtual 96, 3) := by decide +kernel
theorem dX8_as_26 : decode cX8_as 26 = .ok (.iload_n 2, 1) := by decide +kernel
theorem dX8_as_27 : decode cX8_as 27 = .ok (.invokestatic 120, 3) := by decide +kernel
theorem dX8_as_30 : decode cX8_as 30 = .ok (.ifCond .eq 12, 3) := by decide +kernel
theorem dX8_as_33 : decode cX8_as 33 = .ok (.aload_n 0, 1) := by decide +kernel
theorem dX8_as_34 : decode cX8_as 34 = .ok (.iload_n 1, 1) := by decide +kernel
theorem dX8_as_35 : decode cX8_as 35 = .ok (.iconst 2, 1) := by decide +kernel
theorem dX8_as_36 : decode cX8_as 36 = .ok (.invokevirtual 96, 3) := by decide +kernel
theorem dX8_as_39 : decode cX8_as 39 = .ok (.goto 5, 3) := by decide +kernel
theorem dX8_as_42 : decode cX8_as 42 = .ok (.ldc 123, 2) := by decide +kernel
theorem dX8_as_44 : decode cX8_as 44 = .ok (.ireturn, 1) := by decide +kernel
theorem dX8_turns_0 : decode cX8_turns 0 = .ok (.aload_n 0, 1) := by decide +kernel
theorem dX8_turns_1 : decode cX8_turns 1 = .ok (.iload_n 1, 1) := by decide +kernel
theorem dX8_turns_2 : decode cX8_turns 2 = .ok (.invokevirtual 100, 3) := by decide +kernel
theorem dX8_turns_5 : decode cX8_turns 5 = .ok (.ifCond .eq 27, 3) := by decide +kernel
theorem dX8_turns_8 : decode cX8_turns 8 = .ok (.iload_n 2, 1) := by decide +kernel
theorem dX8_turns_9 : decode cX8_turns 9 = .ok (.iconst 0, 1) := by decide +kernel
theorem dX8_turns_10 : decode cX8_turns 10 = .ok (.iconst 5, 1) := by decide +kernel
theorem dX8_turns_11 : decode cX8_turns 11 = .ok (.invokestatic 78, 3) := by decide +kernel
theorem dX8_turns_14 : decode cX8_turns 14 = .ok (.ifCond .eq 18, 3) := by decide +kernel
theorem dX8_turns_17 : decode cX8_turns 17 = .ok (.aload_n 0, 1) := by decide +kernel
theorem dX8_turns_18 : decode cX8_turns 18 = .ok (.bipush 6, 2) := by decide +kernel
theorem dX8_turns_20 : decode cX8_turns 20 = .ok (.bipush 9, 2) := by decide +kernel
theorem dX8_turns_22 : decode cX8_turns 22 = .ok (.iload_n 1, 1) := by decide +kernel
theorem dX8_turns_23 : decode cX8_turns 23 = .ok (.imul, 1) := by decide +kernel
theorem dX8_turns_24 : decode cX8_turns 24 = .ok (.iadd, 1) := by decide +kernel
theorem dX8_turns_25 : decode cX8_turns 25 = .ok (.iload_n 2, 1) := by decide +kernel
theorem dX8_turns_26 : decode cX8_turns 26 = .ok (.invokevirtual 124, 3) := by decide +kernel
theorem dX8_turns_29 : decode cX8_turns 29 = .ok (.goto 5, 3) := by decide +kernel
theorem dX8_turns_32 : decode cX8_turns 32 = .ok (.ldc 90, 2) := by decide +kernel
theorem dX8_turns_34 : decode cX8_turns 34 = .ok (.ireturn, 1) := by decide +kernel
theorem dX8_set_0 : decode cX8_set 0 = .ok (.aload_n 0, 1) := by decide +kernel
theorem dX8_set_1 : decode cX8_set 1 = .ok (.iload_n 1, 1) := by decide +kernel
theorem dX8_set_2 : decode cX8_set 2 = .ok (.invokevirtual 100, 3) := by decide +kernel
theorem dX8_set_5 : decode cX8_set 5 = .ok (.ifCond .eq 37, 3) := by decide +kernel
theorem dX8_set_8 : decode cX8_set 8 = .ok (.iload_n 2, 1) := by decide +kernel
theorem dX8_set_9 : decode cX8_set 9 = .ok (.iconst 1, 1) := by decide +kernel
theorem dX8_set_10 : decode cX8_set 10 = .ok (.iconst 4, 1) := by decide +kernel
theorem dX8_set_11 : decode cX8_set 11 = .ok (.invokestatic 78, 3) := by decide +kernel
theorem dX8_set_14 : decode cX8_set 14 = .ok (.ifCond .eq 28, 3) := by decide +kernel
theorem dX8_set_17 : decode cX8_set 17 = .ok (.iload_n 2, 1) := by decide +kernel
theorem dX8_set_18 : decode cX8_set 18 = .ok (.iload_n 3, 1) := by decide +kernel
theorem dX8_set_19 : decode cX8_set 19 = .ok (.invokestatic 86, 3) := by decide +kernel
theorem dX8_set_22 : decode cX8_set 22 = .ok (.ifCond .eq 20, 3) := by decide +kernel
theorem dX8_set_25 : decode cX8_set 25 = .ok (.aload_n 0, 1) := by decide +kernel
theorem dX8_set_26 : decode cX8_set 26 = .ok (.bipush 6, 2) := by decide +kernel
theorem dX8_set_28 : decode cX8_set 28 = .ok (.bipush 9, 2) := by decide +kernel
theorem dX8_set_30 : decode cX8_set 30 = .ok (.iload_n 1, 1) := by decide +kernel
theorem dX8_set_31 : decode cX8_set 31 = .ok (.imul, 1) := by decide +kernel
theorem dX8_set_32 : decode cX8_set 32 = .ok (.iadd, 1) := by decide +kernel
theorem dX8_set_33 : decode cX8_set 33 = .ok (.iload_n 2, 1) := by decide +kernel
theorem dX8_set_34 : decode cX8_set 34 = .ok (.iadd, 1) := by decide +kernel
theorem dX8_set_35 : decode cX8_set 35 = .ok (.iload_n 3, 1) := by decide +kernel
theorem dX8_set_36 : decode cX8_set 36 = .ok (.invokevirtual 124, 3) := by decide +kernel
theorem dX8_set_39 : decode cX8_set 39 = .ok (.goto 5, 3) := by decide +kernel
theorem dX8_set_42 : decode cX8_set 42 = .ok (.ldc 90, 2) := by decide +kernel
theorem dX8_set_44 : decode cX8_set 44 = .ok (.ireturn, 1) := by decide +kernel
theorem dX8_rule_0 : decode cX8_rule 0 = .ok (.iload_n 1, 1) := by decide +kernel
theorem dX8_rule_1 : decode cX8_rule 1 = .ok (.iconst 0, 1) := by decide +kernel
theorem dX8_rule_2 : decode cX8_rule 2 = .ok (.iconst 1, 1) := by decide +kernel
theorem dX8_rule_3 : decode cX8_rule 3 = .ok (.invokestatic 78, 3) := by decide +kernel
theorem dX8_rule_6 : decode cX8_rule 6 = .ok (.ifCond .eq 32, 3) := by decide +kernel
theorem dX8_rule_9 : decode cX8_rule 9 = .ok (.iload_n 2, 1) := by decide +kernel
theorem dX8_rule_10 : decode cX8_rule 10 = .ok (.iconst 0, 1) := by decide +kernel
theorem dX8_rule_11 : decode cX8_rule 11 = .ok (.iload_n 1, 1) := by decide +kernel
theorem dX8_rule_12 : decode cX8_rule 12 = .ok (.ifCond .ne 7, 3) := by decide +kernel
theorem dX8_rule_15 : decode cX8_rule 15 = .ok (.iconst 3, 1) := by decide +kernel
theorem dX8_rule_16 : decode cX8_rule 16 = .ok (.goto 5, 3) := by decide +kernel
theorem dX8_rule_19 : decode cX8_rule 19 = .ok (.bipush 99, 2) := by decide +kernel
theorem dX8_rule_21 : decode cX8_rule 21 = .ok (.invokestatic 78, 3) := by decide +kernel
theorem dX8_rule_24 : decode cX8_rule 24 = .ok (.ifCond .eq 14, 3) := by decide +kernel
theorem dX8_rule_27 : decode cX8_rule 27 = .ok (.aload_n 0, 1) := by decide +kernel
theorem dX8_rule_28 : decode cX8_rule 28 = .ok (.iconst 3, 1) := by decide +kernel
theorem dX8_rule_29 : decode cX8_rule 29 = .ok (.iload_n 1, 1) := by decide +kernel
theorem dX8_rule_30 : decode cX8_rule 30 = .ok (.iadd, 1) := by decide +kernel
theorem dX8_rule_31 : decode cX8_rule 31 = .ok (.iload_n 2, 1) := by decide +kernel
theorem dX8_rule_32 : decode cX8_rule 32 = .ok (.invokevirtual 124, 3) := by decide +kernel
theorem dX8_rule_35 : decode cX8_rule 35 = .ok (.goto 5, 3) := by decide +kernel
theorem dX8_rule_38 : decode cX8_rule 38 = .ok (.ldc 90, 2) := by decide +kernel
theorem dX8_rule_40 : decode cX8_rule 40 = .ok (.ireturn, 1) := by decide +kernel
theorem dX8_draw_0 : decode cX8_draw 0 = .ok (.aload_n 0, 1) := by decide +kernel
theorem dX8_draw_1 : decode cX8_draw 1 = .ok (.getfield 9, 3) := by decide +kernel
theorem dX8_draw_4 : decode cX8_draw 4 = .ok (.iconst 0, 1) := by decide +kernel
theorem dX8_draw_5 : decode cX8_draw 5 = .ok (.aload_n 0, 1) := by decide +kernel
theorem dX8_draw_6 : decode cX8_draw 6 = .ok (.getfield 9, 3) := by decide +kernel
theorem dX8_draw_9 : decode cX8_draw 9 = .ok (.iconst 0, 1) := by decide +kernel
theorem dX8_draw_10 : decode cX8_draw 10 = .ok (.iaload, 1) := by decide +kernel
theorem dX8_draw_11 : decode cX8_draw 11 = .ok (.ldc 127, 2) := by decide +kernel
theorem dX8_draw_13 : decode cX8_draw 13 = .ok (.imul, 1) := by decide +kernel
theorem dX8_draw_14 : decode cX8_draw 14 = .ok (.sipush 12345, 3) := by decide +kernel
theorem dX8_draw_17 : decode cX8_draw 17 = .ok (.iadd, 1) := by decide +kernel
theorem dX8_draw_18 : decode cX8_draw 18 = .ok (.iastore, 1) := by decide +kernel
theorem dX8_draw_19 : decode cX8_draw 19 = .ok (.aload_n 0, 1) := by decide +kernel
theorem dX8_draw_20 : decode cX8_draw 20 = .ok (.getfield 9, 3) := by decide +kernel
theorem dX8_draw_23 : decode cX8_draw 23 = .ok (.iconst 0, 1) := by decide +kernel
theorem dX8_draw_24 : decode cX8_draw 24 = .ok (.iaload, 1) := by decide +kernel
theorem dX8_draw_25 : decode cX8_draw 25 = .ok (.bipush 8, 2) := by decide +kernel
theorem dX8_draw_27 : decode cX8_draw 27 = .ok (.iushr, 1) := by decide +kernel
theorem dX8_draw_28 : decode cX8_draw 28 = .ok (.ireturn, 1) := by decide +kernel
theorem dX8_deal_0 : decode cX8_deal 0 = .ok (.iload_n 1, 1) := by decide +kernel
theorem dX8_deal_1 : decode cX8_deal 1 = .ok (.iconst 1, 1) := by decide +kernel
theorem dX8_deal_2 : decode cX8_deal 2 = .ok (.bipush 10, 2) := by decide +kernel
theorem dX8_deal_4 : decode cX8_deal 4 = .ok (.invokestatic 78, 3) := by decide +kernel
theorem dX8_deal_7 : decode cX8_deal 7 = .ok (.ifCond .ne 6, 3) := by decide +kernel
theorem dX8_deal_10 : decode cX8_deal 10 = .ok (.ldc 90, 2) := by decide +kernel
theorem dX8_deal_12 : decode cX8_deal 12 = .ok (.ireturn, 1) := by decide +kernel
theorem dX8_deal_13 : decode cX8_deal 13 = .ok (.iconst 0, 1) := by decide +kernel
theorem dX8_deal_14 : decode cX8_deal 14 = .ok (.istore_n 2, 1) := by decide +kernel
theorem dX8_deal_15 : decode cX8_deal 15 = .ok (.iload_n 2, 1) := by decide +kernel
theorem dX8_deal_16 : decode cX8_deal 16 = .ok (.iload_n 1, 1) := by decide +kernel
theorem dX8_deal_17 : decode cX8_deal 17 = .ok (.if_icmp .ge 53, 3) := by decide +kernel
theorem dX8_deal_20 : decode cX8_deal 20 = .ok (.aload_n 0, 1) := by decide +kernel
theorem dX8_deal_21 : decode cX8_deal 21 = .ok (.getfield 9, 3) := by decide +kernel
theorem dX8_deal_24 : decode cX8_deal 24 = .ok (.iconst 1, 1) := by decide +kernel
theorem dX8_deal_25 : decode cX8_deal 25 = .ok (.iaload, 1) := by decide +kernel
theorem dX8_deal_26 : decode cX8_deal 26 = .ok (.bipush 10, 2) := by decide +kernel
theorem dX8_deal_28 : decode cX8_deal 28 = .ok (.if_icmp .ge 42, 3) := by decide +kernel
theorem dX8_deal_31 : decode cX8_deal 31 = .ok (.aload_n 0, 1) := by decide +kernel
theorem dX8_deal_32 : decode cX8_deal 32 = .ok (.invokevirtual 128, 3) := by decide +kernel
theorem dX8_deal_35 : decode cX8_deal 35 = .ok (.bipush 6, 2) := by decide +kernel
theorem dX8_deal_37 : decode cX8_deal 37 = .ok (.irem, 1) := by decide +kernel
theorem dX8_deal_38 : decode cX8_deal 38 = .ok (.istore_n 3, 1) := by decide +kernel
theorem dX8_deal_39 : decode cX8_deal 39 = .ok (.aload_n 0, 1) := by decide +kernel
theorem dX8_deal_40 : decode cX8_deal 40 = .ok (.invokevirtual 128, 3) := by decide +kernel
theorem dX8_deal_43 : decode cX8_deal 43 = .ok (.iconst 3, 1) := by decide +kernel
theorem dX8_deal_44 : decode cX8_deal 44 = .ok (.irem, 1) := by decide +kernel
theorem dX8_deal_45 : decode cX8_deal 45 = .ok (.istore 4, 2) := by decide +kernel
theorem dX8_deal_47 : decode cX8_deal 47 = .ok (.aload_n 0, 1) := by decide +kernel
theorem dX8_deal_48 : decode cX8_deal 48 = .ok (.iload_n 3, 1) := by decide +kernel
theorem dX8_deal_49 : decode cX8_deal 49 = .ok (.iload 4, 2) := by decide +kernel
theorem dX8_deal_51 : decode cX8_deal 51 = .ok (.aload_n 0, 1) := by decide +kernel
theorem dX8_deal_52 : decode cX8_deal 52 = .ok (.invokevirtual 128, 3) := by decide +kernel
theorem dX8_deal_55 : decode cX8_deal 55 = .ok (.sipush 600, 3) := by decide +kernel
theorem dX8_deal_58 : decode cX8_deal 58 = .ok (.irem, 1) := by decide +kernel
theorem dX8_deal_59 : decode cX8_deal 59 = .ok (.invokevirtual 92, 3) := by decide +kernel
theorem dX8_deal_62 : decode cX8_deal 62 = .ok (.istore 5, 2) := by decide +kernel
theorem dX8_deal_64 : decode cX8_deal 64 = .ok (.iinc 2 1, 3) := by decide +kernel
theorem dX8_deal_67 : decode cX8_deal 67 = .ok (.goto (-52), 3) := by decide +kernel
theorem dX8_deal_70 : decode cX8_deal 70 = .ok (.iload_n 2, 1) := by decide +kernel
theorem dX8_deal_71 : decode cX8_deal 71 = .ok (.ireturn, 1) := by decide +kernel
theorem dX8_seed_0 : decode cX8_seed 0 = .ok (.aload_n 0, 1) := by decide +kernel
theorem dX8_seed_1 : decode cX8_seed 1 = .ok (.iconst 0, 1) := by decide +kernel
theorem dX8_seed_2 : decode cX8_seed 2 = .ok (.iload_n 1, 1) := by decide +kernel
theorem dX8_seed_3 : decode cX8_seed 3 = .ok (.invokevirtual 124, 3) := by decide +kernel
theorem dX8_seed_6 : decode cX8_seed 6 = .ok (.ireturn, 1) := by decide +kernel
theorem dX8_manyOn_0 : decode cX8_manyOn 0 = .ok (.iconst 0, 1) := by decide +kernel
theorem dX8_manyOn_1 : decode cX8_manyOn 1 = .ok (.istore_n 2, 1) := by decide +kernel
theorem dX8_manyOn_2 : decode cX8_manyOn 2 = .ok (.iconst 0, 1) := by decide +kernel
theorem dX8_manyOn_3 : decode cX8_manyOn 3 = .ok (.istore_n 3, 1) := by decide +kernel
theorem dX8_manyOn_4 : decode cX8_manyOn 4 = .ok (.iload_n 3, 1) := by decide +kernel
theorem dX8_manyOn_5 : decode cX8_manyOn 5 = .ok (.aload_n 0, 1) := by decide +kernel
theorem dX8_manyOn_6 : decode cX8_manyOn 6 = .ok (.getfield 9, 3) := by decide +kernel
theorem dX8_manyOn_9 : decode cX8_manyOn 9 = .ok (.iconst 1, 1) := by decide +kernel
theorem dX8_manyOn_10 : decode cX8_manyOn 10 = .ok (.iaload, 1) := by decide +kernel
theorem dX8_manyOn_11 : decode cX8_manyOn 11 = .ok (.if_icmp .ge 27, 3) := by decide +kernel
theorem dX8_manyOn_14 : decode cX8_manyOn 14 = .ok (.iload_n 2, 1) := by decide +kernel
theorem dX8_manyOn_15 : decode cX8_manyOn 15 = .ok (.aload_n 0, 1) := by decide +kernel
theorem dX8_manyOn_16 : decode cX8_manyOn 16 = .ok (.iload_n 3, 1) := by decide +kernel
theorem dX8_manyOn_17 : decode cX8_manyOn 17 = .ok (.iconst 1, 1) := by decide +kernel
theorem dX8_manyOn_18 : decode cX8_manyOn 18 = .ok (.invokevirtual 96, 3) := by decide +kernel
theorem dX8_manyOn_21 : decode cX8_manyOn 21 = .ok (.iload_n 1, 1) := by decide +kernel
theorem dX8_manyOn_22 : decode cX8_manyOn 22 = .ok (.if_icmp .ne 7, 3) := by decide +kernel
theorem dX8_manyOn_25 : decode cX8_manyOn 25 = .ok (.iconst 1, 1) := by decide +kernel
theorem dX8_manyOn_26 : decode cX8_manyOn 26 = .ok (.goto 4, 3) := by decide +kernel
theorem dX8_manyOn_29 : decode cX8_manyOn 29 = .ok (.iconst 0, 1) := by decide +kernel
theorem dX8_manyOn_30 : decode cX8_manyOn 30 = .ok (.iadd, 1) := by decide +kernel
theorem dX8_manyOn_31 : decode cX8_manyOn 31 = .ok (.istore_n 2, 1) := by decide +kernel
theorem dX8_manyOn_32 : decode cX8_manyOn 32 = .ok (.iinc 3 1, 3) := by decide +kernel
theorem dX8_manyOn_35 : decode cX8_manyOn 35 = .ok (.goto (-31), 3) := by decide +kernel
theorem dX8_manyOn_38 : decode cX8_manyOn 38 = .ok (.iload_n 2, 1) := by decide +kernel
theorem dX8_manyOn_39 : decode cX8_manyOn 39 = .ok (.ireturn, 1) := by decide +kernel
theorem dX8_latest_0 : decode cX8_latest 0 = .ok (.iconst (-1), 1) := by decide +kernel
theorem dX8_latest_1 : decode cX8_latest 1 = .ok (.istore_n 3, 1) := by decide +kernel
theorem dX8_latest_2 : decode cX8_latest 2 = .ok (.iconst 0, 1) := by decide +kernel
theorem dX8_latest_3 : decode cX8_latest 3 = .ok (.istore 4, 2) := by decide +kernel
theorem dX8_latest_5 : decode cX8_latest 5 = .ok (.iload 4, 2) := by decide +kernel
theorem dX8_latest_7 : decode cX8_latest 7 = .ok (.aload_n 0, 1) := by decide +kernel
theorem dX8_latest_8 : decode cX8_latest 8 = .ok (.getfield 9, 3) := by decide +kernel
theorem dX8_latest_11 : decode cX8_latest 11 = .ok (.iconst 1, 1) := by decide +kernel
theorem dX8_latest_12 : decode cX8_latest 12 = .ok (.iaload, 1) := by decide +kernel
theorem dX8_latest_13 : decode cX8_latest 13 = .ok (.if_icmp .ge 68, 3) := by decide +kernel
theorem dX8_latest_16 : decode cX8_latest 16 = .ok (.aload_n 0, 1) := by decide +kernel
theorem dX8_latest_17 : decode cX8_latest 17 = .ok (.iload 4, 2) := by decide +kernel
theorem dX8_latest_19 : decode cX8_latest 19 = .ok (.iconst 1, 1) := by decide +kernel
theorem dX8_latest_20 : decode cX8_latest 20 = .ok (.invokevirtual 96, 3) := by decide +kernel
theorem dX8_latest_23 : decode cX8_latest 23 = .ok (.iload_n 1, 1) := by decide +kernel
theorem dX8_latest_24 : decode cX8_latest 24 = .ok (.if_icmp .ne 51, 3) := by decide +kernel
theorem dX8_latest_27 : decode cX8_latest 27 = .ok (.iload 4, 2) := by decide +kernel
theorem dX8_latest_29 : decode cX8_latest 29 = .ok (.iload_n 2, 1) := by decide +kernel
theorem dX8_latest_30 : decode cX8_latest 30 = .ok (.if_icmp .eq 45, 3) := by decide +kernel
theorem dX8_latest_33 : decode cX8_latest 33 = .ok (.iload_n 3, 1) := by decide +kernel
theorem dX8_latest_34 : decode cX8_latest 34 = .ok (.ifCond .lt 34, 3) := by decide +kernel
theorem dX8_latest_37 : decode cX8_latest 37 = .ok (.aload_n 0, 1) := by decide +kernel
theorem dX8_latest_38 : decode cX8_latest 38 = .ok (.iload 4, 2) := by decide +kernel
theorem dX8_latest_40 : decode cX8_latest 40 = .ok (.iconst 5, 1) := by decide +kernel
theorem dX8_latest_41 : decode cX8_latest 41 = .ok (.invokevirtual 96, 3) := by decide +kernel
theorem dX8_latest_44 : decode cX8_latest 44 = .ok (.aload_n 0, 1) := by decide +kernel
theorem dX8_latest_45 : decode cX8_latest 45 = .ok (.iload 4, 2) := by decide +kernel
theorem dX8_latest_47 : decode cX8_latest 47 = .ok (.iconst 3, 1) := by decide +kernel
theorem dX8_latest_48 : decode cX8_latest 48 = .ok (.invokevirtual 96, 3) := by decide +kernel
theorem dX8_latest_51 : decode cX8_latest 51 = .ok (.iadd, 1) := by decide +kernel
theorem dX8_latest_52 : decode cX8_latest 52 = .ok (.aload_n 0, 1) := by decide +kernel
theorem dX8_latest_53 : decode cX8_latest 53 = .ok (.iload_n 3, 1) := by decide +kernel
theorem dX8_latest_54 : decode cX8_latest 54 = .ok (.iconst 5, 1) := by decide +kernel
theorem dX8_latest_55 : decode cX8_latest 55 = .ok (.invokevirtual 96, 3) := by decide +kernel
theorem dX8_latest_58 : decode cX8_latest 58 = .ok (.aload_n 0, 1) := by decide +kernel
theorem dX8_latest_59 : decode cX8_latest 59 = .ok (.iload_n 3, 1) := by decide +kernel
theorem dX8_latest_60 : decode cX8_latest 60 = .ok (.iconst 3, 1) := by decide +kernel
theorem dX8_latest_61 : decode cX8_latest 61 = .ok (.invokevirtual 96, 3) := by decide +kernel
theorem dX8_latest_64 : decode cX8_latest 64 = .ok (.iadd, 1) := by decide +kernel
theorem dX8_latest_65 : decode cX8_latest 65 = .ok (.if_icmp .lt 8, 3) := by decide +kernel
theorem dX8_latest_68 : decode cX8_latest 68 = .ok (.iload 4, 2) := by decide +kernel
theorem dX8_latest_70 : decode cX8_latest 70 = .ok (.goto 4, 3) := by decide +kernel
theorem dX8_latest_73 : decode cX8_latest 73 = .ok (.iload_n 3, 1) := by decide +kernel
theorem dX8_latest_74 : decode cX8_latest 74 = .ok (.istore_n 3, 1) := by decide +kernel
theorem dX8_latest_75 : decode cX8_latest 75 = .ok (.iinc 4 1, 3) := by decide +kernel
theorem dX8_latest_78 : decode cX8_latest 78 = .ok (.goto (-73), 3) := by decide +kernel
theorem dX8_latest_81 : decode cX8_latest 81 = .ok (.iload_n 3, 1) := by decide +kernel
theorem dX8_latest_82 : decode cX8_latest 82 = .ok (.ireturn, 1) := by decide +kernel
theorem dX8_oneAt_0 : decode cX8_oneAt 0 = .ok (.iload_n 2, 1) := by decide +kernel
theorem dX8_oneAt_1 : decode cX8_oneAt 1 = .ok (.istore_n 3, 1) := by decide +kernel
theorem dX8_oneAt_2 : decode cX8_oneAt 2 = .ok (.iconst 0, 1) := by decide +kernel
theorem dX8_oneAt_3 : decode cX8_oneAt 3 = .ok (.istore 4, 2) := by decide +kernel
theorem dX8_oneAt_5 : decode cX8_oneAt 5 = .ok (.aload_n 0, 1) := by decide +kernel
theorem dX8_oneAt_6 : decode cX8_oneAt 6 = .ok (.iload 4, 2) := by decide +kernel
theorem dX8_oneAt_8 : decode cX8_oneAt 8 = .ok (.iconst 1, 1) := by decide +kernel
theorem dX8_oneAt_9 : decode cX8_oneAt 9 = .ok (.invokevirtual 96, 3) := by decide +kernel
theorem dX8_oneAt_12 : decode cX8_oneAt 12 = .ok (.iload_n 1, 1) := by decide +kernel
theorem dX8_oneAt_13 : decode cX8_oneAt 13 = .ok (.if_icmp .ne 7, 3) := by decide +kernel
theorem dX8_oneAt_16 : decode cX8_oneAt 16 = .ok (.iload_n 3, 1) := by decide +kernel
theorem dX8_oneAt_17 : decode cX8_oneAt 17 = .ok (.ifCond .le 28, 3) := by decide +kernel
theorem dX8_oneAt_20 : decode cX8_oneAt 20 = .ok (.iload_n 3, 1) := by decide +kernel
theorem dX8_oneAt_21 : decode cX8_oneAt 21 = .ok (.aload_n 0, 1) := by decide +kernel
theorem dX8_oneAt_22 : decode cX8_oneAt 22 = .ok (.iload 4, 2) := by decide +kernel
theorem dX8_oneAt_24 : decode cX8_oneAt 24 = .ok (.iconst 1, 1) := by decide +kernel
theorem dX8_oneAt_25 : decode cX8_oneAt 25 = .ok (.invokevirtual 96, 3) := by decide +kernel
theorem dX8_oneAt_28 : decode cX8_oneAt 28 = .ok (.iload_n 1, 1) := by decide +kernel
theorem dX8_oneAt_29 : decode cX8_oneAt 29 = .ok (.if_icmp .ne 7, 3) := by decide +kernel
theorem dX8_oneAt_32 : decode cX8_oneAt 32 = .ok (.iconst 1, 1) := by decide +kernel
theorem dX8_oneAt_33 : decode cX8_oneAt 33 = .ok (.goto 4, 3) := by decide +kernel
theorem dX8_oneAt_36 : decode cX8_oneAt 36 = .ok (.iconst 0, 1) := by decide +kernel
theorem dX8_oneAt_37 : decode cX8_oneAt 37 = .ok (.isub, 1) := by decide +kernel
theorem dX8_oneAt_38 : decode cX8_oneAt 38 = .ok (.istore_n 3, 1) := by decide +kernel
theorem dX8_oneAt_39 : decode cX8_oneAt 39 = .ok (.iinc 4 1, 3) := by decide +kernel
theorem dX8_oneAt_42 : decode cX8_oneAt 42 = .ok (.goto (-37), 3) := by decide +kernel
theorem dX8_oneAt_45 : decode cX8_oneAt 45 = .ok (.iload 4, 2) := by decide +kernel
theorem dX8_oneAt_47 : decode cX8_oneAt 47 = .ok (.ireturn, 1) := by decide +kernel
theorem dX8_nextOf_0 : decode cX8_nextOf 0 = .ok (.iload_n 1, 1) := by decide +kernel
theorem dX8_nextOf_1 : decode cX8_nextOf 1 = .ok (.istore_n 2, 1) := by decide +kernel
theorem dX8_nextOf_2 : decode cX8_nextOf 2 = .ok (.iload_n 2, 1) := by decide +kernel
theorem dX8_nextOf_3 : decode cX8_nextOf 3 = .ok (.iconst 1, 1) := by decide +kernel
theorem dX8_nextOf_4 : decode cX8_nextOf 4 = .ok (.iadd, 1) := by decide +kernel
theorem dX8_nextOf_5 : decode cX8_nextOf 5 = .ok (.aload_n 0, 1) := by decide +kernel
theorem dX8_nextOf_6 : decode cX8_nextOf 6 = .ok (.getfield 9, 3) := by decide +kernel
theorem dX8_nextOf_9 : decode cX8_nextOf 9 = .ok (.iconst 1, 1) := by decide +kernel
theorem dX8_nextOf_10 : decode cX8_nextOf 10 = .ok (.iaload, 1) := by decide +kernel
theorem dX8_nextOf_11 : decode cX8_nextOf 11 = .ok (.if_icmp .ge 9, 3) := by decide +kernel
theorem dX8_nextOf_14 : decode cX8_nextOf 14 = .ok (.iload_n 2, 1) := by decide +kernel
theorem dX8_nextOf_15 : decode cX8_nextOf 15 = .ok (.iconst 1, 1) := by decide +kernel
theorem dX8_nextOf_16 : decode cX8_nextOf 16 = .ok (.iadd, 1) := by decide +kernel
theorem dX8_nextOf_17 : decode cX8_nextOf 17 = .ok (.goto 4, 3) := by decide +kernel
theorem dX8_nextOf_20 : decode cX8_nextOf 20 = .ok (.iconst 0, 1) := by decide +kernel
theorem dX8_nextOf_21 : decode cX8_nextOf 21 = .ok (.istore_n 2, 1) := by decide +kernel
theorem dX8_nextOf_22 : decode cX8_nextOf 22 = .ok (.aload_n 0, 1) := by decide +kernel
theorem dX8_nextOf_23 : decode cX8_nextOf 23 = .ok (.iload_n 2, 1) := by decide +kernel
theorem dX8_nextOf_24 : decode cX8_nextOf 24 = .ok (.iconst 1, 1) := by decide +kernel
theorem dX8_nextOf_25 : decode cX8_nextOf 25 = .ok (.invokevirtual 96, 3) := by decide +kernel
theorem dX8_nextOf_28 : decode cX8_nextOf 28 = .ok (.aload_n 0, 1) := by decide +kernel
theorem dX8_nextOf_29 : decode cX8_nextOf 29 = .ok (.iload_n 1, 1) := by decide +kernel
theorem dX8_nextOf_30 : decode cX8_nextOf 30 = .ok (.iconst 1, 1) := by decide +kernel
theorem dX8_nextOf_31 : decode cX8_nextOf 31 = .ok (.invokevirtual 96, 3) := by decide +kernel
theorem dX8_nextOf_34 : decode cX8_nextOf 34 = .ok (.if_icmp .ne (-32), 3) := by decide +kernel
theorem dX8_nextOf_37 : decode cX8_nextOf 37 = .ok (.iload_n 2, 1) := by decide +kernel
theorem dX8_nextOf_38 : decode cX8_nextOf 38 = .ok (.ireturn, 1) := by decide +kernel
theorem dX8_pays_0 : decode cX8_pays 0 = .ok (.aload_n 0, 1) := by decide +kernel
theorem dX8_pays_1 : decode cX8_pays 1 = .ok (.iload_n 1, 1) := by decide +kernel
theorem dX8_pays_2 : decode cX8_pays 2 = .ok (.bipush 6, 2) := by decide +kernel
theorem dX8_pays_4 : decode cX8_pays 4 = .ok (.aload_n 0, 1) := by decide +kernel
theorem dX8_pays_5 : decode cX8_pays 5 = .ok (.iload_n 1, 1) := by decide +kernel
theorem dX8_pays_6 : decode cX8_pays 6 = .ok (.bipush 6, 2) := by decide +kernel
theorem dX8_pays_8 : decode cX8_pays 8 = .ok (.invokevirtual 96, 3) := by decide +kernel
theorem dX8_pays_11 : decode cX8_pays 11 = .ok (.iload_n 2, 1) := by decide +kernel
theorem dX8_pays_12 : decode cX8_pays 12 = .ok (.isub, 1) := by decide +kernel
theorem dX8_pays_13 : decode cX8_pays 13 = .ok (.invokevirtual 82, 3) := by decide +kernel
theorem dX8_pays_16 : decode cX8_pays 16 = .ok (.aload_n 0, 1) := by decide +kernel
theorem dX8_pays_17 : decode cX8_pays 17 = .ok (.getfield 19, 3) := by decide +kernel
theorem dX8_pays_20 : decode cX8_pays 20 = .ok (.iload_n 1, 1) := by decide +kernel
theorem dX8_pays_21 : decode cX8_pays 21 = .ok (.iload_n 2, 1) := by decide +kernel
theorem dX8_pays_22 : decode cX8_pays 22 = .ok (.ifCond .le 7, 3) := by decide +kernel
theorem dX8_pays_25 : decode cX8_pays 25 = .ok (.iconst 1, 1) := by decide +kernel
theorem dX8_pays_26 : decode cX8_pays 26 = .ok (.goto 4, 3) := by decide +kernel
theorem dX8_pays_29 : decode cX8_pays 29 = .ok (.iconst 0, 1) := by decide +kernel
theorem dX8_pays_30 : decode cX8_pays 30 = .ok (.bastore, 1) := by decide +kernel
theorem dX8_pays_31 : decode cX8_pays 31 = .ok (.return_, 1) := by decide +kernel
theorem dX8_stair_0 : decode cX8_stair 0 = .ok (.aload_n 0, 1) := by decide +kernel
theorem dX8_stair_1 : decode cX8_stair 1 = .ok (.iload_n 1, 1) := by decide +kernel
theorem dX8_stair_2 : decode cX8_stair 2 = .ok (.invokevirtual 132, 3) := by decide +kernel
theorem dX8_stair_5 : decode cX8_stair 5 = .ok (.istore_n 2, 1) := by decide +kernel
theorem dX8_stair_6 : decode cX8_stair 6 = .ok (.iload_n 2, 1) := by decide +kernel
theorem dX8_stair_7 : decode cX8_stair 7 = .ok (.ifCond .ne 5, 3) := by decide +kernel
theorem dX8_stair_10 : decode cX8_stair 10 = .ok (.iconst 0, 1) := by decide +kernel
theorem dX8_stair_11 : decode cX8_stair 11 = .ok (.ireturn, 1) := by decide +kernel
theorem dX8_stair_12 : decode cX8_stair 12 = .ok (.iconst 0, 1) := by decide +kernel
theorem dX8_stair_13 : decode cX8_stair 13 = .ok (.istore_n 3, 1) := by decide +kernel
theorem dX8_stair_14 : decode cX8_stair 14 = .ok (.iconst 0, 1) := by decide +kernel
theorem dX8_stair_15 : decode cX8_stair 15 = .ok (.istore 4, 2) := by decide +kernel
theorem dX8_stair_17 : decode cX8_stair 17 = .ok (.iload 4, 2) := by decide +kernel
theorem dX8_stair_19 : decode cX8_stair 19 = .ok (.aload_n 0, 1) := by decide +kernel
theorem dX8_stair_20 : decode cX8_stair 20 = .ok (.getfield 9, 3) := by decide +kernel
theorem dX8_stair_23 : decode cX8_stair 23 = .ok (.iconst 1, 1) := by decide +kernel
theorem dX8_stair_24 : decode cX8_stair 24 = .ok (.iaload, 1) := by decide +kernel
theorem dX8_stair_25 : decode cX8_stair 25 = .ok (.if_icmp .ge 34, 3) := by decide +kernel
theorem dX8_stair_28 : decode cX8_stair 28 = .ok (.iload_n 3, 1) := by decide +kernel
theorem dX8_stair_29 : decode cX8_stair 29 = .ok (.aload_n 0, 1) := by decide +kernel
theorem dX8_stair_30 : decode cX8_stair 30 = .ok (.iload 4, 2) := by decide +kernel
theorem dX8_stair_32 : decode cX8_stair 32 = .ok (.iconst 1, 1) := by decide +kernel
theorem dX8_stair_33 : decode cX8_stair 33 = .ok (.invokevirtual 96, 3) := by decide +kernel
theorem dX8_stair_36 : decode cX8_stair 36 = .ok (.iload_n 1, 1) := by decide +kernel
theorem dX8_stair_37 : decode cX8_stair 37 = .ok (.if_icmp .ne 13, 3) := by decide +kernel
theorem dX8_stair_40 : decode cX8_stair 40 = .ok (.aload_n 0, 1) := by decide +kernel
theorem dX8_stair_41 : decode cX8_stair 41 = .ok (.iload 4, 2) := by decide +kernel
theorem dX8_stair_43 : decode cX8_stair 43 = .ok (.iconst 5, 1) := by decide +kernel
theorem dX8_stair_44 : decode cX8_stair 44 = .ok (.invokevirtual 96, 3) := by decide +kernel
theorem dX8_stair_47 : decode cX8_stair 47 = .ok (.goto 4, 3) := by decide +kernel
theorem dX8_stair_50 : decode cX8_stair 50 = .ok (.iconst 0, 1) := by decide +kernel
theorem dX8_stair_51 : decode cX8_stair 51 = .ok (.iadd, 1) := by decide +kernel
theorem dX8_stair_52 : decode cX8_stair 52 = .ok (.istore_n 3, 1) := by decide +kernel
theorem dX8_stair_53 : decode cX8_stair 53 = .ok (.iinc 4 1, 3) := by decide +kernel
theorem dX8_stair_56 : decode cX8_stair 56 = .ok (.goto (-39), 3) := by decide +kernel
theorem dX8_stair_59 : decode cX8_stair 59 = .ok (.aload_n 0, 1) := by decide +kernel
theorem dX8_stair_60 : decode cX8_stair 60 = .ok (.getfield 9, 3) := by decide +kernel
theorem dX8_stair_63 : decode cX8_stair 63 = .ok (.iconst 4, 1) := by decide +kernel
theorem dX8_stair_64 : decode cX8_stair 64 = .ok (.iaload, 1) := by decide +kernel
theorem dX8_stair_65 : decode cX8_stair 65 = .ok (.iload_n 3, 1) := by decide +kernel
theorem dX8_stair_66 : decode cX8_stair 66 = .ok (.imul, 1) := by decide +kernel
theorem dX8_stair_67 : decode cX8_stair 67 = .ok (.bipush 100, 2) := by decide +kernel
theorem dX8_stair_69 : decode cX8_stair 69 = .ok (.idiv, 1) := by decide +kernel
theorem dX8_stair_70 : decode cX8_stair 70 = .ok (.istore 4, 2) := by decide +kernel
theorem dX8_stair_72 : decode cX8_stair 72 = .ok (.aload_n 0, 1) := by decide +kernel
theorem dX8_stair_73 : decode cX8_stair 73 = .ok (.iload_n 1, 1) := by decide +kernel
theorem dX8_stair_74 : decode cX8_stair 74 = .ok (.iconst (-1), 1) := by decide +kernel
theorem dX8_stair_75 : decode cX8_stair 75 = .ok (.invokevirtual 135, 3) := by decide +kernel
theorem dX8_stair_78 : decode cX8_stair 78 = .ok (.istore 5, 2) := by decide +kernel
theorem dX8_stair_80 : decode cX8_stair 80 = .ok (.aload_n 0, 1) := by decide +kernel
theorem dX8_stair_81 : decode cX8_stair 81 = .ok (.iload_n 1, 1) := by decide +kernel
theorem dX8_stair_82 : decode cX8_stair 82 = .ok (.iload 5, 2) := by decide +kernel
theorem dX8_stair_84 : decode cX8_stair 84 = .ok (.invokevirtual 135, 3) := by decide +kernel
theorem dX8_stair_87 : decode cX8_stair 87 = .ok (.istore 6, 2) := by decide +kernel
theorem dX8_stair_89 : decode cX8_stair 89 = .ok (.aload_n 0, 1) := by decide +kernel
theorem dX8_stair_90 : decode cX8_stair 90 = .ok (.getfield 9, 3) := by decide +kernel
theorem dX8_stair_93 : decode cX8_stair 93 = .ok (.iconst 3, 1) := by decide +kernel
theorem dX8_stair_94 : decode cX8_stair 94 = .ok (.iaload, 1) := by decide +kernel
theorem dX8_stair_95 : decode cX8_stair 95 = .ok (.tableswitch 134 0 2 #[25, 36, 113], 25) := by decide +kernel
theorem dX8_stair_120 : decode cX8_stair 120 = .ok (.aload_n 0, 1) := by decide +kernel
theorem dX8_stair_121 : decode cX8_stair 121 = .ok (.iload 5, 2) := by decide +kernel
theorem dX8_stair_123 : decode cX8_stair 123 = .ok (.iload 4, 2) := by decide +kernel
theorem dX8_stair_125 : decode cX8_stair 125 = .ok (.invokevirtual 138, 3) := by decide +kernel
theorem dX8_stair_128 : decode cX8_stair 128 = .ok (.goto 118, 3) := by decide +kernel
theorem dX8_stair_131 : decode cX8_stair 131 = .ok (.iconst 0, 1) := by decide +kernel
theorem dX8_stair_132 : decode cX8_stair 132 = .ok (.istore 7, 2) := by decide +kernel
theorem dX8_stair_134 : decode cX8_stair 134 = .ok (.iload 7, 2) := by decide +kernel
theorem dX8_stair_136 : decode cX8_stair 136 = .ok (.aload_n 0, 1) := by decide +kernel
theorem dX8_stair_137 : decode cX8_stair 137 = .ok (.getfield 9, 3) := by decide +kernel
theorem dX8_stair_140 : decode cX8_stair 140 = .ok (.iconst 1, 1) := by decide +kernel
theorem dX8_stair_141 : decode cX8_stair 141 = .ok (.iaload, 1) := by decide +kernel
theorem dX8_stair_142 : decode cX8_stair 142 = .ok (.if_icmp .ge 63, 3) := by decide +kernel
theorem dX8_stair_145 : decode cX8_stair 145 = .ok (.aload_n 0, 1) := by decide +kernel
theorem dX8_stair_146 : decode cX8_stair 146 = .ok (.iload 7, 2) := by decide +kernel
theorem dX8_stair_148 : decode cX8_stair 148 = .ok (.iconst 1, 1) := by decide +kernel
theorem dX8_stair_149 : decode cX8_stair 149 = .ok (.invokevirtual 96, 3) := by decide +kernel
theorem dX8_stair_152 : decode cX8_stair 152 = .ok (.iload_n 1, 1) := by decide +kernel
theorem dX8_stair_153 : decode cX8_stair 153 = .ok (.if_icmp .ne 46, 3) := by decide +kernel
theorem dX8_stair_156 : decode cX8_stair 156 = .ok (.aload_n 0, 1) := by decide +kernel
theorem dX8_stair_157 : decode cX8_stair 157 = .ok (.iload 7, 2) := by decide +kernel
theorem dX8_stair_159 : decode cX8_stair 159 = .ok (.iload 4, 2) := by decide +kernel
theorem dX8_stair_161 : decode cX8_stair 161 = .ok (.iload_n 2, 1) := by decide +kernel
theorem dX8_stair_162 : decode cX8_stair 162 = .ok (.idiv, 1) := by decide +kernel
theorem dX8_stair_163 : decode cX8_stair 163 = .ok (.iload 7, 2) := by decide +kernel
theorem dX8_stair_165 : decode cX8_stair 165 = .ok (.iload 5, 2) := by decide +kernel
theorem dX8_stair_167 : decode cX8_stair 167 = .ok (.if_icmp .ne 10, 3) := by decide +kernel
theorem dX8_stair_170 : decode cX8_stair 170 = .ok (.iload 4, 2) := by decide +kernel
theorem dX8_stair_172 : decode cX8_stair 172 = .ok (.iload_n 2, 1) := by decide +kernel
theorem dX8_stair_173 : decode cX8_stair 173 = .ok (.irem, 1) := by decide +kernel
theorem dX8_stair_174 : decode cX8_stair 174 = .ok (.goto 4, 3) := by decide +kernel
theorem dX8_stair_177 : decode cX8_stair 177 = .ok (.iconst 0, 1) := by decide +kernel
theorem dX8_stair_178 : decode cX8_stair 178 = .ok (.iadd, 1) := by decide +kernel
theorem dX8_stair_179 : decode cX8_stair 179 = .ok (.invokevirtual 138, 3) := by decide +kernel
theorem dX8_stair_182 : decode cX8_stair 182 = .ok (.aload_n 0, 1) := by decide +kernel
theorem dX8_stair_183 : decode cX8_stair 183 = .ok (.getfield 19, 3) := by decide +kernel
theorem dX8_stair_186 : decode cX8_stair 186 = .ok (.iload 7, 2) := by decide +kernel
theorem dX8_stair_188 : decode cX8_stair 188 = .ok (.iload 4, 2) := by decide +kernel
theorem dX8_stair_190 : decode cX8_stair 190 = .ok (.ifCond .le 7, 3) := by decide +kernel
theorem dX8_stair_193 : decode cX8_stair 193 = .ok (.iconst 1, 1) := by decide +kernel
theorem dX8_stair_194 : decode cX8_stair 194 = .ok (.goto 4, 3) := by decide +kernel
theorem dX8_stair_197 : decode cX8_stair 197 = .ok (.iconst 0, 1) := by decide +kernel
theorem dX8_stair_198 : decode cX8_stair 198 = .ok (.bastore, 1) := by decide +kernel
theorem dX8_stair_199 : decode cX8_stair 199 = .ok (.iinc 7 1, 3) := by decide +kernel
theorem dX8_stair_202 : decode cX8_stair 202 = .ok (.goto (-68), 3) := by decide +kernel
theorem dX8_stair_205 : decode cX8_stair 205 = .ok (.goto 41, 3) := by decide +kernel
theorem dX8_stair_208 : decode cX8_stair 208 = .ok (.aload_n 0, 1) := by decide +kernel
theorem dX8_stair_209 : decode cX8_stair 209 = .ok (.iload 6, 2) := by decide +kernel
theorem dX8_stair_211 : decode cX8_stair 211 = .ok (.ifCond .ge 8, 3) := by decide +kernel
theorem dX8_stair_214 : decode cX8_stair 214 = .ok (.iload 5, 2) := by decide +kernel
theorem dX8_stair_216 : decode cX8_stair 216 = .ok (.goto 5, 3) := by decide +kernel
theorem dX8_stair_219 : decode cX8_stair 219 = .ok (.iload 6, 2) := by decide +kernel
theorem dX8_stair_221 : decode cX8_stair 221 = .ok (.iload 4, 2) := by decide +kernel
theorem dX8_stair_223 : decode cX8_stair 223 = .ok (.invokevirtual 138, 3) := by decide +kernel
theorem dX8_stair_226 : decode cX8_stair 226 = .ok (.goto 20, 3) := by decide +kernel
theorem dX8_stair_229 : decode cX8_stair 229 = .ok (.aload_n 0, 1) := by decide +kernel
theorem dX8_stair_230 : decode cX8_stair 230 = .ok (.aload_n 0, 1) := by decide +kernel
theorem dX8_stair_231 : decode cX8_stair 231 = .ok (.iload_n 1, 1) := by decide +kernel
theorem dX8_stair_232 : decode cX8_stair 232 = .ok (.aload_n 0, 1) := by decide +kernel
theorem dX8_stair_233 : decode cX8_stair 233 = .ok (.invokevirtual 128, 3) := by decide +kernel
theorem dX8_stair_236 : decode cX8_stair 236 = .ok (.iload_n 2, 1) := by decide +kernel
theorem dX8_stair_237 : decode cX8_stair 237 = .ok (.irem, 1) := by decide +kernel
theorem dX8_stair_238 : decode cX8_stair 238 = .ok (.invokevirtual 142, 3) := by decide +kernel
theorem dX8_stair_241 : decode cX8_stair 241 = .ok (.iload 4, 2) := by decide +kernel
theorem dX8_stair_243 : decode cX8_stair 243 = .ok (.invokevirtual 138, 3) := by decide +kernel
theorem dX8_stair_246 : decode cX8_stair 246 = .ok (.iload 4, 2) := by decide +kernel
theorem dX8_stair_248 : decode cX8_stair 248 = .ok (.ireturn, 1) := by decide +kernel
theorem dX8_night_0 : decode cX8_night 0 = .ok (.iconst 0, 1) := by decide +kernel
theorem dX8_night_1 : decode cX8_night 1 = .ok (.istore_n 1, 1) := by decide +kernel
theorem dX8_night_2 : decode cX8_night 2 = .ok (.iload_n 1, 1) := by decide +kernel
theorem dX8_night_3 : decode cX8_night 3 = .ok (.aload_n 0, 1) := by decide +kernel
theorem dX8_night_4 : decode cX8_night 4 = .ok (.getfield 9, 3) := by decide +kernel
theorem dX8_night_7 : decode cX8_night 7 = .ok (.iconst 1, 1) := by decide +kernel
theorem dX8_night_8 : decode cX8_night 8 = .ok (.iaload, 1) := by decide +kernel
theorem dX8_night_9 : decode cX8_night 9 = .ok (.if_icmp .ge 52, 3) := by decide +kernel
theorem dX8_night_12 : decode cX8_night 12 = .ok (.aload_n 0, 1) := by decide +kernel
theorem dX8_night_13 : decode cX8_night 13 = .ok (.iload_n 1, 1) := by decide +kernel
theorem dX8_night_14 : decode cX8_night 14 = .ok (.aload_n 0, 1) := by decide +kernel
theorem dX8_night_15 : decode cX8_night 15 = .ok (.invokevirtual 128, 3) := by decide +kernel
theorem dX8_night_18 : decode cX8_night 18 = .ok (.bipush 60, 2) := by decide +kernel
theorem dX8_night_20 : decode cX8_night 20 = .ok (.irem, 1) := by decide +kernel
theorem dX8_night_21 : decode cX8_night 21 = .ok (.invokevirtual 117, 3) := by decide +kernel
theorem dX8_night_24 : decode cX8_night 24 = .ok (.istore_n 2, 1) := by decide +kernel
theorem dX8_night_25 : decode cX8_night 25 = .ok (.aload_n 0, 1) := by decide +kernel
theorem dX8_night_26 : decode cX8_night 26 = .ok (.iload_n 1, 1) := by decide +kernel
theorem dX8_night_27 : decode cX8_night 27 = .ok (.iconst 5, 1) := by decide +kernel
theorem dX8_night_28 : decode cX8_night 28 = .ok (.iload_n 2, 1) := by decide +kernel
theorem dX8_night_29 : decode cX8_night 29 = .ok (.invokevirtual 82, 3) := by decide +kernel
theorem dX8_night_32 : decode cX8_night 32 = .ok (.aload_n 0, 1) := by decide +kernel
theorem dX8_night_33 : decode cX8_night 33 = .ok (.iload_n 1, 1) := by decide +kernel
theorem dX8_night_34 : decode cX8_night 34 = .ok (.bipush 7, 2) := by decide +kernel
theorem dX8_night_36 : decode cX8_night 36 = .ok (.aload_n 0, 1) := by decide +kernel
theorem dX8_night_37 : decode cX8_night 37 = .ok (.iload_n 1, 1) := by decide +kernel
theorem dX8_night_38 : decode cX8_night 38 = .ok (.bipush 7, 2) := by decide +kernel
theorem dX8_night_40 : decode cX8_night 40 = .ok (.invokevirtual 96, 3) := by decide +kernel
theorem dX8_night_43 : decode cX8_night 43 = .ok (.iload_n 2, 1) := by decide +kernel
theorem dX8_night_44 : decode cX8_night 44 = .ok (.iadd, 1) := by decide +kernel
theorem dX8_night_45 : decode cX8_night 45 = .ok (.invokevirtual 82, 3) := by decide +kernel
theorem dX8_night_48 : decode cX8_night 48 = .ok (.aload_n 0, 1) := by decide +kernel
theorem dX8_night_49 : decode cX8_night 49 = .ok (.getfield 19, 3) := by decide +kernel
theorem dX8_night_52 : decode cX8_night 52 = .ok (.iload_n 1, 1) := by decide +kernel
theorem dX8_night_53 : decode cX8_night 53 = .ok (.iconst 0, 1) := by decide +kernel
theorem dX8_night_54 : decode cX8_night 54 = .ok (.bastore, 1) := by decide +kernel
theorem dX8_night_55 : decode cX8_night 55 = .ok (.iinc 1 1, 3) := by decide +kernel
theorem dX8_night_58 : decode cX8_night 58 = .ok (.goto (-56), 3) := by decide +kernel
theorem dX8_night_61 : decode cX8_night 61 = .ok (.aload_n 0, 1) := by decide +kernel
theorem dX8_night_62 : decode cX8_night 62 = .ok (.iconst 0, 1) := by decide +kernel
theorem dX8_night_63 : decode cX8_night 63 = .ok (.invokevirtual 145, 3) := by decide +kernel
theorem dX8_night_66 : decode cX8_night 66 = .ok (.istore_n 1, 1) := by decide +kernel
theorem dX8_night_67 : decode cX8_night 67 = .ok (.iload_n 1, 1) := by decide +kernel
theorem dX8_night_68 : decode cX8_night 68 = .ok (.aload_n 0, 1) := by decide +kernel
theorem dX8_night_69 : decode cX8_night 69 = .ok (.iconst 1, 1) := by decide +kernel
theorem dX8_night_70 : decode cX8_night 70 = .ok (.invokevirtual 145, 3) := by decide +kernel
theorem dX8_night_73 : decode cX8_night 73 = .ok (.iadd, 1) := by decide +kernel
theorem dX8_night_74 : decode cX8_night 74 = .ok (.istore_n 1, 1) := by decide +kernel
theorem dX8_night_75 : decode cX8_night 75 = .ok (.iload_n 1, 1) := by decide +kernel
theorem dX8_night_76 : decode cX8_night 76 = .ok (.aload_n 0, 1) := by decide +kernel
theorem dX8_night_77 : decode cX8_night 77 = .ok (.iconst 2, 1) := by decide +kernel
theorem dX8_night_78 : decode cX8_night 78 = .ok (.invokevirtual 145, 3) := by decide +kernel
theorem dX8_night_81 : decode cX8_night 81 = .ok (.iadd, 1) := by decide +kernel
theorem dX8_night_82 : decode cX8_night 82 = .ok (.istore_n 1, 1) := by decide +kernel
theorem dX8_night_83 : decode cX8_night 83 = .ok (.iconst 0, 1) := by decide +kernel
theorem dX8_night_84 : decode cX8_night 84 = .ok (.istore_n 2, 1) := by decide +kernel
theorem dX8_night_85 : decode cX8_night 85 = .ok (.iload_n 2, 1) := by decide +kernel
theorem dX8_night_86 : decode cX8_night 86 = .ok (.aload_n 0, 1) := by decide +kernel
theorem dX8_night_87 : decode cX8_night 87 = .ok (.getfield 9, 3) := by decide +kernel
theorem dX8_night_90 : decode cX8_night 90 = .ok (.iconst 1, 1) := by decide +kernel
theorem dX8_night_91 : decode cX8_night 91 = .ok (.iaload, 1) := by decide +kernel
theorem dX8_night_92 : decode cX8_night 92 = .ok (.if_icmp .ge 82, 3) := by decide +kernel
theorem dX8_night_95 : decode cX8_night 95 = .ok (.aload_n 0, 1) := by decide +kernel
theorem dX8_night_96 : decode cX8_night 96 = .ok (.aload_n 0, 1) := by decide +kernel
theorem dX8_night_97 : decode cX8_night 97 = .ok (.iload_n 2, 1) := by decide +kernel
theorem dX8_night_98 : decode cX8_night 98 = .ok (.invokevirtual 148, 3) := by decide +kernel
theorem dX8_night_101 : decode cX8_night 101 = .ok (.iconst 5, 1) := by decide +kernel
theorem dX8_night_102 : decode cX8_night 102 = .ok (.invokevirtual 96, 3) := by decide +kernel
theorem dX8_night_105 : decode cX8_night 105 = .ok (.aload_n 0, 1) := by decide +kernel
theorem dX8_night_106 : decode cX8_night 106 = .ok (.iload_n 2, 1) := by decide +kernel
theorem dX8_night_107 : decode cX8_night 107 = .ok (.iconst 5, 1) := by decide +kernel
theorem dX8_night_108 : decode cX8_night 108 = .ok (.invokevirtual 96, 3) := by decide +kernel
theorem dX8_night_111 : decode cX8_night 111 = .ok (.isub, 1) := by decide +kernel
theorem dX8_night_112 : decode cX8_night 112 = .ok (.istore_n 3, 1) := by decide +kernel
theorem dX8_night_113 : decode cX8_night 113 = .ok (.aload_n 0, 1) := by decide +kernel
theorem dX8_night_114 : decode cX8_night 114 = .ok (.iload_n 2, 1) := by decide +kernel
theorem dX8_night_115 : decode cX8_night 115 = .ok (.bipush 8, 2) := by decide +kernel
theorem dX8_night_117 : decode cX8_night 117 = .ok (.aload_n 0, 1) := by decide +kernel
theorem dX8_night_118 : decode cX8_night 118 = .ok (.iload_n 2, 1) := by decide +kernel
theorem dX8_night_119 : decode cX8_night 119 = .ok (.bipush 8, 2) := by decide +kernel
theorem dX8_night_121 : decode cX8_night 121 = .ok (.invokevirtual 96, 3) := by decide +kernel
theorem dX8_night_124 : decode cX8_night 124 = .ok (.iload_n 3, 1) := by decide +kernel
theorem dX8_night_125 : decode cX8_night 125 = .ok (.ifCond .le 7, 3) := by decide +kernel
theorem dX8_night_128 : decode cX8_night 128 = .ok (.iload_n 3, 1) := by decide +kernel
theorem dX8_night_129 : decode cX8_night 129 = .ok (.goto 4, 3) := by decide +kernel
theorem dX8_night_132 : decode cX8_night 132 = .ok (.iconst 0, 1) := by decide +kernel
theorem dX8_night_133 : decode cX8_night 133 = .ok (.iadd, 1) := by decide +kernel
theorem dX8_night_134 : decode cX8_night 134 = .ok (.invokevirtual 82, 3) := by decide +kernel
theorem dX8_night_137 : decode cX8_night 137 = .ok (.aload_n 0, 1) := by decide +kernel
theorem dX8_night_138 : decode cX8_night 138 = .ok (.iload_n 2, 1) := by decide +kernel
theorem dX8_night_139 : decode cX8_night 139 = .ok (.iconst 4, 1) := by decide +kernel
theorem dX8_night_140 : decode cX8_night 140 = .ok (.aload_n 0, 1) := by decide +kernel
theorem dX8_night_141 : decode cX8_night 141 = .ok (.iload_n 2, 1) := by decide +kernel
theorem dX8_night_142 : decode cX8_night 142 = .ok (.iconst 4, 1) := by decide +kernel
theorem dX8_night_143 : decode cX8_night 143 = .ok (.invokevirtual 96, 3) := by decide +kernel
theorem dX8_night_146 : decode cX8_night 146 = .ok (.aload_n 0, 1) := by decide +kernel
theorem dX8_night_147 : decode cX8_night 147 = .ok (.iload_n 2, 1) := by decide +kernel
theorem dX8_night_148 : decode cX8_night 148 = .ok (.aload_n 0, 1) := by decide +kernel
theorem dX8_night_149 : decode cX8_night 149 = .ok (.getfield 19, 3) := by decide +kernel
theorem dX8_night_152 : decode cX8_night 152 = .ok (.iload_n 2, 1) := by decide +kernel
theorem dX8_night_153 : decode cX8_night 153 = .ok (.baload, 1) := by decide +kernel
theorem dX8_night_154 : decode cX8_night 154 = .ok (.invokevirtual 151, 3) := by decide +kernel
theorem dX8_night_157 : decode cX8_night 157 = .ok (.iadd, 1) := by decide +kernel
theorem dX8_night_158 : decode cX8_night 158 = .ok (.iconst 0, 1) := by decide +kernel
theorem dX8_night_159 : decode cX8_night 159 = .ok (.sipush 300, 3) := by decide +kernel
theorem dX8_night_162 : decode cX8_night 162 = .ok (.invokestatic 114, 3) := by decide +kernel
theorem dX8_night_165 : decode cX8_night 165 = .ok (.invokevirtual 82, 3) := by decide +kernel
theorem dX8_night_168 : decode cX8_night 168 = .ok (.iinc 2 1, 3) := by decide +kernel
theorem dX8_night_171 : decode cX8_night 171 = .ok (.goto (-86), 3) := by decide +kernel
theorem dX8_night_174 : decode cX8_night 174 = .ok (.aload_n 0, 1) := by decide +kernel
theorem dX8_night_175 : decode cX8_night 175 = .ok (.getfield 9, 3) := by decide +kernel
theorem dX8_night_178 : decode cX8_night 178 = .ok (.iconst 2, 1) := by decide +kernel
theorem dX8_night_179 : decode cX8_night 179 = .ok (.dup2, 1) := by decide +kernel
theorem dX8_night_180 : decode cX8_night 180 = .ok (.iaload, 1) := by decide +kernel
theorem dX8_night_181 : decode cX8_night 181 = .ok (.iconst 1, 1) := by decide +kernel
theorem dX8_night_182 : decode cX8_night 182 = .ok (.iadd, 1) := by decide +kernel
theorem dX8_night_183 : decode cX8_night 183 = .ok (.iastore, 1) := by decide +kernel
theorem dX8_night_184 : decode cX8_night 184 = .ok (.iload_n 1, 1) := by decide +kernel
theorem dX8_night_185 : decode cX8_night 185 = .ok (.ireturn, 1) := by decide +kernel
theorem dX8_goesOn_0 : decode cX8_goesOn 0 = .ok (.iconst 0, 1) := by decide +kernel
theorem dX8_goesOn_1 : decode cX8_goesOn 1 = .ok (.istore_n 2, 1) := by decide +kernel
theorem dX8_goesOn_2 : decode cX8_goesOn 2 = .ok (.iconst 0, 1) := by decide +kernel
theorem dX8_goesOn_3 : decode cX8_goesOn 3 = .ok (.istore_n 3, 1) := by decide +kernel
theorem dX8_goesOn_4 : decode cX8_goesOn 4 = .ok (.iload_n 3, 1) := by decide +kernel
theorem dX8_goesOn_5 : decode cX8_goesOn 5 = .ok (.iload_n 1, 1) := by decide +kernel
theorem dX8_goesOn_6 : decode cX8_goesOn 6 = .ok (.if_icmp .ge 16, 3) := by decide +kernel
theorem dX8_goesOn_9 : decode cX8_goesOn 9 = .ok (.iload_n 2, 1) := by decide +kernel
theorem dX8_goesOn_10 : decode cX8_goesOn 10 = .ok (.aload_n 0, 1) := by decide +kernel
theorem dX8_goesOn_11 : decode cX8_goesOn 11 = .ok (.invokevirtual 155, 3) := by decide +kernel
theorem dX8_goesOn_14 : decode cX8_goesOn 14 = .ok (.iadd, 1) := by decide +kernel
theorem dX8_goesOn_15 : decode cX8_goesOn 15 = .ok (.istore_n 2, 1) := by decide +kernel
theorem dX8_goesOn_16 : decode cX8_goesOn 16 = .ok (.iinc 3 1, 3) := by decide +kernel
theorem dX8_goesOn_19 : decode cX8_goesOn 19 = .ok (.goto (-15), 3) := by decide +kernel
theorem dX8_goesOn_22 : decode cX8_goesOn 22 = .ok (.iload_n 2, 1) := by decide +kernel
theorem dX8_goesOn_23 : decode cX8_goesOn 23 = .ok (.ireturn, 1) := by decide +kernel
theorem dX8_nights_0 : decode cX8_nights 0 = .ok (.iload_n 1, 1) := by decide +kernel
theorem dX8_nights_1 : decode cX8_nights 1 = .ok (.iconst 1, 1) := by decide +kernel
theorem dX8_nights_2 : decode cX8_nights 2 = .ok (.bipush 100, 2) := by decide +kernel
theorem dX8_nights_4 : decode cX8_nights 4 = .ok (.invokestatic 78, 3) := by decide +kernel
theorem dX8_nights_7 : decode cX8_nights 7 = .ok (.ifCond .eq 25, 3) := by decide +kernel
theorem dX8_nights_10 : decode cX8_nights 10 = .ok (.aload_n 0, 1) := by decide +kernel
theorem dX8_nights_11 : decode cX8_nights 11 = .ok (.sipush 9999, 3) := by decide +kernel
theorem dX8_nights_14 : decode cX8_nights 14 = .ok (.aload_n 0, 1) := by decide +kernel
theorem dX8_nights_15 : decode cX8_nights 15 = .ok (.getfield 9, 3) := by decide +kernel
theorem dX8_nights_18 : decode cX8_nights 18 = .ok (.iconst 2, 1) := by decide +kernel
theorem dX8_nights_19 : decode cX8_nights 19 = .ok (.iaload, 1) := by decide +kernel
theorem dX8_nights_20 : decode cX8_nights 20 = .ok (.isub, 1) := by decide +kernel
theorem dX8_nights_21 : decode cX8_nights 21 = .ok (.iconst 0, 1) := by decide +kernel
theorem dX8_nights_22 : decode cX8_nights 22 = .ok (.iload_n 1, 1) := by decide +kernel
theorem dX8_nights_23 : decode cX8_nights 23 = .ok (.invokestatic 114, 3) := by decide +kernel
theorem dX8_nights_26 : decode cX8_nights 26 = .ok (.invokevirtual 158, 3) := by decide +kernel
theorem dX8_nights_29 : decode cX8_nights 29 = .ok (.goto 5, 3) := by decide +kernel
theorem dX8_nights_32 : decode cX8_nights 32 = .ok (.ldc 90, 2) := by decide +kernel
theorem dX8_nights_34 : decode cX8_nights 34 = .ok (.ireturn, 1) := by decide +kernel
theorem dX8_sumOf_0 : decode cX8_sumOf 0 = .ok (.iconst 0, 1) := by decide +kernel
theorem dX8_sumOf_1 : decode cX8_sumOf 1 = .ok (.istore_n 2, 1) := by decide +kernel
theorem dX8_sumOf_2 : decode cX8_sumOf 2 = .ok (.iconst 0, 1) := by decide +kernel
theorem dX8_sumOf_3 : decode cX8_sumOf 3 = .ok (.istore_n 3, 1) := by decide +kernel
theorem dX8_sumOf_4 : decode cX8_sumOf 4 = .ok (.iload_n 3, 1) := by decide +kernel
theorem dX8_sumOf_5 : decode cX8_sumOf 5 = .ok (.aload_n 0, 1) := by decide +kernel
theorem dX8_sumOf_6 : decode cX8_sumOf 6 = .ok (.getfield 9, 3) := by decide +kernel
theorem dX8_sumOf_9 : decode cX8_sumOf 9 = .ok (.iconst 1, 1) := by decide +kernel
theorem dX8_sumOf_10 : decode cX8_sumOf 10 = .ok (.iaload, 1) := by decide +kernel
theorem dX8_sumOf_11 : decode cX8_sumOf 11 = .ok (.if_icmp .ge 18, 3) := by decide +kernel
theorem dX8_sumOf_14 : decode cX8_sumOf 14 = .ok (.iload_n 2, 1) := by decide +kernel
theorem dX8_sumOf_15 : decode cX8_sumOf 15 = .ok (.aload_n 0, 1) := by decide +kernel
theorem dX8_sumOf_16 : decode cX8_sumOf 16 = .ok (.iload_n 3, 1) := by decide +kernel
theorem dX8_sumOf_17 : decode cX8_sumOf 17 = .ok (.iload_n 1, 1) := by decide +kernel
theorem dX8_sumOf_18 : decode cX8_sumOf 18 = .ok (.invokevirtual 96, 3) := by decide +kernel
theorem dX8_sumOf_21 : decode cX8_sumOf 21 = .ok (.iadd, 1) := by decide +kernel
theorem dX8_sumOf_22 : decode cX8_sumOf 22 = .ok (.istore_n 2, 1) := by decide +kernel
theorem dX8_sumOf_23 : decode cX8_sumOf 23 = .ok (.iinc 3 1, 3) := by decide +kernel
theorem dX8_sumOf_26 : decode cX8_sumOf 26 = .ok (.goto (-22), 3) := by decide +kernel
theorem dX8_sumOf_29 : decode cX8_sumOf 29 = .ok (.iload_n 2, 1) := by decide +kernel
theorem dX8_sumOf_30 : decode cX8_sumOf 30 = .ok (.ireturn, 1) := by decide +kernel
theorem dX8_setOn_0 : decode cX8_setOn 0 = .ok (.iconst 0, 1) := by decide +kernel
theorem dX8_setOn_1 : decode cX8_setOn 1 = .ok (.istore_n 2, 1) := by decide +kernel
theorem dX8_setOn_2 : decode cX8_setOn 2 = .ok (.iconst 0, 1) := by decide +kernel
theorem dX8_setOn_3 : decode cX8_setOn 3 = .ok (.istore_n 3, 1) := by decide +kernel
theorem dX8_setOn_4 : decode cX8_setOn 4 = .ok (.iload_n 3, 1) := by decide +kernel
theorem dX8_setOn_5 : decode cX8_setOn 5 = .ok (.aload_n 0, 1) := by decide +kernel
theorem dX8_setOn_6 : decode cX8_setOn 6 = .ok (.getfield 9, 3) := by decide +kernel
theorem dX8_setOn_9 : decode cX8_setOn 9 = .ok (.iconst 1, 1) := by decide +kernel
theorem dX8_setOn_10 : decode cX8_setOn 10 = .ok (.iaload, 1) := by decide +kernel
theorem dX8_setOn_11 : decode cX8_setOn 11 = .ok (.if_icmp .ge 29, 3) := by decide +kernel
theorem dX8_setOn_14 : decode cX8_setOn 14 = .ok (.iload_n 2, 1) := by decide +kernel
theorem dX8_setOn_15 : decode cX8_setOn 15 = .ok (.aload_n 0, 1) := by decide +kernel
theorem dX8_setOn_16 : decode cX8_setOn 16 = .ok (.iload_n 3, 1) := by decide +kernel
theorem dX8_setOn_17 : decode cX8_setOn 17 = .ok (.iconst 1, 1) := by decide +kernel
theorem dX8_setOn_18 : decode cX8_setOn 18 = .ok (.invokevirtual 96, 3) := by decide +kernel
theorem dX8_setOn_21 : decode cX8_setOn 21 = .ok (.iload_n 1, 1) := by decide +kernel
theorem dX8_setOn_22 : decode cX8_setOn 22 = .ok (.if_icmp .ne 9, 3) := by decide +kernel
theorem dX8_setOn_25 : decode cX8_setOn 25 = .ok (.iconst 1, 1) := by decide +kernel
theorem dX8_setOn_26 : decode cX8_setOn 26 = .ok (.iload_n 3, 1) := by decide +kernel
theorem dX8_setOn_27 : decode cX8_setOn 27 = .ok (.ishl, 1) := by decide +kernel
theorem dX8_setOn_28 : decode cX8_setOn 28 = .ok (.goto 4, 3) := by decide +kernel
theorem dX8_setOn_31 : decode cX8_setOn 31 = .ok (.iconst 0, 1) := by decide +kernel
theorem dX8_setOn_32 : decode cX8_setOn 32 = .ok (.ior, 1) := by decide +kernel
theorem dX8_setOn_33 : decode cX8_setOn 33 = .ok (.istore_n 2, 1) := by decide +kernel
theorem dX8_setOn_34 : decode cX8_setOn 34 = .ok (.iinc 3 1, 3) := by decide +kernel
theorem dX8_setOn_37 : decode cX8_setOn 37 = .ok (.goto (-33), 3) := by decide +kernel
theorem dX8_setOn_40 : decode cX8_setOn 40 = .ok (.iload_n 2, 1) := by decide +kernel
theorem dX8_setOn_41 : decode cX8_setOn 41 = .ok (.ireturn, 1) := by decide +kernel
theorem dX8_house_0 : decode cX8_house 0 = .ok (.iload_n 1, 1) := by decide +kernel
theorem dX8_house_1 : decode cX8_house 1 = .ok (.iconst 0, 1) := by decide +kernel
theorem dX8_house_2 : decode cX8_house 2 = .ok (.bipush 6, 2) := by decide +kernel
theorem dX8_house_4 : decode cX8_house 4 = .ok (.invokestatic 78, 3) := by decide +kernel
theorem dX8_house_7 : decode cX8_house 7 = .ok (.ifCond .ne 6, 3) := by decide +kernel
theorem dX8_house_10 : decode cX8_house 10 = .ok (.ldc 90, 2) := by decide +kernel
theorem dX8_house_12 : decode cX8_house 12 = .ok (.ireturn, 1) := by decide +kernel
theorem dX8_house_13 : decode cX8_house 13 = .ok (.iload_n 1, 1) := by decide +kernel
theorem dX8_house_14 : decode cX8_house 14 = .ok (.iconst 4, 1) := by decide +kernel
theorem dX8_house_15 : decode cX8_house 15 = .ok (.if_icmp .ge 13, 3) := by decide +kernel
theorem dX8_house_18 : decode cX8_house 18 = .ok (.aload_n 0, 1) := by decide +kernel
theorem dX8_house_19 : decode cX8_house 19 = .ok (.iconst 5, 1) := by decide +kernel
theorem dX8_house_20 : decode cX8_house 20 = .ok (.iload_n 1, 1) := by decide +kernel
theorem dX8_house_21 : decode cX8_house 21 = .ok (.iadd, 1) := by decide +kernel
theorem dX8_house_22 : decode cX8_house 22 = .ok (.invokevirtual 161, 3) := by decide +kernel
theorem dX8_house_25 : decode cX8_house 25 = .ok (.goto 10, 3) := by decide +kernel
theorem dX8_house_28 : decode cX8_house 28 = .ok (.aload_n 0, 1) := by decide +kernel
theorem dX8_house_29 : decode cX8_house 29 = .ok (.iload_n 1, 1) := by decide +kernel
theorem dX8_house_30 : decode cX8_house 30 = .ok (.iconst 4, 1) := by decide +kernel
theorem dX8_house_31 : decode cX8_house 31 = .ok (.isub, 1) := by decide +kernel
theorem dX8_house_32 : decode cX8_house 32 = .ok (.invokevirtual 164, 3) := by decide +kernel
theorem dX8_house_35 : decode cX8_house 35 = .ok (.ireturn, 1) := by decide +kernel
theorem dX8_longest_0 : decode cX8_longest 0 = .ok (.ldc 167, 2) := by decide +kernel
theorem dX8_longest_2 : decode cX8_longest 2 = .ok (.istore_n 1, 1) := by decide +kernel
theorem dX8_longest_3 : decode cX8_longest 3 = .ok (.iconst (-1), 1) := by decide +kernel
theorem dX8_longest_4 : decode cX8_longest 4 = .ok (.istore_n 2, 1) := by decide +kernel
theorem dX8_longest_5 : decode cX8_longest 5 = .ok (.iconst 0, 1) := by decide +kernel
theorem dX8_longest_6 : decode cX8_longest 6 = .ok (.istore_n 3, 1) := by decide +kernel
theorem dX8_longest_7 : decode cX8_longest 7 = .ok (.iload_n 3, 1) := by decide +kernel
theorem dX8_longest_8 : decode cX8_longest 8 = .ok (.aload_n 0, 1) := by decide +kernel
theorem dX8_longest_9 : decode cX8_longest 9 = .ok (.getfield 9, 3) := by decide +kernel
theorem dX8_longest_12 : decode cX8_longest 12 = .ok (.iconst 1, 1) := by decide +kernel
theorem dX8_longest_13 : decode cX8_longest 13 = .ok (.iaload, 1) := by decide +kernel
theorem dX8_longest_14 : decode cX8_longest 14 = .ok (.if_icmp .ge 46, 3) := by decide +kernel
theorem dX8_longest_17 : decode cX8_longest 17 = .ok (.aload_n 0, 1) := by decide +kernel
theorem dX8_longest_18 : decode cX8_longest 18 = .ok (.iload_n 3, 1) := by decide +kernel
theorem dX8_longest_19 : decode cX8_longest 19 = .ok (.iconst 5, 1) := by decide +kernel
theorem dX8_longest_20 : decode cX8_longest 20 = .ok (.invokevirtual 96, 3) := by decide +kernel
theorem dX8_longest_23 : decode cX8_longest 23 = .ok (.iload_n 2, 1) := by decide +kernel
theorem dX8_longest_24 : decode cX8_longest 24 = .ok (.if_icmp .le 7, 3) := by decide +kernel
theorem dX8_longest_27 : decode cX8_longest 27 = .ok (.iload_n 3, 1) := by decide +kernel
theorem dX8_longest_28 : decode cX8_longest 28 = .ok (.goto 4, 3) := by decide +kernel
theorem dX8_longest_31 : decode cX8_longest 31 = .ok (.iload_n 1, 1) := by decide +kernel
theorem dX8_longest_32 : decode cX8_longest 32 = .ok (.istore_n 1, 1) := by decide +kernel
theorem dX8_longest_33 : decode cX8_longest 33 = .ok (.aload_n 0, 1) := by decide +kernel
theorem dX8_longest_34 : decode cX8_longest 34 = .ok (.iload_n 3, 1) := by decide +kernel
theorem dX8_longest_35 : decode cX8_longest 35 = .ok (.iconst 5, 1) := by decide +kernel
theorem dX8_longest_36 : decode cX8_longest 36 = .ok (.invokevirtual 96, 3) := by decide +kernel
theorem dX8_longest_39 : decode cX8_longest 39 = .ok (.iload_n 2, 1) := by decide +kernel
