theorem dX8_takesE_159 : decode cX8_takesE 159 = .ok (.invokevirtual 236, 3) := by decide +kernel
theorem dX8_takesE_162 : decode cX8_takesE 162 = .ok (.ifCond .eq 8, 3) := by decide +kernel
theorem dX8_takesE_165 : decode cX8_takesE 165 = .ok (.iconst 0, 1) := by decide +kernel
theorem dX8_takesE_166 : decode cX8_takesE 166 = .ok (.istore_n 3, 1) := by decide +kernel
theorem dX8_takesE_167 : decode cX8_takesE 167 = .ok (.goto 5, 3) := by decide +kernel
theorem dX8_takesE_170 : decode cX8_takesE 170 = .ok (.iconst 0, 1) := by decide +kernel
theorem dX8_takesE_171 : decode cX8_takesE 171 = .ok (.ireturn, 1) := by decide +kernel
theorem dX8_takesE_172 : decode cX8_takesE 172 = .ok (.aload_n 0, 1) := by decide +kernel
theorem dX8_takesE_173 : decode cX8_takesE 173 = .ok (.invokevirtual 240, 3) := by decide +kernel
theorem dX8_takesE_176 : decode cX8_takesE 176 = .ok (.istore_n 2, 1) := by decide +kernel
theorem dX8_takesE_177 : decode cX8_takesE 177 = .ok (.goto (-149), 3) := by decide +kernel
theorem dX8_takesE_180 : decode cX8_takesE 180 = .ok (.aload_n 0, 1) := by decide +kernel
theorem dX8_takesE_181 : decode cX8_takesE 181 = .ok (.getfield 199, 3) := by decide +kernel
theorem dX8_takesE_184 : decode cX8_takesE 184 = .ok (.iconst 3, 1) := by decide +kernel
theorem dX8_takesE_185 : decode cX8_takesE 185 = .ok (.if_icmp .ne 52, 3) := by decide +kernel
theorem dX8_takesE_188 : decode cX8_takesE 188 = .ok (.aload_n 0, 1) := by decide +kernel
theorem dX8_takesE_189 : decode cX8_takesE 189 = .ok (.getfield 205, 3) := by decide +kernel
theorem dX8_takesE_192 : decode cX8_takesE 192 = .ok (.bipush 41, 2) := by decide +kernel
theorem dX8_takesE_194 : decode cX8_takesE 194 = .ok (.if_icmp .ne 43, 3) := by decide +kernel
theorem dX8_takesE_197 : decode cX8_takesE 197 = .ok (.iload_n 1, 1) := by decide +kernel
theorem dX8_takesE_198 : decode cX8_takesE 198 = .ok (.ifCond .le 39, 3) := by decide +kernel
theorem dX8_takesE_201 : decode cX8_takesE 201 = .ok (.aload_n 0, 1) := by decide +kernel
theorem dX8_takesE_202 : decode cX8_takesE 202 = .ok (.iconst 0, 1) := by decide +kernel
theorem dX8_takesE_203 : decode cX8_takesE 203 = .ok (.invokevirtual 232, 3) := by decide +kernel
theorem dX8_takesE_206 : decode cX8_takesE 206 = .ok (.aload_n 0, 1) := by decide +kernel
theorem dX8_takesE_207 : decode cX8_takesE 207 = .ok (.dup, 1) := by decide +kernel
theorem dX8_takesE_208 : decode cX8_takesE 208 = .ok (.getfield 217, 3) := by decide +kernel
theorem dX8_takesE_211 : decode cX8_takesE 211 = .ok (.iconst 1, 1) := by decide +kernel
theorem dX8_takesE_212 : decode cX8_takesE 212 = .ok (.isub, 1) := by decide +kernel
theorem dX8_takesE_213 : decode cX8_takesE 213 = .ok (.putfield 217, 3) := by decide +kernel
theorem dX8_takesE_216 : decode cX8_takesE 216 = .ok (.iinc 1 (-1), 3) := by decide +kernel
theorem dX8_takesE_219 : decode cX8_takesE 219 = .ok (.aload_n 0, 1) := by decide +kernel
theorem dX8_takesE_220 : decode cX8_takesE 220 = .ok (.bipush 6, 2) := by decide +kernel
theorem dX8_takesE_222 : decode cX8_takesE 222 = .ok (.invokevirtual 232, 3) := by decide +kernel
theorem dX8_takesE_225 : decode cX8_takesE 225 = .ok (.aload_n 0, 1) := by decide +kernel
theorem dX8_takesE_226 : decode cX8_takesE 226 = .ok (.invokevirtual 240, 3) := by decide +kernel
theorem dX8_takesE_229 : decode cX8_takesE 229 = .ok (.istore_n 2, 1) := by decide +kernel
theorem dX8_takesE_230 : decode cX8_takesE 230 = .ok (.aload_n 0, 1) := by decide +kernel
theorem dX8_takesE_231 : decode cX8_takesE 231 = .ok (.invokevirtual 214, 3) := by decide +kernel
theorem dX8_takesE_234 : decode cX8_takesE 234 = .ok (.goto (-206), 3) := by decide +kernel
theorem dX8_takesE_237 : decode cX8_takesE 237 = .ok (.aload_n 0, 1) := by decide +kernel
theorem dX8_takesE_238 : decode cX8_takesE 238 = .ok (.invokevirtual 243, 3) := by decide +kernel
theorem dX8_takesE_241 : decode cX8_takesE 241 = .ok (.istore 4, 2) := by decide +kernel
theorem dX8_takesE_243 : decode cX8_takesE 243 = .ok (.iload 4, 2) := by decide +kernel
theorem dX8_takesE_245 : decode cX8_takesE 245 = .ok (.ifCond .eq 21, 3) := by decide +kernel
theorem dX8_takesE_248 : decode cX8_takesE 248 = .ok (.iload 4, 2) := by decide +kernel
theorem dX8_takesE_250 : decode cX8_takesE 250 = .ok (.invokestatic 220, 3) := by decide +kernel
theorem dX8_takesE_253 : decode cX8_takesE 253 = .ok (.iconst 3, 1) := by decide +kernel
theorem dX8_takesE_254 : decode cX8_takesE 254 = .ok (.if_icmp .ne 14, 3) := by decide +kernel
theorem dX8_takesE_257 : decode cX8_takesE 257 = .ok (.aload_n 0, 1) := by decide +kernel
theorem dX8_takesE_258 : decode cX8_takesE 258 = .ok (.getfield 42, 3) := by decide +kernel
theorem dX8_takesE_261 : decode cX8_takesE 261 = .ok (.iload_n 1, 1) := by decide +kernel
theorem dX8_takesE_262 : decode cX8_takesE 262 = .ok (.baload, 1) := by decide +kernel
theorem dX8_takesE_263 : decode cX8_takesE 263 = .ok (.ifCond .eq 5, 3) := by decide +kernel
theorem dX8_takesE_266 : decode cX8_takesE 266 = .ok (.iconst 0, 1) := by decide +kernel
theorem dX8_takesE_267 : decode cX8_takesE 267 = .ok (.ireturn, 1) := by decide +kernel
theorem dX8_takesE_268 : decode cX8_takesE 268 = .ok (.aload_n 0, 1) := by decide +kernel
theorem dX8_takesE_269 : decode cX8_takesE 269 = .ok (.getfield 42, 3) := by decide +kernel
theorem dX8_takesE_272 : decode cX8_takesE 272 = .ok (.iload_n 1, 1) := by decide +kernel
theorem dX8_takesE_273 : decode cX8_takesE 273 = .ok (.iload 4, 2) := by decide +kernel
theorem dX8_takesE_275 : decode cX8_takesE 275 = .ok (.invokestatic 220, 3) := by decide +kernel
theorem dX8_takesE_278 : decode cX8_takesE 278 = .ok (.iconst 3, 1) := by decide +kernel
theorem dX8_takesE_279 : decode cX8_takesE 279 = .ok (.if_icmp .eq 21, 3) := by decide +kernel
theorem dX8_takesE_282 : decode cX8_takesE 282 = .ok (.iload 4, 2) := by decide +kernel
theorem dX8_takesE_284 : decode cX8_takesE 284 = .ok (.invokestatic 220, 3) := by decide +kernel
theorem dX8_takesE_287 : decode cX8_takesE 287 = .ok (.iconst 3, 1) := by decide +kernel
theorem dX8_takesE_288 : decode cX8_takesE 288 = .ok (.if_icmp .le 16, 3) := by decide +kernel
theorem dX8_takesE_291 : decode cX8_takesE 291 = .ok (.aload_n 0, 1) := by decide +kernel
theorem dX8_takesE_292 : decode cX8_takesE 292 = .ok (.getfield 42, 3) := by decide +kernel
theorem dX8_takesE_295 : decode cX8_takesE 295 = .ok (.iload_n 1, 1) := by decide +kernel
theorem dX8_takesE_296 : decode cX8_takesE 296 = .ok (.baload, 1) := by decide +kernel
theorem dX8_takesE_297 : decode cX8_takesE 297 = .ok (.ifCond .eq 7, 3) := by decide +kernel
theorem dX8_takesE_300 : decode cX8_takesE 300 = .ok (.iconst 1, 1) := by decide +kernel
theorem dX8_takesE_301 : decode cX8_takesE 301 = .ok (.goto 4, 3) := by decide +kernel
theorem dX8_takesE_304 : decode cX8_takesE 304 = .ok (.iconst 0, 1) := by decide +kernel
theorem dX8_takesE_305 : decode cX8_takesE 305 = .ok (.bastore, 1) := by decide +kernel
theorem dX8_takesE_306 : decode cX8_takesE 306 = .ok (.aload_n 0, 1) := by decide +kernel
theorem dX8_takesE_307 : decode cX8_takesE 307 = .ok (.iload 4, 2) := by decide +kernel
theorem dX8_takesE_309 : decode cX8_takesE 309 = .ok (.invokestatic 220, 3) := by decide +kernel
theorem dX8_takesE_312 : decode cX8_takesE 312 = .ok (.invokevirtual 232, 3) := by decide +kernel
theorem dX8_takesE_315 : decode cX8_takesE 315 = .ok (.aload_n 0, 1) := by decide +kernel
theorem dX8_takesE_316 : decode cX8_takesE 316 = .ok (.getfield 39, 3) := by decide +kernel
theorem dX8_takesE_319 : decode cX8_takesE 319 = .ok (.aload_n 0, 1) := by decide +kernel
theorem dX8_takesE_320 : decode cX8_takesE 320 = .ok (.getfield 217, 3) := by decide +kernel
theorem dX8_takesE_323 : decode cX8_takesE 323 = .ok (.iload 4, 2) := by decide +kernel
theorem dX8_takesE_325 : decode cX8_takesE 325 = .ok (.iastore, 1) := by decide +kernel
theorem dX8_takesE_326 : decode cX8_takesE 326 = .ok (.aload_n 0, 1) := by decide +kernel
theorem dX8_takesE_327 : decode cX8_takesE 327 = .ok (.dup, 1) := by decide +kernel
theorem dX8_takesE_328 : decode cX8_takesE 328 = .ok (.getfield 217, 3) := by decide +kernel
theorem dX8_takesE_331 : decode cX8_takesE 331 = .ok (.iconst 1, 1) := by decide +kernel
theorem dX8_takesE_332 : decode cX8_takesE 332 = .ok (.iadd, 1) := by decide +kernel
theorem dX8_takesE_333 : decode cX8_takesE 333 = .ok (.putfield 217, 3) := by decide +kernel
theorem dX8_takesE_336 : decode cX8_takesE 336 = .ok (.iconst 1, 1) := by decide +kernel
theorem dX8_takesE_337 : decode cX8_takesE 337 = .ok (.istore_n 3, 1) := by decide +kernel
theorem dX8_takesE_338 : decode cX8_takesE 338 = .ok (.aload_n 0, 1) := by decide +kernel
theorem dX8_takesE_339 : decode cX8_takesE 339 = .ok (.invokevirtual 214, 3) := by decide +kernel
theorem dX8_takesE_342 : decode cX8_takesE 342 = .ok (.goto (-314), 3) := by decide +kernel
theorem dX8_takesE_345 : decode cX8_takesE 345 = .ok (.aload_n 0, 1) := by decide +kernel
theorem dX8_takesE_346 : decode cX8_takesE 346 = .ok (.iconst 0, 1) := by decide +kernel
theorem dX8_takesE_347 : decode cX8_takesE 347 = .ok (.invokevirtual 232, 3) := by decide +kernel
theorem dX8_takesE_350 : decode cX8_takesE 350 = .ok (.iload_n 1, 1) := by decide +kernel
theorem dX8_takesE_351 : decode cX8_takesE 351 = .ok (.ifCond .ne 7, 3) := by decide +kernel
theorem dX8_takesE_354 : decode cX8_takesE 354 = .ok (.iconst 1, 1) := by decide +kernel
theorem dX8_takesE_355 : decode cX8_takesE 355 = .ok (.goto 4, 3) := by decide +kernel
theorem dX8_takesE_358 : decode cX8_takesE 358 = .ok (.iconst 0, 1) := by decide +kernel
theorem dX8_takesE_359 : decode cX8_takesE 359 = .ok (.ireturn, 1) := by decide +kernel
theorem dX8_notsOpen_0 : decode cX8_notsOpen 0 = .ok (.iconst 0, 1) := by decide +kernel
theorem dX8_notsOpen_1 : decode cX8_notsOpen 1 = .ok (.istore_n 1, 1) := by decide +kernel
theorem dX8_notsOpen_2 : decode cX8_notsOpen 2 = .ok (.iconst 0, 1) := by decide +kernel
theorem dX8_notsOpen_3 : decode cX8_notsOpen 3 = .ok (.istore_n 2, 1) := by decide +kernel
theorem dX8_notsOpen_4 : decode cX8_notsOpen 4 = .ok (.iload_n 2, 1) := by decide +kernel
theorem dX8_notsOpen_5 : decode cX8_notsOpen 5 = .ok (.aload_n 0, 1) := by decide +kernel
theorem dX8_notsOpen_6 : decode cX8_notsOpen 6 = .ok (.getfield 217, 3) := by decide +kernel
theorem dX8_notsOpen_9 : decode cX8_notsOpen 9 = .ok (.if_icmp .ge 28, 3) := by decide +kernel
theorem dX8_notsOpen_12 : decode cX8_notsOpen 12 = .ok (.iload_n 1, 1) := by decide +kernel
theorem dX8_notsOpen_13 : decode cX8_notsOpen 13 = .ok (.aload_n 0, 1) := by decide +kernel
theorem dX8_notsOpen_14 : decode cX8_notsOpen 14 = .ok (.getfield 39, 3) := by decide +kernel
theorem dX8_notsOpen_17 : decode cX8_notsOpen 17 = .ok (.iload_n 2, 1) := by decide +kernel
theorem dX8_notsOpen_18 : decode cX8_notsOpen 18 = .ok (.iaload, 1) := by decide +kernel
theorem dX8_notsOpen_19 : decode cX8_notsOpen 19 = .ok (.bipush (-10), 2) := by decide +kernel
theorem dX8_notsOpen_21 : decode cX8_notsOpen 21 = .ok (.if_icmp .ne 7, 3) := by decide +kernel
theorem dX8_notsOpen_24 : decode cX8_notsOpen 24 = .ok (.iconst 1, 1) := by decide +kernel
theorem dX8_notsOpen_25 : decode cX8_notsOpen 25 = .ok (.goto 4, 3) := by decide +kernel
theorem dX8_notsOpen_28 : decode cX8_notsOpen 28 = .ok (.iconst 0, 1) := by decide +kernel
theorem dX8_notsOpen_29 : decode cX8_notsOpen 29 = .ok (.iadd, 1) := by decide +kernel
theorem dX8_notsOpen_30 : decode cX8_notsOpen 30 = .ok (.istore_n 1, 1) := by decide +kernel
theorem dX8_notsOpen_31 : decode cX8_notsOpen 31 = .ok (.iinc 2 1, 3) := by decide +kernel
theorem dX8_notsOpen_34 : decode cX8_notsOpen 34 = .ok (.goto (-30), 3) := by decide +kernel
theorem dX8_notsOpen_37 : decode cX8_notsOpen 37 = .ok (.iload_n 1, 1) := by decide +kernel
theorem dX8_notsOpen_38 : decode cX8_notsOpen 38 = .ok (.ireturn, 1) := by decide +kernel
theorem dX8_text_0 : decode cX8_text 0 = .ok (.aload_n 0, 1) := by decide +kernel
theorem dX8_text_1 : decode cX8_text 1 = .ok (.iconst 0, 1) := by decide +kernel
theorem dX8_text_2 : decode cX8_text 2 = .ok (.putfield 190, 3) := by decide +kernel
theorem dX8_text_5 : decode cX8_text 5 = .ok (.aload_n 0, 1) := by decide +kernel
theorem dX8_text_6 : decode cX8_text 6 = .ok (.iconst (-1), 1) := by decide +kernel
theorem dX8_text_7 : decode cX8_text 7 = .ok (.putfield 196, 3) := by decide +kernel
theorem dX8_text_10 : decode cX8_text 10 = .ok (.aload_n 0, 1) := by decide +kernel
theorem dX8_text_11 : decode cX8_text 11 = .ok (.invokevirtual 214, 3) := by decide +kernel
theorem dX8_text_14 : decode cX8_text 14 = .ok (.aload_n 0, 1) := by decide +kernel
theorem dX8_text_15 : decode cX8_text 15 = .ok (.invokevirtual 246, 3) := by decide +kernel
theorem dX8_text_18 : decode cX8_text 18 = .ok (.ifCond .eq 14, 3) := by decide +kernel
theorem dX8_text_21 : decode cX8_text 21 = .ok (.aload_n 0, 1) := by decide +kernel
theorem dX8_text_22 : decode cX8_text 22 = .ok (.invokevirtual 249, 3) := by decide +kernel
theorem dX8_text_25 : decode cX8_text 25 = .ok (.ifCond .eq 7, 3) := by decide +kernel
theorem dX8_text_28 : decode cX8_text 28 = .ok (.iconst 1, 1) := by decide +kernel
theorem dX8_text_29 : decode cX8_text 29 = .ok (.goto 4, 3) := by decide +kernel
theorem dX8_text_32 : decode cX8_text 32 = .ok (.iconst 0, 1) := by decide +kernel
theorem dX8_text_33 : decode cX8_text 33 = .ok (.istore_n 1, 1) := by decide +kernel
theorem dX8_text_34 : decode cX8_text 34 = .ok (.aload_n 0, 1) := by decide +kernel
theorem dX8_text_35 : decode cX8_text 35 = .ok (.iconst 0, 1) := by decide +kernel
theorem dX8_text_36 : decode cX8_text 36 = .ok (.putfield 186, 3) := by decide +kernel
theorem dX8_text_39 : decode cX8_text 39 = .ok (.iload_n 1, 1) := by decide +kernel
theorem dX8_text_40 : decode cX8_text 40 = .ok (.ifCond .ne 11, 3) := by decide +kernel
theorem dX8_text_43 : decode cX8_text 43 = .ok (.bipush (-100), 2) := by decide +kernel
theorem dX8_text_45 : decode cX8_text 45 = .ok (.aload_n 0, 1) := by decide +kernel
theorem dX8_text_46 : decode cX8_text 46 = .ok (.getfield 193, 3) := by decide +kernel
theorem dX8_text_49 : decode cX8_text 49 = .ok (.isub, 1) := by decide +kernel
theorem dX8_text_50 : decode cX8_text 50 = .ok (.ireturn, 1) := by decide +kernel
theorem dX8_text_51 : decode cX8_text 51 = .ok (.aload_n 0, 1) := by decide +kernel
theorem dX8_text_52 : decode cX8_text 52 = .ok (.getfield 9, 3) := by decide +kernel
theorem dX8_text_55 : decode cX8_text 55 = .ok (.iconst 5, 1) := by decide +kernel
theorem dX8_text_56 : decode cX8_text 56 = .ok (.iaload, 1) := by decide +kernel
theorem dX8_text_57 : decode cX8_text 57 = .ok (.bipush 14, 2) := by decide +kernel
theorem dX8_text_59 : decode cX8_text 59 = .ok (.if_icmp .ne 6, 3) := by decide +kernel
theorem dX8_text_62 : decode cX8_text 62 = .ok (.ldc 91, 2) := by decide +kernel
theorem dX8_text_64 : decode cX8_text 64 = .ok (.ireturn, 1) := by decide +kernel
theorem dX8_text_65 : decode cX8_text 65 = .ok (.aload_n 0, 1) := by decide +kernel
theorem dX8_text_66 : decode cX8_text 66 = .ok (.getfield 9, 3) := by decide +kernel
theorem dX8_text_69 : decode cX8_text 69 = .ok (.iconst 5, 1) := by decide +kernel
theorem dX8_text_70 : decode cX8_text 70 = .ok (.iaload, 1) := by decide +kernel
theorem dX8_text_71 : decode cX8_text 71 = .ok (.istore_n 2, 1) := by decide +kernel
theorem dX8_text_72 : decode cX8_text 72 = .ok (.aload_n 0, 1) := by decide +kernel
theorem dX8_text_73 : decode cX8_text 73 = .ok (.getfield 9, 3) := by decide +kernel
theorem dX8_text_76 : decode cX8_text 76 = .ok (.bipush 96, 2) := by decide +kernel
theorem dX8_text_78 : decode cX8_text 78 = .ok (.iconst 2, 1) := by decide +kernel
theorem dX8_text_79 : decode cX8_text 79 = .ok (.iload_n 2, 1) := by decide +kernel
theorem dX8_text_80 : decode cX8_text 80 = .ok (.imul, 1) := by decide +kernel
theorem dX8_text_81 : decode cX8_text 81 = .ok (.iadd, 1) := by decide +kernel
theorem dX8_text_82 : decode cX8_text 82 = .ok (.sipush 1000, 3) := by decide +kernel
theorem dX8_text_85 : decode cX8_text 85 = .ok (.aload_n 0, 1) := by decide +kernel
theorem dX8_text_86 : decode cX8_text 86 = .ok (.getfield 211, 3) := by decide +kernel
theorem dX8_text_89 : decode cX8_text 89 = .ok (.imul, 1) := by decide +kernel
theorem dX8_text_90 : decode cX8_text 90 = .ok (.aload_n 0, 1) := by decide +kernel
theorem dX8_text_91 : decode cX8_text 91 = .ok (.getfield 223, 3) := by decide +kernel
theorem dX8_text_94 : decode cX8_text 94 = .ok (.iadd, 1) := by decide +kernel
theorem dX8_text_95 : decode cX8_text 95 = .ok (.iastore, 1) := by decide +kernel
theorem dX8_text_96 : decode cX8_text 96 = .ok (.aload_n 0, 1) := by decide +kernel
theorem dX8_text_97 : decode cX8_text 97 = .ok (.getfield 9, 3) := by decide +kernel
theorem dX8_text_100 : decode cX8_text 100 = .ok (.bipush 96, 2) := by decide +kernel
theorem dX8_text_102 : decode cX8_text 102 = .ok (.iconst 2, 1) := by decide +kernel
theorem dX8_text_103 : decode cX8_text 103 = .ok (.iload_n 2, 1) := by decide +kernel
theorem dX8_text_104 : decode cX8_text 104 = .ok (.imul, 1) := by decide +kernel
theorem dX8_text_105 : decode cX8_text 105 = .ok (.iadd, 1) := by decide +kernel
theorem dX8_text_106 : decode cX8_text 106 = .ok (.iconst 1, 1) := by decide +kernel
theorem dX8_text_107 : decode cX8_text 107 = .ok (.iadd, 1) := by decide +kernel
theorem dX8_text_108 : decode cX8_text 108 = .ok (.aload_n 0, 1) := by decide +kernel
theorem dX8_text_109 : decode cX8_text 109 = .ok (.getfield 229, 3) := by decide +kernel
theorem dX8_text_112 : decode cX8_text 112 = .ok (.iastore, 1) := by decide +kernel
theorem dX8_text_113 : decode cX8_text 113 = .ok (.iconst 0, 1) := by decide +kernel
theorem dX8_text_114 : decode cX8_text 114 = .ok (.istore_n 3, 1) := by decide +kernel
theorem dX8_text_115 : decode cX8_text 115 = .ok (.iload_n 3, 1) := by decide +kernel
theorem dX8_text_116 : decode cX8_text 116 = .ok (.aload_n 0, 1) := by decide +kernel
theorem dX8_text_117 : decode cX8_text 117 = .ok (.getfield 223, 3) := by decide +kernel
theorem dX8_text_120 : decode cX8_text 120 = .ok (.if_icmp .ge 29, 3) := by decide +kernel
theorem dX8_text_123 : decode cX8_text 123 = .ok (.aload_n 0, 1) := by decide +kernel
theorem dX8_text_124 : decode cX8_text 124 = .ok (.getfield 9, 3) := by decide +kernel
theorem dX8_text_127 : decode cX8_text 127 = .ok (.bipush 124, 2) := by decide +kernel
theorem dX8_text_129 : decode cX8_text 129 = .ok (.bipush 96, 2) := by decide +kernel
theorem dX8_text_131 : decode cX8_text 131 = .ok (.iload_n 2, 1) := by decide +kernel
theorem dX8_text_132 : decode cX8_text 132 = .ok (.imul, 1) := by decide +kernel
theorem dX8_text_133 : decode cX8_text 133 = .ok (.iadd, 1) := by decide +kernel
theorem dX8_text_134 : decode cX8_text 134 = .ok (.iload_n 3, 1) := by decide +kernel
theorem dX8_text_135 : decode cX8_text 135 = .ok (.iadd, 1) := by decide +kernel
theorem dX8_text_136 : decode cX8_text 136 = .ok (.aload_n 0, 1) := by decide +kernel
theorem dX8_text_137 : decode cX8_text 137 = .ok (.getfield 36, 3) := by decide +kernel
theorem dX8_text_140 : decode cX8_text 140 = .ok (.iload_n 3, 1) := by decide +kernel
theorem dX8_text_141 : decode cX8_text 141 = .ok (.iaload, 1) := by decide +kernel
theorem dX8_text_142 : decode cX8_text 142 = .ok (.iastore, 1) := by decide +kernel
theorem dX8_text_143 : decode cX8_text 143 = .ok (.iinc 3 1, 3) := by decide +kernel
theorem dX8_text_146 : decode cX8_text 146 = .ok (.goto (-31), 3) := by decide +kernel
theorem dX8_text_149 : decode cX8_text 149 = .ok (.aload_n 0, 1) := by decide +kernel
theorem dX8_text_150 : decode cX8_text 150 = .ok (.getfield 9, 3) := by decide +kernel
theorem dX8_text_153 : decode cX8_text 153 = .ok (.iconst 5, 1) := by decide +kernel
theorem dX8_text_154 : decode cX8_text 154 = .ok (.dup2, 1) := by decide +kernel
theorem dX8_text_155 : decode cX8_text 155 = .ok (.iaload, 1) := by decide +kernel
theorem dX8_text_156 : decode cX8_text 156 = .ok (.iconst 1, 1) := by decide +kernel
theorem dX8_text_157 : decode cX8_text 157 = .ok (.iadd, 1) := by decide +kernel
theorem dX8_text_158 : decode cX8_text 158 = .ok (.iastore, 1) := by decide +kernel
theorem dX8_text_159 : decode cX8_text 159 = .ok (.iload_n 2, 1) := by decide +kernel
theorem dX8_text_160 : decode cX8_text 160 = .ok (.ireturn, 1) := by decide +kernel
theorem dX8_textTold_0 : decode cX8_textTold 0 = .ok (.iload_n 1, 1) := by decide +kernel
theorem dX8_textTold_1 : decode cX8_textTold 1 = .ok (.iconst 0, 1) := by decide +kernel
theorem dX8_textTold_2 : decode cX8_textTold 2 = .ok (.aload_n 0, 1) := by decide +kernel
theorem dX8_textTold_3 : decode cX8_textTold 3 = .ok (.getfield 9, 3) := by decide +kernel
theorem dX8_textTold_6 : decode cX8_textTold 6 = .ok (.iconst 5, 1) := by decide +kernel
theorem dX8_textTold_7 : decode cX8_textTold 7 = .ok (.iaload, 1) := by decide +kernel
theorem dX8_textTold_8 : decode cX8_textTold 8 = .ok (.iconst 1, 1) := by decide +kernel
theorem dX8_textTold_9 : decode cX8_textTold 9 = .ok (.isub, 1) := by decide +kernel
theorem dX8_textTold_10 : decode cX8_textTold 10 = .ok (.invokestatic 78, 3) := by decide +kernel
theorem dX8_textTold_13 : decode cX8_textTold 13 = .ok (.ifCond .eq 12, 3) := by decide +kernel
theorem dX8_textTold_16 : decode cX8_textTold 16 = .ok (.iload_n 2, 1) := by decide +kernel
theorem dX8_textTold_17 : decode cX8_textTold 17 = .ok (.iconst 0, 1) := by decide +kernel
theorem dX8_textTold_18 : decode cX8_textTold 18 = .ok (.iconst 1, 1) := by decide +kernel
theorem dX8_textTold_19 : decode cX8_textTold 19 = .ok (.invokestatic 78, 3) := by decide +kernel
theorem dX8_textTold_22 : decode cX8_textTold 22 = .ok (.ifCond .ne 6, 3) := by decide +kernel
theorem dX8_textTold_25 : decode cX8_textTold 25 = .ok (.ldc 90, 2) := by decide +kernel
theorem dX8_textTold_27 : decode cX8_textTold 27 = .ok (.ireturn, 1) := by decide +kernel
theorem dX8_textTold_28 : decode cX8_textTold 28 = .ok (.iload_n 2, 1) := by decide +kernel
theorem dX8_textTold_29 : decode cX8_textTold 29 = .ok (.ifCond .ne 21, 3) := by decide +kernel
theorem dX8_textTold_32 : decode cX8_textTold 32 = .ok (.aload_n 0, 1) := by decide +kernel
theorem dX8_textTold_33 : decode cX8_textTold 33 = .ok (.getfield 9, 3) := by decide +kernel
theorem dX8_textTold_36 : decode cX8_textTold 36 = .ok (.bipush 96, 2) := by decide +kernel
theorem dX8_textTold_38 : decode cX8_textTold 38 = .ok (.iconst 2, 1) := by decide +kernel
theorem dX8_textTold_39 : decode cX8_textTold 39 = .ok (.iload_n 1, 1) := by decide +kernel
theorem dX8_textTold_40 : decode cX8_textTold 40 = .ok (.imul, 1) := by decide +kernel
theorem dX8_textTold_41 : decode cX8_textTold 41 = .ok (.iadd, 1) := by decide +kernel
theorem dX8_textTold_42 : decode cX8_textTold 42 = .ok (.iaload, 1) := by decide +kernel
theorem dX8_textTold_43 : decode cX8_textTold 43 = .ok (.sipush 1000, 3) := by decide +kernel
theorem dX8_textTold_46 : decode cX8_textTold 46 = .ok (.idiv, 1) := by decide +kernel
theorem dX8_textTold_47 : decode cX8_textTold 47 = .ok (.goto 16, 3) := by decide +kernel
theorem dX8_textTold_50 : decode cX8_textTold 50 = .ok (.aload_n 0, 1) := by decide +kernel
theorem dX8_textTold_51 : decode cX8_textTold 51 = .ok (.getfield 9, 3) := by decide +kernel
theorem dX8_textTold_54 : decode cX8_textTold 54 = .ok (.bipush 96, 2) := by decide +kernel
theorem dX8_textTold_56 : decode cX8_textTold 56 = .ok (.iconst 2, 1) := by decide +kernel
theorem dX8_textTold_57 : decode cX8_textTold 57 = .ok (.iload_n 1, 1) := by decide +kernel
theorem dX8_textTold_58 : decode cX8_textTold 58 = .ok (.imul, 1) := by decide +kernel
theorem dX8_textTold_59 : decode cX8_textTold 59 = .ok (.iadd, 1) := by decide +kernel
theorem dX8_textTold_60 : decode cX8_textTold 60 = .ok (.iconst 1, 1) := by decide +kernel
theorem dX8_textTold_61 : decode cX8_textTold 61 = .ok (.iadd, 1) := by decide +kernel
theorem dX8_textTold_62 : decode cX8_textTold 62 = .ok (.iaload, 1) := by decide +kernel
theorem dX8_textTold_63 : decode cX8_textTold 63 = .ok (.ireturn, 1) := by decide +kernel
theorem dX8_counts_0 : decode cX8_counts 0 = .ok (.aload_n 0, 1) := by decide +kernel
theorem dX8_counts_1 : decode cX8_counts 1 = .ok (.getfield 9, 3) := by decide +kernel
theorem dX8_counts_4 : decode cX8_counts 4 = .ok (.iconst 5, 1) := by decide +kernel
theorem dX8_counts_5 : decode cX8_counts 5 = .ok (.iaload, 1) := by decide +kernel
theorem dX8_counts_6 : decode cX8_counts 6 = .ok (.iconst 1, 1) := by decide +kernel
theorem dX8_counts_7 : decode cX8_counts 7 = .ok (.isub, 1) := by decide +kernel
theorem dX8_counts_8 : decode cX8_counts 8 = .ok (.istore_n 2, 1) := by decide +kernel
theorem dX8_counts_9 : decode cX8_counts 9 = .ok (.iload_n 2, 1) := by decide +kernel
theorem dX8_counts_10 : decode cX8_counts 10 = .ok (.ifCond .lt 30, 3) := by decide +kernel
theorem dX8_counts_13 : decode cX8_counts 13 = .ok (.aload_n 0, 1) := by decide +kernel
theorem dX8_counts_14 : decode cX8_counts 14 = .ok (.getfield 9, 3) := by decide +kernel
theorem dX8_counts_17 : decode cX8_counts 17 = .ok (.bipush 96, 2) := by decide +kernel
theorem dX8_counts_19 : decode cX8_counts 19 = .ok (.iconst 2, 1) := by decide +kernel
theorem dX8_counts_20 : decode cX8_counts 20 = .ok (.iload_n 2, 1) := by decide +kernel
theorem dX8_counts_21 : decode cX8_counts 21 = .ok (.imul, 1) := by decide +kernel
theorem dX8_counts_22 : decode cX8_counts 22 = .ok (.iadd, 1) := by decide +kernel
theorem dX8_counts_23 : decode cX8_counts 23 = .ok (.iaload, 1) := by decide +kernel
theorem dX8_counts_24 : decode cX8_counts 24 = .ok (.sipush 1000, 3) := by decide +kernel
theorem dX8_counts_27 : decode cX8_counts 27 = .ok (.idiv, 1) := by decide +kernel
theorem dX8_counts_28 : decode cX8_counts 28 = .ok (.iload_n 1, 1) := by decide +kernel
theorem dX8_counts_29 : decode cX8_counts 29 = .ok (.if_icmp .ne 5, 3) := by decide +kernel
theorem dX8_counts_32 : decode cX8_counts 32 = .ok (.iload_n 2, 1) := by decide +kernel
theorem dX8_counts_33 : decode cX8_counts 33 = .ok (.ireturn, 1) := by decide +kernel
theorem dX8_counts_34 : decode cX8_counts 34 = .ok (.iinc 2 (-1), 3) := by decide +kernel
theorem dX8_counts_37 : decode cX8_counts 37 = .ok (.goto (-28), 3) := by decide +kernel
theorem dX8_counts_40 : decode cX8_counts 40 = .ok (.iconst (-1), 1) := by decide +kernel
theorem dX8_counts_41 : decode cX8_counts 41 = .ok (.ireturn, 1) := by decide +kernel
theorem dX8_why_0 : decode cX8_why 0 = .ok (.iload_n 1, 1) := by decide +kernel
theorem dX8_why_1 : decode cX8_why 1 = .ok (.iconst 0, 1) := by decide +kernel
theorem dX8_why_2 : decode cX8_why 2 = .ok (.iconst 2, 1) := by decide +kernel
theorem dX8_why_3 : decode cX8_why 3 = .ok (.invokestatic 78, 3) := by decide +kernel
theorem dX8_why_6 : decode cX8_why 6 = .ok (.ifCond .ne 6, 3) := by decide +kernel
theorem dX8_why_9 : decode cX8_why 9 = .ok (.ldc 90, 2) := by decide +kernel
theorem dX8_why_11 : decode cX8_why 11 = .ok (.ireturn, 1) := by decide +kernel
theorem dX8_why_12 : decode cX8_why 12 = .ok (.aload_n 0, 1) := by decide +kernel
theorem dX8_why_13 : decode cX8_why 13 = .ok (.iload_n 1, 1) := by decide +kernel
theorem dX8_why_14 : decode cX8_why 14 = .ok (.invokevirtual 108, 3) := by decide +kernel
theorem dX8_why_17 : decode cX8_why 17 = .ok (.istore_n 2, 1) := by decide +kernel
theorem dX8_why_18 : decode cX8_why 18 = .ok (.iload_n 2, 1) := by decide +kernel
theorem dX8_why_19 : decode cX8_why 19 = .ok (.ifCond .ge 8, 3) := by decide +kernel
theorem dX8_why_22 : decode cX8_why 22 = .ok (.ldc 167, 2) := by decide +kernel
theorem dX8_why_24 : decode cX8_why 24 = .ok (.goto 4, 3) := by decide +kernel
theorem dX8_why_27 : decode cX8_why 27 = .ok (.iload_n 2, 1) := by decide +kernel
theorem dX8_why_28 : decode cX8_why 28 = .ok (.ireturn, 1) := by decide +kernel
theorem dX8_two_0 : decode cX8_two 0 = .ok (.iload_n 0, 1) := by decide +kernel
theorem dX8_two_1 : decode cX8_two 1 = .ok (.tableswitch 120 (-8) (-1) #[116, 112, 108, 97, 86, 75, 61, 47], 47) := by decide +kernel
theorem dX8_two_48 : decode cX8_two 48 = .ok (.iload_n 1, 1) := by decide +kernel
theorem dX8_two_49 : decode cX8_two 49 = .ok (.ifCond .ne 7, 3) := by decide +kernel
theorem dX8_two_52 : decode cX8_two 52 = .ok (.iload_n 2, 1) := by decide +kernel
theorem dX8_two_53 : decode cX8_two 53 = .ok (.ifCond .eq 7, 3) := by decide +kernel
theorem dX8_two_56 : decode cX8_two 56 = .ok (.iconst 1, 1) := by decide +kernel
theorem dX8_two_57 : decode cX8_two 57 = .ok (.goto 4, 3) := by decide +kernel
theorem dX8_two_60 : decode cX8_two 60 = .ok (.iconst 0, 1) := by decide +kernel
theorem dX8_two_61 : decode cX8_two 61 = .ok (.ireturn, 1) := by decide +kernel
theorem dX8_two_62 : decode cX8_two 62 = .ok (.iload_n 1, 1) := by decide +kernel
theorem dX8_two_63 : decode cX8_two 63 = .ok (.ifCond .eq 11, 3) := by decide +kernel
theorem dX8_two_66 : decode cX8_two 66 = .ok (.iload_n 2, 1) := by decide +kernel
theorem dX8_two_67 : decode cX8_two 67 = .ok (.ifCond .eq 7, 3) := by decide +kernel
theorem dX8_two_70 : decode cX8_two 70 = .ok (.iconst 1, 1) := by decide +kernel
theorem dX8_two_71 : decode cX8_two 71 = .ok (.goto 4, 3) := by decide +kernel
theorem dX8_two_74 : decode cX8_two 74 = .ok (.iconst 0, 1) := by decide +kernel
theorem dX8_two_75 : decode cX8_two 75 = .ok (.ireturn, 1) := by decide +kernel
theorem dX8_two_76 : decode cX8_two 76 = .ok (.iload_n 1, 1) := by decide +kernel
theorem dX8_two_77 : decode cX8_two 77 = .ok (.iload_n 2, 1) := by decide +kernel
theorem dX8_two_78 : decode cX8_two 78 = .ok (.if_icmp .ge 7, 3) := by decide +kernel
theorem dX8_two_81 : decode cX8_two 81 = .ok (.iconst 1, 1) := by decide +kernel
theorem dX8_two_82 : decode cX8_two 82 = .ok (.goto 4, 3) := by decide +kernel
theorem dX8_two_85 : decode cX8_two 85 = .ok (.iconst 0, 1) := by decide +kernel
theorem dX8_two_86 : decode cX8_two 86 = .ok (.ireturn, 1) := by decide +kernel
theorem dX8_two_87 : decode cX8_two 87 = .ok (.iload_n 1, 1) := by decide +kernel
theorem dX8_two_88 : decode cX8_two 88 = .ok (.iload_n 2, 1) := by decide +kernel
theorem dX8_two_89 : decode cX8_two 89 = .ok (.if_icmp .ne 7, 3) := by decide +kernel
theorem dX8_two_92 : decode cX8_two 92 = .ok (.iconst 1, 1) := by decide +kernel
theorem dX8_two_93 : decode cX8_two 93 = .ok (.goto 4, 3) := by decide +kernel
theorem dX8_two_96 : decode cX8_two 96 = .ok (.iconst 0, 1) := by decide +kernel
theorem dX8_two_97 : decode cX8_two 97 = .ok (.ireturn, 1) := by decide +kernel
theorem dX8_two_98 : decode cX8_two 98 = .ok (.iload_n 1, 1) := by decide +kernel
theorem dX8_two_99 : decode cX8_two 99 = .ok (.iload_n 2, 1) := by decide +kernel
theorem dX8_two_100 : decode cX8_two 100 = .ok (.if_icmp .le 7, 3) := by decide +kernel
theorem dX8_two_103 : decode cX8_two 103 = .ok (.iconst 1, 1) := by decide +kernel
theorem dX8_two_104 : decode cX8_two 104 = .ok (.goto 4, 3) := by decide +kernel
theorem dX8_two_107 : decode cX8_two 107 = .ok (.iconst 0, 1) := by decide +kernel
theorem dX8_two_108 : decode cX8_two 108 = .ok (.ireturn, 1) := by decide +kernel
theorem dX8_two_109 : decode cX8_two 109 = .ok (.iload_n 1, 1) := by decide +kernel
theorem dX8_two_110 : decode cX8_two 110 = .ok (.iload_n 2, 1) := by decide +kernel
theorem dX8_two_111 : decode cX8_two 111 = .ok (.iadd, 1) := by decide +kernel
theorem dX8_two_112 : decode cX8_two 112 = .ok (.ireturn, 1) := by decide +kernel
theorem dX8_two_113 : decode cX8_two 113 = .ok (.iload_n 1, 1) := by decide +kernel
theorem dX8_two_114 : decode cX8_two 114 = .ok (.iload_n 2, 1) := by decide +kernel
theorem dX8_two_115 : decode cX8_two 115 = .ok (.isub, 1) := by decide +kernel
theorem dX8_two_116 : decode cX8_two 116 = .ok (.ireturn, 1) := by decide +kernel
theorem dX8_two_117 : decode cX8_two 117 = .ok (.iload_n 1, 1) := by decide +kernel
theorem dX8_two_118 : decode cX8_two 118 = .ok (.iload_n 2, 1) := by decide +kernel
theorem dX8_two_119 : decode cX8_two 119 = .ok (.imul, 1) := by decide +kernel
theorem dX8_two_120 : decode cX8_two 120 = .ok (.ireturn, 1) := by decide +kernel
theorem dX8_two_121 : decode cX8_two 121 = .ok (.iload_n 2, 1) := by decide +kernel
theorem dX8_two_122 : decode cX8_two 122 = .ok (.ifCond .ne 7, 3) := by decide +kernel
theorem dX8_two_125 : decode cX8_two 125 = .ok (.iconst 0, 1) := by decide +kernel
theorem dX8_two_126 : decode cX8_two 126 = .ok (.goto 6, 3) := by decide +kernel
theorem dX8_two_129 : decode cX8_two 129 = .ok (.iload_n 1, 1) := by decide +kernel
theorem dX8_two_130 : decode cX8_two 130 = .ok (.iload_n 2, 1) := by decide +kernel
theorem dX8_two_131 : decode cX8_two 131 = .ok (.idiv, 1) := by decide +kernel
theorem dX8_two_132 : decode cX8_two 132 = .ok (.ireturn, 1) := by decide +kernel
theorem dX8_worksOut_0 : decode cX8_worksOut 0 = .ok (.iconst 0, 1) := by decide +kernel
theorem dX8_worksOut_1 : decode cX8_worksOut 1 = .ok (.istore_n 2, 1) := by decide +kernel
theorem dX8_worksOut_2 : decode cX8_worksOut 2 = .ok (.aload_n 0, 1) := by decide +kernel
theorem dX8_worksOut_3 : decode cX8_worksOut 3 = .ok (.getfield 9, 3) := by decide +kernel
theorem dX8_worksOut_6 : decode cX8_worksOut 6 = .ok (.bipush 96, 2) := by decide +kernel
theorem dX8_worksOut_8 : decode cX8_worksOut 8 = .ok (.iconst 2, 1) := by decide +kernel
theorem dX8_worksOut_9 : decode cX8_worksOut 9 = .ok (.iload_n 1, 1) := by decide +kernel
theorem dX8_worksOut_10 : decode cX8_worksOut 10 = .ok (.imul, 1) := by decide +kernel
theorem dX8_worksOut_11 : decode cX8_worksOut 11 = .ok (.iadd, 1) := by decide +kernel
theorem dX8_worksOut_12 : decode cX8_worksOut 12 = .ok (.iaload, 1) := by decide +kernel
theorem dX8_worksOut_13 : decode cX8_worksOut 13 = .ok (.sipush 1000, 3) := by decide +kernel
theorem dX8_worksOut_16 : decode cX8_worksOut 16 = .ok (.irem, 1) := by decide +kernel
theorem dX8_worksOut_17 : decode cX8_worksOut 17 = .ok (.istore_n 3, 1) := by decide +kernel
theorem dX8_worksOut_18 : decode cX8_worksOut 18 = .ok (.iconst 0, 1) := by decide +kernel
theorem dX8_worksOut_19 : decode cX8_worksOut 19 = .ok (.istore 4, 2) := by decide +kernel
theorem dX8_worksOut_21 : decode cX8_worksOut 21 = .ok (.iload 4, 2) := by decide +kernel
theorem dX8_worksOut_23 : decode cX8_worksOut 23 = .ok (.iload_n 3, 1) := by decide +kernel
theorem dX8_worksOut_24 : decode cX8_worksOut 24 = .ok (.if_icmp .ge 131, 3) := by decide +kernel
theorem dX8_worksOut_27 : decode cX8_worksOut 27 = .ok (.aload_n 0, 1) := by decide +kernel
theorem dX8_worksOut_28 : decode cX8_worksOut 28 = .ok (.getfield 9, 3) := by decide +kernel
theorem dX8_worksOut_31 : decode cX8_worksOut 31 = .ok (.bipush 124, 2) := by decide +kernel
theorem dX8_worksOut_33 : decode cX8_worksOut 33 = .ok (.bipush 96, 2) := by decide +kernel
theorem dX8_worksOut_35 : decode cX8_worksOut 35 = .ok (.iload_n 1, 1) := by decide +kernel
theorem dX8_worksOut_36 : decode cX8_worksOut 36 = .ok (.imul, 1) := by decide +kernel
theorem dX8_worksOut_37 : decode cX8_worksOut 37 = .ok (.iadd, 1) := by decide +kernel
theorem dX8_worksOut_38 : decode cX8_worksOut 38 = .ok (.iload 4, 2) := by decide +kernel
theorem dX8_worksOut_40 : decode cX8_worksOut 40 = .ok (.iadd, 1) := by decide +kernel
theorem dX8_worksOut_41 : decode cX8_worksOut 41 = .ok (.iaload, 1) := by decide +kernel
theorem dX8_worksOut_42 : decode cX8_worksOut 42 = .ok (.istore 5, 2) := by decide +kernel
theorem dX8_worksOut_44 : decode cX8_worksOut 44 = .ok (.iload 5, 2) := by decide +kernel
theorem dX8_worksOut_46 : decode cX8_worksOut 46 = .ok (.ifCond .lt 39, 3) := by decide +kernel
theorem dX8_worksOut_49 : decode cX8_worksOut 49 = .ok (.aload_n 0, 1) := by decide +kernel
theorem dX8_worksOut_50 : decode cX8_worksOut 50 = .ok (.getfield 45, 3) := by decide +kernel
theorem dX8_worksOut_53 : decode cX8_worksOut 53 = .ok (.iload_n 2, 1) := by decide +kernel
theorem dX8_worksOut_54 : decode cX8_worksOut 54 = .ok (.iload 5, 2) := by decide +kernel
theorem dX8_worksOut_56 : decode cX8_worksOut 56 = .ok (.sipush 10000, 3) := by decide +kernel
theorem dX8_worksOut_59 : decode cX8_worksOut 59 = .ok (.if_icmp .ge 8, 3) := by decide +kernel
theorem dX8_worksOut_62 : decode cX8_worksOut 62 = .ok (.iload 5, 2) := by decide +kernel
theorem dX8_worksOut_64 : decode cX8_worksOut 64 = .ok (.goto 14, 3) := by decide +kernel
theorem dX8_worksOut_67 : decode cX8_worksOut 67 = .ok (.aload_n 0, 1) := by decide +kernel
theorem dX8_worksOut_68 : decode cX8_worksOut 68 = .ok (.getfield 48, 3) := by decide +kernel
theorem dX8_worksOut_71 : decode cX8_worksOut 71 = .ok (.iload 5, 2) := by decide +kernel
theorem dX8_worksOut_73 : decode cX8_worksOut 73 = .ok (.sipush 10000, 3) := by decide +kernel
theorem dX8_worksOut_76 : decode cX8_worksOut 76 = .ok (.isub, 1) := by decide +kernel
theorem dX8_worksOut_77 : decode cX8_worksOut 77 = .ok (.iaload, 1) := by decide +kernel
theorem dX8_worksOut_78 : decode cX8_worksOut 78 = .ok (.iastore, 1) := by decide +kernel
theorem dX8_worksOut_79 : decode cX8_worksOut 79 = .ok (.iinc 2 1, 3) := by decide +kernel
theorem dX8_worksOut_82 : decode cX8_worksOut 82 = .ok (.goto 67, 3) := by decide +kernel
theorem dX8_worksOut_85 : decode cX8_worksOut 85 = .ok (.iload 5, 2) := by decide +kernel
theorem dX8_worksOut_87 : decode cX8_worksOut 87 = .ok (.bipush (-10), 2) := by decide +kernel
theorem dX8_worksOut_89 : decode cX8_worksOut 89 = .ok (.if_icmp .ne 30, 3) := by decide +kernel
theorem dX8_worksOut_92 : decode cX8_worksOut 92 = .ok (.aload_n 0, 1) := by decide +kernel
theorem dX8_worksOut_93 : decode cX8_worksOut 93 = .ok (.getfield 45, 3) := by decide +kernel
theorem dX8_worksOut_96 : decode cX8_worksOut 96 = .ok (.iload_n 2, 1) := by decide +kernel
theorem dX8_worksOut_97 : decode cX8_worksOut 97 = .ok (.iconst 1, 1) := by decide +kernel
theorem dX8_worksOut_98 : decode cX8_worksOut 98 = .ok (.isub, 1) := by decide +kernel
theorem dX8_worksOut_99 : decode cX8_worksOut 99 = .ok (.aload_n 0, 1) := by decide +kernel
theorem dX8_worksOut_100 : decode cX8_worksOut 100 = .ok (.getfield 45, 3) := by decide +kernel
theorem dX8_worksOut_103 : decode cX8_worksOut 103 = .ok (.iload_n 2, 1) := by decide +kernel
theorem dX8_worksOut_104 : decode cX8_worksOut 104 = .ok (.iconst 1, 1) := by decide +kernel
theorem dX8_worksOut_105 : decode cX8_worksOut 105 = .ok (.isub, 1) := by decide +kernel
theorem dX8_worksOut_106 : decode cX8_worksOut 106 = .ok (.iaload, 1) := by decide +kernel
theorem dX8_worksOut_107 : decode cX8_worksOut 107 = .ok (.ifCond .ne 7, 3) := by decide +kernel
theorem dX8_worksOut_110 : decode cX8_worksOut 110 = .ok (.iconst 1, 1) := by decide +kernel
theorem dX8_worksOut_111 : decode cX8_worksOut 111 = .ok (.goto 4, 3) := by decide +kernel
theorem dX8_worksOut_114 : decode cX8_worksOut 114 = .ok (.iconst 0, 1) := by decide +kernel
theorem dX8_worksOut_115 : decode cX8_worksOut 115 = .ok (.iastore, 1) := by decide +kernel
theorem dX8_worksOut_116 : decode cX8_worksOut 116 = .ok (.goto 33, 3) := by decide +kernel
theorem dX8_worksOut_119 : decode cX8_worksOut 119 = .ok (.iinc 2 (-1), 3) := by decide +kernel
theorem dX8_worksOut_122 : decode cX8_worksOut 122 = .ok (.aload_n 0, 1) := by decide +kernel
theorem dX8_worksOut_123 : decode cX8_worksOut 123 = .ok (.getfield 45, 3) := by decide +kernel
theorem dX8_worksOut_126 : decode cX8_worksOut 126 = .ok (.iload_n 2, 1) := by decide +kernel
theorem dX8_worksOut_127 : decode cX8_worksOut 127 = .ok (.iconst 1, 1) := by decide +kernel
theorem dX8_worksOut_128 : decode cX8_worksOut 128 = .ok (.isub, 1) := by decide +kernel
theorem dX8_worksOut_129 : decode cX8_worksOut 129 = .ok (.iload 5, 2) := by decide +kernel
theorem dX8_worksOut_131 : decode cX8_worksOut 131 = .ok (.aload_n 0, 1) := by decide +kernel
theorem dX8_worksOut_132 : decode cX8_worksOut 132 = .ok (.getfield 45, 3) := by decide +kernel
theorem dX8_worksOut_135 : decode cX8_worksOut 135 = .ok (.iload_n 2, 1) := by decide +kernel
theorem dX8_worksOut_136 : decode cX8_worksOut 136 = .ok (.iconst 1, 1) := by decide +kernel
theorem dX8_worksOut_137 : decode cX8_worksOut 137 = .ok (.isub, 1) := by decide +kernel
theorem dX8_worksOut_138 : decode cX8_worksOut 138 = .ok (.iaload, 1) := by decide +kernel
theorem dX8_worksOut_139 : decode cX8_worksOut 139 = .ok (.aload_n 0, 1) := by decide +kernel
theorem dX8_worksOut_140 : decode cX8_worksOut 140 = .ok (.getfield 45, 3) := by decide +kernel
theorem dX8_worksOut_143 : decode cX8_worksOut 143 = .ok (.iload_n 2, 1) := by decide +kernel
theorem dX8_worksOut_144 : decode cX8_worksOut 144 = .ok (.iaload, 1) := by decide +kernel
theorem dX8_worksOut_145 : decode cX8_worksOut 145 = .ok (.invokestatic 252, 3) := by decide +kernel
theorem dX8_worksOut_148 : decode cX8_worksOut 148 = .ok (.iastore, 1) := by decide +kernel
theorem dX8_worksOut_149 : decode cX8_worksOut 149 = .ok (.iinc 4 1, 3) := by decide +kernel
theorem dX8_worksOut_152 : decode cX8_worksOut 152 = .ok (.goto (-131), 3) := by decide +kernel
theorem dX8_worksOut_155 : decode cX8_worksOut 155 = .ok (.aload_n 0, 1) := by decide +kernel
theorem dX8_worksOut_156 : decode cX8_worksOut 156 = .ok (.getfield 45, 3) := by decide +kernel
theorem dX8_worksOut_159 : decode cX8_worksOut 159 = .ok (.iconst 0, 1) := by decide +kernel
theorem dX8_worksOut_160 : decode cX8_worksOut 160 = .ok (.iaload, 1) := by decide +kernel
theorem dX8_worksOut_161 : decode cX8_worksOut 161 = .ok (.ireturn, 1) := by decide +kernel
theorem dX8_isSheet_0 : decode cX8_isSheet 0 = .ok (.iload_n 0, 1) := by decide +kernel
theorem dX8_isSheet_1 : decode cX8_isSheet 1 = .ok (.iconst 0, 1) := by decide +kernel
theorem dX8_isSheet_2 : decode cX8_isSheet 2 = .ok (.iconst 3, 1) := by decide +kernel
theorem dX8_isSheet_3 : decode cX8_isSheet 3 = .ok (.invokestatic 78, 3) := by decide +kernel
theorem dX8_isSheet_6 : decode cX8_isSheet 6 = .ok (.ireturn, 1) := by decide +kernel
theorem dX8_isSlot_0 : decode cX8_isSlot 0 = .ok (.iload_n 0, 1) := by decide +kernel
theorem dX8_isSlot_1 : decode cX8_isSlot 1 = .ok (.iconst 0, 1) := by decide +kernel
theorem dX8_isSlot_2 : decode cX8_isSlot 2 = .ok (.iconst 4, 1) := by decide +kernel
theorem dX8_isSlot_3 : decode cX8_isSlot 3 = .ok (.invokestatic 78, 3) := by decide +kernel
theorem dX8_isSlot_6 : decode cX8_isSlot 6 = .ok (.ireturn, 1) := by decide +kernel
theorem dX8_sheet_0 : decode cX8_sheet 0 = .ok (.iload_n 1, 1) := by decide +kernel
theorem dX8_sheet_1 : decode cX8_sheet 1 = .ok (.invokestatic 178, 3) := by decide +kernel
theorem dX8_sheet_4 : decode cX8_sheet 4 = .ok (.ifCond .eq 22, 3) := by decide +kernel
theorem dX8_sheet_7 : decode cX8_sheet 7 = .ok (.iload_n 2, 1) := by decide +kernel
theorem dX8_sheet_8 : decode cX8_sheet 8 = .ok (.iconst (-1), 1) := by decide +kernel
theorem dX8_sheet_9 : decode cX8_sheet 9 = .ok (.iconst 1, 1) := by decide +kernel
theorem dX8_sheet_10 : decode cX8_sheet 10 = .ok (.invokestatic 78, 3) := by decide +kernel
theorem dX8_sheet_13 : decode cX8_sheet 13 = .ok (.ifCond .eq 13, 3) := by decide +kernel
theorem dX8_sheet_16 : decode cX8_sheet 16 = .ok (.iload_n 2, 1) := by decide +kernel
theorem dX8_sheet_17 : decode cX8_sheet 17 = .ok (.ifCond .lt 12, 3) := by decide +kernel
theorem dX8_sheet_20 : decode cX8_sheet 20 = .ok (.iload_n 3, 1) := by decide +kernel
theorem dX8_sheet_21 : decode cX8_sheet 21 = .ok (.bipush 24, 2) := by decide +kernel
theorem dX8_sheet_23 : decode cX8_sheet 23 = .ok (.if_icmp .le 6, 3) := by decide +kernel
theorem dX8_sheet_26 : decode cX8_sheet 26 = .ok (.ldc 90, 2) := by decide +kernel
theorem dX8_sheet_28 : decode cX8_sheet 28 = .ok (.ireturn, 1) := by decide +kernel
theorem dX8_sheet_29 : decode cX8_sheet 29 = .ok (.iload_n 2, 1) := by decide +kernel
theorem dX8_sheet_30 : decode cX8_sheet 30 = .ok (.ifCond .lt 10, 3) := by decide +kernel
theorem dX8_sheet_33 : decode cX8_sheet 33 = .ok (.iload_n 3, 1) := by decide +kernel
theorem dX8_sheet_34 : decode cX8_sheet 34 = .ok (.ifCond .ge 6, 3) := by decide +kernel
theorem dX8_sheet_37 : decode cX8_sheet 37 = .ok (.ldc 255, 2) := by decide +kernel
theorem dX8_sheet_39 : decode cX8_sheet 39 = .ok (.ireturn, 1) := by decide +kernel
theorem dX8_sheet_40 : decode cX8_sheet 40 = .ok (.aload_n 0, 1) := by decide +kernel
theorem dX8_sheet_41 : decode cX8_sheet 41 = .ok (.getfield 51, 3) := by decide +kernel
theorem dX8_sheet_44 : decode cX8_sheet 44 = .ok (.iload_n 1, 1) := by decide +kernel
theorem dX8_sheet_45 : decode cX8_sheet 45 = .ok (.iload_n 2, 1) := by decide +kernel
theorem dX8_sheet_46 : decode cX8_sheet 46 = .ok (.iastore, 1) := by decide +kernel
theorem dX8_sheet_47 : decode cX8_sheet 47 = .ok (.aload_n 0, 1) := by decide +kernel
theorem dX8_sheet_48 : decode cX8_sheet 48 = .ok (.getfield 54, 3) := by decide +kernel
theorem dX8_sheet_51 : decode cX8_sheet 51 = .ok (.iload_n 1, 1) := by decide +kernel
theorem dX8_sheet_52 : decode cX8_sheet 52 = .ok (.iload_n 2, 1) := by decide +kernel
theorem dX8_sheet_53 : decode cX8_sheet 53 = .ok (.ifCond .ge 7, 3) := by decide +kernel
theorem dX8_sheet_56 : decode cX8_sheet 56 = .ok (.iconst 0, 1) := by decide +kernel
theorem dX8_sheet_57 : decode cX8_sheet 57 = .ok (.goto 4, 3) := by decide +kernel
theorem dX8_sheet_60 : decode cX8_sheet 60 = .ok (.iload_n 3, 1) := by decide +kernel
theorem dX8_sheet_61 : decode cX8_sheet 61 = .ok (.iastore, 1) := by decide +kernel
theorem dX8_sheet_62 : decode cX8_sheet 62 = .ok (.iconst 0, 1) := by decide +kernel
theorem dX8_sheet_63 : decode cX8_sheet 63 = .ok (.istore 4, 2) := by decide +kernel
theorem dX8_sheet_65 : decode cX8_sheet 65 = .ok (.iload 4, 2) := by decide +kernel
theorem dX8_sheet_67 : decode cX8_sheet 67 = .ok (.bipush 24, 2) := by decide +kernel
theorem dX8_sheet_69 : decode cX8_sheet 69 = .ok (.if_icmp .ge 22, 3) := by decide +kernel
theorem dX8_sheet_72 : decode cX8_sheet 72 = .ok (.aload_n 0, 1) := by decide +kernel
theorem dX8_sheet_73 : decode cX8_sheet 73 = .ok (.getfield 57, 3) := by decide +kernel
theorem dX8_sheet_76 : decode cX8_sheet 76 = .ok (.bipush 24, 2) := by decide +kernel
theorem dX8_sheet_78 : decode cX8_sheet 78 = .ok (.iload_n 1, 1) := by decide +kernel
theorem dX8_sheet_79 : decode cX8_sheet 79 = .ok (.imul, 1) := by decide +kernel
theorem dX8_sheet_80 : decode cX8_sheet 80 = .ok (.iload 4, 2) := by decide +kernel
theorem dX8_sheet_82 : decode cX8_sheet 82 = .ok (.iadd, 1) := by decide +kernel
theorem dX8_sheet_83 : decode cX8_sheet 83 = .ok (.iconst 0, 1) := by decide +kernel
theorem dX8_sheet_84 : decode cX8_sheet 84 = .ok (.iastore, 1) := by decide +kernel
theorem dX8_sheet_85 : decode cX8_sheet 85 = .ok (.iinc 4 1, 3) := by decide +kernel
theorem dX8_sheet_88 : decode cX8_sheet 88 = .ok (.goto (-23), 3) := by decide +kernel
theorem dX8_sheet_91 : decode cX8_sheet 91 = .ok (.aload_n 0, 1) := by decide +kernel
theorem dX8_sheet_92 : decode cX8_sheet 92 = .ok (.getfield 54, 3) := by decide +kernel
theorem dX8_sheet_95 : decode cX8_sheet 95 = .ok (.iload_n 1, 1) := by decide +kernel
theorem dX8_sheet_96 : decode cX8_sheet 96 = .ok (.iaload, 1) := by decide +kernel
theorem dX8_sheet_97 : decode cX8_sheet 97 = .ok (.ireturn, 1) := by decide +kernel
theorem dX8_mark_0 : decode cX8_mark 0 = .ok (.iload_n 1, 1) := by decide +kernel
theorem dX8_mark_1 : decode cX8_mark 1 = .ok (.invokestatic 178, 3) := by decide +kernel
theorem dX8_mark_4 : decode cX8_mark 4 = .ok (.ifCond .ne 6, 3) := by decide +kernel
theorem dX8_mark_7 : decode cX8_mark 7 = .ok (.ldc 90, 2) := by decide +kernel
theorem dX8_mark_9 : decode cX8_mark 9 = .ok (.ireturn, 1) := by decide +kernel
theorem dX8_mark_10 : decode cX8_mark 10 = .ok (.aload_n 0, 1) := by decide +kernel
theorem dX8_mark_11 : decode cX8_mark 11 = .ok (.getfield 51, 3) := by decide +kernel
theorem dX8_mark_14 : decode cX8_mark 14 = .ok (.iload_n 1, 1) := by decide +kernel
theorem dX8_mark_15 : decode cX8_mark 15 = .ok (.iaload, 1) := by decide +kernel
theorem dX8_mark_16 : decode cX8_mark 16 = .ok (.ifCond .ge 6, 3) := by decide +kernel
theorem dX8_mark_19 : decode cX8_mark 19 = .ok (.ldc 181, 2) := by decide +kernel
theorem dX8_mark_21 : decode cX8_mark 21 = .ok (.ireturn, 1) := by decide +kernel
theorem dX8_mark_22 : decode cX8_mark 22 = .ok (.iload_n 2, 1) := by decide +kernel
theorem dX8_mark_23 : decode cX8_mark 23 = .ok (.iconst 0, 1) := by decide +kernel
theorem dX8_mark_24 : decode cX8_mark 24 = .ok (.aload_n 0, 1) := by decide +kernel
theorem dX8_mark_25 : decode cX8_mark 25 = .ok (.getfield 54, 3) := by decide +kernel
theorem dX8_mark_28 : decode cX8_mark 28 = .ok (.iload_n 1, 1) := by decide +kernel
theorem dX8_mark_29 : decode cX8_mark 29 = .ok (.iaload, 1) := by decide +kernel
theorem dX8_mark_30 : decode cX8_mark 30 = .ok (.iconst 1, 1) := by decide +kernel
theorem dX8_mark_31 : decode cX8_mark 31 = .ok (.isub, 1) := by decide +kernel
theorem dX8_mark_32 : decode cX8_mark 32 = .ok (.invokestatic 78, 3) := by decide +kernel
theorem dX8_mark_35 : decode cX8_mark 35 = .ok (.ifCond .ne 7, 3) := by decide +kernel
theorem dX8_mark_38 : decode cX8_mark 38 = .ok (.ldc_w 256, 3) := by decide +kernel
theorem dX8_mark_41 : decode cX8_mark 41 = .ok (.ireturn, 1) := by decide +kernel
theorem dX8_mark_42 : decode cX8_mark 42 = .ok (.aload_n 0, 1) := by decide +kernel
theorem dX8_mark_43 : decode cX8_mark 43 = .ok (.getfield 51, 3) := by decide +kernel
theorem dX8_mark_46 : decode cX8_mark 46 = .ok (.iload_n 1, 1) := by decide +kernel
theorem dX8_mark_47 : decode cX8_mark 47 = .ok (.iaload, 1) := by decide +kernel
theorem dX8_mark_48 : decode cX8_mark 48 = .ok (.ifCond .ne 12, 3) := by decide +kernel
theorem dX8_mark_51 : decode cX8_mark 51 = .ok (.iload_n 3, 1) := by decide +kernel
theorem dX8_mark_52 : decode cX8_mark 52 = .ok (.ldc 167, 2) := by decide +kernel
theorem dX8_mark_54 : decode cX8_mark 54 = .ok (.if_icmp .ne 6, 3) := by decide +kernel
theorem dX8_mark_57 : decode cX8_mark 57 = .ok (.ldc 123, 2) := by decide +kernel
theorem dX8_mark_59 : decode cX8_mark 59 = .ok (.ireturn, 1) := by decide +kernel
theorem dX8_mark_60 : decode cX8_mark 60 = .ok (.aload_n 0, 1) := by decide +kernel
theorem dX8_mark_61 : decode cX8_mark 61 = .ok (.getfield 51, 3) := by decide +kernel
theorem dX8_mark_64 : decode cX8_mark 64 = .ok (.iload_n 1, 1) := by decide +kernel
theorem dX8_mark_65 : decode cX8_mark 65 = .ok (.iaload, 1) := by decide +kernel
theorem dX8_mark_66 : decode cX8_mark 66 = .ok (.iconst 1, 1) := by decide +kernel
theorem dX8_mark_67 : decode cX8_mark 67 = .ok (.if_icmp .ne 25, 3) := by decide +kernel
theorem dX8_mark_70 : decode cX8_mark 70 = .ok (.iload_n 3, 1) := by decide +kernel
theorem dX8_mark_71 : decode cX8_mark 71 = .ok (.ldc 167, 2) := by decide +kernel
theorem dX8_mark_73 : decode cX8_mark 73 = .ok (.if_icmp .eq 19, 3) := by decide +kernel
theorem dX8_mark_76 : decode cX8_mark 76 = .ok (.iload_n 3, 1) := by decide +kernel
theorem dX8_mark_77 : decode cX8_mark 77 = .ok (.ldc_w 257, 3) := by decide +kernel
theorem dX8_mark_80 : decode cX8_mark 80 = .ok (.ldc_w 258, 3) := by decide +kernel
theorem dX8_mark_83 : decode cX8_mark 83 = .ok (.invokestatic 78, 3) := by decide +kernel
theorem dX8_mark_86 : decode cX8_mark 86 = .ok (.ifCond .ne 6, 3) := by decide +kernel
theorem dX8_mark_89 : decode cX8_mark 89 = .ok (.ldc 90, 2) := by decide +kernel
theorem dX8_mark_91 : decode cX8_mark 91 = .ok (.ireturn, 1) := by decide +kernel
theorem dX8_mark_92 : decode cX8_mark 92 = .ok (.aload_n 0, 1) := by decide +kernel
theorem dX8_mark_93 : decode cX8_mark 93 = .ok (.getfield 57, 3) := by decide +kernel
theorem dX8_mark_96 : decode cX8_mark 96 = .ok (.bipush 24, 2) := by decide +kernel
theorem dX8_mark_98 : decode cX8_mark 98 = .ok (.iload_n 1, 1) := by decide +kernel
theorem dX8_mark_99 : decode cX8_mark 99 = .ok (.imul, 1) := by decide +kernel
theorem dX8_mark_100 : decode cX8_mark 100 = .ok (.iload_n 2, 1) := by decide +kernel
theorem dX8_mark_101 : decode cX8_mark 101 = .ok (.iadd, 1) := by decide +kernel
theorem dX8_mark_102 : decode cX8_mark 102 = .ok (.aload_n 0, 1) := by decide +kernel
theorem dX8_mark_103 : decode cX8_mark 103 = .ok (.getfield 51, 3) := by decide +kernel
theorem dX8_mark_106 : decode cX8_mark 106 = .ok (.iload_n 1, 1) := by decide +kernel
theorem dX8_mark_107 : decode cX8_mark 107 = .ok (.iaload, 1) := by decide +kernel
theorem dX8_mark_108 : decode cX8_mark 108 = .ok (.ifCond .ne 8, 3) := by decide +kernel
theorem dX8_mark_111 : decode cX8_mark 111 = .ok (.iload_n 3, 1) := by decide +kernel
theorem dX8_mark_112 : decode cX8_mark 112 = .ok (.i2s, 1) := by decide +kernel
theorem dX8_mark_113 : decode cX8_mark 113 = .ok (.goto 4, 3) := by decide +kernel
theorem dX8_mark_116 : decode cX8_mark 116 = .ok (.iload_n 3, 1) := by decide +kernel
theorem dX8_mark_117 : decode cX8_mark 117 = .ok (.iastore, 1) := by decide +kernel
theorem dX8_mark_118 : decode cX8_mark 118 = .ok (.iconst 1, 1) := by decide +kernel
theorem dX8_mark_119 : decode cX8_mark 119 = .ok (.ireturn, 1) := by decide +kernel
theorem dX8_pour_0 : decode cX8_pour 0 = .ok (.iload_n 1, 1) := by decide +kernel
theorem dX8_pour_1 : decode cX8_pour 1 = .ok (.invokestatic 178, 3) := by decide +kernel
theorem dX8_pour_4 : decode cX8_pour 4 = .ok (.ifCond .ne 6, 3) := by decide +kernel
theorem dX8_pour_7 : decode cX8_pour 7 = .ok (.ldc 90, 2) := by decide +kernel
theorem dX8_pour_9 : decode cX8_pour 9 = .ok (.ireturn, 1) := by decide +kernel
theorem dX8_pour_10 : decode cX8_pour 10 = .ok (.aload_n 0, 1) := by decide +kernel
theorem dX8_pour_11 : decode cX8_pour 11 = .ok (.getfield 51, 3) := by decide +kernel
theorem dX8_pour_14 : decode cX8_pour 14 = .ok (.iload_n 1, 1) := by decide +kernel
theorem dX8_pour_15 : decode cX8_pour 15 = .ok (.iaload, 1) := by decide +kernel
theorem dX8_pour_16 : decode cX8_pour 16 = .ok (.ifCond .ge 6, 3) := by decide +kernel
theorem dX8_pour_19 : decode cX8_pour 19 = .ok (.ldc 181, 2) := by decide +kernel
theorem dX8_pour_21 : decode cX8_pour 21 = .ok (.ireturn, 1) := by decide +kernel
theorem dX8_pour_22 : decode cX8_pour 22 = .ok (.iconst 0, 1) := by decide +kernel
theorem dX8_pour_23 : decode cX8_pour 23 = .ok (.istore_n 2, 1) := by decide +kernel
theorem dX8_pour_24 : decode cX8_pour 24 = .ok (.iconst 0, 1) := by decide +kernel
theorem dX8_pour_25 : decode cX8_pour 25 = .ok (.istore_n 3, 1) := by decide +kernel
theorem dX8_pour_26 : decode cX8_pour 26 = .ok (.iload_n 3, 1) := by decide +kernel
theorem dX8_pour_27 : decode cX8_pour 27 = .ok (.aload_n 0, 1) := by decide +kernel
theorem dX8_pour_28 : decode cX8_pour 28 = .ok (.getfield 54, 3) := by decide +kernel
theorem dX8_pour_31 : decode cX8_pour 31 = .ok (.iload_n 1, 1) := by decide +kernel
theorem dX8_pour_32 : decode cX8_pour 32 = .ok (.iaload, 1) := by decide +kernel
theorem dX8_pour_33 : decode cX8_pour 33 = .ok (.if_icmp .ge 87, 3) := by decide +kernel
theorem dX8_pour_36 : decode cX8_pour 36 = .ok (.iload_n 3, 1) := by decide +kernel
theorem dX8_pour_37 : decode cX8_pour 37 = .ok (.aload_n 0, 1) := by decide +kernel
theorem dX8_pour_38 : decode cX8_pour 38 = .ok (.getfield 9, 3) := by decide +kernel
theorem dX8_pour_41 : decode cX8_pour 41 = .ok (.iconst 1, 1) := by decide +kernel
theorem dX8_pour_42 : decode cX8_pour 42 = .ok (.iaload, 1) := by decide +kernel
theorem dX8_pour_43 : decode cX8_pour 43 = .ok (.if_icmp .ge 77, 3) := by decide +kernel
theorem dX8_pour_46 : decode cX8_pour 46 = .ok (.aload_n 0, 1) := by decide +kernel
theorem dX8_pour_47 : decode cX8_pour 47 = .ok (.getfield 57, 3) := by decide +kernel
theorem dX8_pour_50 : decode cX8_pour 50 = .ok (.bipush 24, 2) := by decide +kernel
theorem dX8_pour_52 : decode cX8_pour 52 = .ok (.iload_n 1, 1) := by decide +kernel
theorem dX8_pour_53 : decode cX8_pour 53 = .ok (.imul, 1) := by decide +kernel
theorem dX8_pour_54 : decode cX8_pour 54 = .ok (.iload_n 3, 1) := by decide +kernel
theorem dX8_pour_55 : decode cX8_pour 55 = .ok (.iadd, 1) := by decide +kernel
theorem dX8_pour_56 : decode cX8_pour 56 = .ok (.iaload, 1) := by decide +kernel
theorem dX8_pour_57 : decode cX8_pour 57 = .ok (.istore 4, 2) := by decide +kernel
theorem dX8_pour_59 : decode cX8_pour 59 = .ok (.iload 4, 2) := by decide +kernel
theorem dX8_pour_61 : decode cX8_pour 61 = .ok (.ldc 167, 2) := by decide +kernel
theorem dX8_pour_63 : decode cX8_pour 63 = .ok (.if_icmp .ne 12, 3) := by decide +kernel
theorem dX8_pour_66 : decode cX8_pour 66 = .ok (.aload_n 0, 1) := by decide +kernel
theorem dX8_pour_67 : decode cX8_pour 67 = .ok (.iload_n 3, 1) := by decide +kernel
theorem dX8_pour_68 : decode cX8_pour 68 = .ok (.iconst 2, 1) := by decide +kernel
theorem dX8_pour_69 : decode cX8_pour 69 = .ok (.invokevirtual 96, 3) := by decide +kernel
theorem dX8_pour_72 : decode cX8_pour 72 = .ok (.goto 12, 3) := by decide +kernel
theorem dX8_pour_75 : decode cX8_pour 75 = .ok (.iload 4, 2) := by decide +kernel
theorem dX8_pour_77 : decode cX8_pour 77 = .ok (.iconst 0, 1) := by decide +kernel
theorem dX8_pour_78 : decode cX8_pour 78 = .ok (.sipush 599, 3) := by decide +kernel
theorem dX8_pour_81 : decode cX8_pour 81 = .ok (.invokestatic 114, 3) := by decide +kernel
theorem dX8_pour_84 : decode cX8_pour 84 = .ok (.istore 5, 2) := by decide +kernel
theorem dX8_pour_86 : decode cX8_pour 86 = .ok (.iload_n 2, 1) := by decide +kernel
theorem dX8_pour_87 : decode cX8_pour 87 = .ok (.aload_n 0, 1) := by decide +kernel
theorem dX8_pour_88 : decode cX8_pour 88 = .ok (.bipush 6, 2) := by decide +kernel
theorem dX8_pour_90 : decode cX8_pour 90 = .ok (.bipush 9, 2) := by decide +kernel
theorem dX8_pour_92 : decode cX8_pour 92 = .ok (.iload_n 3, 1) := by decide +kernel
theorem dX8_pour_93 : decode cX8_pour 93 = .ok (.imul, 1) := by decide +kernel
theorem dX8_pour_94 : decode cX8_pour 94 = .ok (.iadd, 1) := by decide +kernel
theorem dX8_pour_95 : decode cX8_pour 95 = .ok (.iconst 2, 1) := by decide +kernel
theorem dX8_pour_96 : decode cX8_pour 96 = .ok (.iadd, 1) := by decide +kernel
theorem dX8_pour_97 : decode cX8_pour 97 = .ok (.iload 5, 2) := by decide +kernel
theorem dX8_pour_99 : decode cX8_pour 99 = .ok (.invokevirtual 124, 3) := by decide +kernel
theorem dX8_pour_102 : decode cX8_pour 102 = .ok (.iload 5, 2) := by decide +kernel
theorem dX8_pour_104 : decode cX8_pour 104 = .ok (.if_icmp .ne 7, 3) := by decide +kernel
theorem dX8_pour_107 : decode cX8_pour 107 = .ok (.iconst 0, 1) := by decide +kernel
theorem dX8_pour_108 : decode cX8_pour 108 = .ok (.goto 4, 3) := by decide +kernel
theorem dX8_pour_111 : decode cX8_pour 111 = .ok (.iconst 1, 1) := by decide +kernel
theorem dX8_pour_112 : decode cX8_pour 112 = .ok (.iadd, 1) := by decide +kernel
theorem dX8_pour_113 : decode cX8_pour 113 = .ok (.istore_n 2, 1) := by decide +kernel
theorem dX8_pour_114 : decode cX8_pour 114 = .ok (.iinc 3 1, 3) := by decide +kernel
theorem dX8_pour_117 : decode cX8_pour 117 = .ok (.goto (-91), 3) := by decide +kernel
theorem dX8_pour_120 : decode cX8_pour 120 = .ok (.iload_n 2, 1) := by decide +kernel
theorem dX8_pour_121 : decode cX8_pour 121 = .ok (.ireturn, 1) := by decide +kernel
theorem dX8_reads_0 : decode cX8_reads 0 = .ok (.iload_n 1, 1) := by decide +kernel
theorem dX8_reads_1 : decode cX8_reads 1 = .ok (.invokestatic 178, 3) := by decide +kernel
theorem dX8_reads_4 : decode cX8_reads 4 = .ok (.ifCond .ne 6, 3) := by decide +kernel
theorem dX8_reads_7 : decode cX8_reads 7 = .ok (.ldc 90, 2) := by decide +kernel
theorem dX8_reads_9 : decode cX8_reads 9 = .ok (.ireturn, 1) := by decide +kernel
theorem dX8_reads_10 : decode cX8_reads 10 = .ok (.aload_n 0, 1) := by decide +kernel
theorem dX8_reads_11 : decode cX8_reads 11 = .ok (.getfield 51, 3) := by decide +kernel
theorem dX8_reads_14 : decode cX8_reads 14 = .ok (.iload_n 1, 1) := by decide +kernel
theorem dX8_reads_15 : decode cX8_reads 15 = .ok (.iaload, 1) := by decide +kernel
theorem dX8_reads_16 : decode cX8_reads 16 = .ok (.ifCond .ge 6, 3) := by decide +kernel
theorem dX8_reads_19 : decode cX8_reads 19 = .ok (.ldc 181, 2) := by decide +kernel
theorem dX8_reads_21 : decode cX8_reads 21 = .ok (.ireturn, 1) := by decide +kernel
theorem dX8_reads_22 : decode cX8_reads 22 = .ok (.iconst 0, 1) := by decide +kernel
theorem dX8_reads_23 : decode cX8_reads 23 = .ok (.istore_n 2, 1) := by decide +kernel
theorem dX8_reads_24 : decode cX8_reads 24 = .ok (.iload_n 2, 1) := by decide +kernel
theorem dX8_reads_25 : decode cX8_reads 25 = .ok (.aload_n 0, 1) := by decide +kernel
theorem dX8_reads_26 : decode cX8_reads 26 = .ok (.getfield 54, 3) := by decide +kernel
theorem dX8_reads_29 : decode cX8_reads 29 = .ok (.iload_n 1, 1) := by decide +kernel
theorem dX8_reads_30 : decode cX8_reads 30 = .ok (.iaload, 1) := by decide +kernel
theorem dX8_reads_31 : decode cX8_reads 31 = .ok (.if_icmp .ge 47, 3) := by decide +kernel
theorem dX8_reads_34 : decode cX8_reads 34 = .ok (.aload_n 0, 1) := by decide +kernel
theorem dX8_reads_35 : decode cX8_reads 35 = .ok (.getfield 57, 3) := by decide +kernel
theorem dX8_reads_38 : decode cX8_reads 38 = .ok (.bipush 24, 2) := by decide +kernel
theorem dX8_reads_40 : decode cX8_reads 40 = .ok (.iload_n 1, 1) := by decide +kernel
theorem dX8_reads_41 : decode cX8_reads 41 = .ok (.imul, 1) := by decide +kernel
theorem dX8_reads_42 : decode cX8_reads 42 = .ok (.iload_n 2, 1) := by decide +kernel
theorem dX8_reads_43 : decode cX8_reads 43 = .ok (.iadd, 1) := by decide +kernel
theorem dX8_reads_44 : decode cX8_reads 44 = .ok (.iaload, 1) := by decide +kernel
theorem dX8_reads_45 : decode cX8_reads 45 = .ok (.istore_n 3, 1) := by decide +kernel
theorem dX8_reads_46 : decode cX8_reads 46 = .ok (.iload_n 3, 1) := by decide +kernel
theorem dX8_reads_47 : decode cX8_reads 47 = .ok (.ldc 167, 2) := by decide +kernel
theorem dX8_reads_49 : decode cX8_reads 49 = .ok (.if_icmp .eq 23, 3) := by decide +kernel
theorem dX8_reads_52 : decode cX8_reads 52 = .ok (.aload_n 0, 1) := by decide +kernel
theorem dX8_reads_53 : decode cX8_reads 53 = .ok (.iload_n 2, 1) := by decide +kernel
theorem dX8_reads_54 : decode cX8_reads 54 = .ok (.invokevirtual 100, 3) := by decide +kernel
theorem dX8_reads_57 : decode cX8_reads 57 = .ok (.ifCond .eq 13, 3) := by decide +kernel
theorem dX8_reads_60 : decode cX8_reads 60 = .ok (.iload_n 3, 1) := by decide +kernel
theorem dX8_reads_61 : decode cX8_reads 61 = .ok (.aload_n 0, 1) := by decide +kernel
theorem dX8_reads_62 : decode cX8_reads 62 = .ok (.iload_n 2, 1) := by decide +kernel
theorem dX8_reads_63 : decode cX8_reads 63 = .ok (.iconst 5, 1) := by decide +kernel
theorem dX8_reads_64 : decode cX8_reads 64 = .ok (.invokevirtual 96, 3) := by decide +kernel
theorem dX8_reads_67 : decode cX8_reads 67 = .ok (.if_icmp .eq 5, 3) := by decide +kernel
theorem dX8_reads_70 : decode cX8_reads 70 = .ok (.iload_n 2, 1) := by decide +kernel
theorem dX8_reads_71 : decode cX8_reads 71 = .ok (.ireturn, 1) := by decide +kernel
theorem dX8_reads_72 : decode cX8_reads 72 = .ok (.iinc 2 1, 3) := by decide +kernel
theorem dX8_reads_75 : decode cX8_reads 75 = .ok (.goto (-51), 3) := by decide +kernel
theorem dX8_reads_78 : decode cX8_reads 78 = .ok (.ldc 167, 2) := by decide +kernel
theorem dX8_reads_80 : decode cX8_reads 80 = .ok (.ireturn, 1) := by decide +kernel
theorem dX8_copy_0 : decode cX8_copy 0 = .ok (.iload_n 1, 1) := by decide +kernel
theorem dX8_copy_1 : decode cX8_copy 1 = .ok (.invokestatic 178, 3) := by decide +kernel
theorem dX8_copy_4 : decode cX8_copy 4 = .ok (.ifCond .eq 10, 3) := by decide +kernel
theorem dX8_copy_7 : decode cX8_copy 7 = .ok (.iload_n 3, 1) := by decide +kernel
theorem dX8_copy_8 : decode cX8_copy 8 = .ok (.invokestatic 178, 3) := by decide +kernel
theorem dX8_copy_11 : decode cX8_copy 11 = .ok (.ifCond .ne 6, 3) := by decide +kernel
theorem dX8_copy_14 : decode cX8_copy 14 = .ok (.ldc 90, 2) := by decide +kernel
theorem dX8_copy_16 : decode cX8_copy 16 = .ok (.ireturn, 1) := by decide +kernel
theorem dX8_copy_17 : decode cX8_copy 17 = .ok (.aload_n 0, 1) := by decide +kernel
theorem dX8_copy_18 : decode cX8_copy 18 = .ok (.getfield 51, 3) := by decide +kernel
theorem dX8_copy_21 : decode cX8_copy 21 = .ok (.iload_n 1, 1) := by decide +kernel
theorem dX8_copy_22 : decode cX8_copy 22 = .ok (.iaload, 1) := by decide +kernel
theorem dX8_copy_23 : decode cX8_copy 23 = .ok (.ifCond .lt 12, 3) := by decide +kernel
theorem dX8_copy_26 : decode cX8_copy 26 = .ok (.aload_n 0, 1) := by decide +kernel
theorem dX8_copy_27 : decode cX8_copy 27 = .ok (.getfield 51, 3) := by decide +kernel
theorem dX8_copy_30 : decode cX8_copy 30 = .ok (.iload_n 3, 1) := by decide +kernel
theorem dX8_copy_31 : decode cX8_copy 31 = .ok (.iaload, 1) := by decide +kernel
theorem dX8_copy_32 : decode cX8_copy 32 = .ok (.ifCond .ge 6, 3) := by decide +kernel
theorem dX8_copy_35 : decode cX8_copy 35 = .ok (.ldc 181, 2) := by decide +kernel
theorem dX8_copy_37 : decode cX8_copy 37 = .ok (.ireturn, 1) := by decide +kernel
theorem dX8_copy_38 : decode cX8_copy 38 = .ok (.aload_n 0, 1) := by decide +kernel
theorem dX8_copy_39 : decode cX8_copy 39 = .ok (.getfield 51, 3) := by decide +kernel
theorem dX8_copy_42 : decode cX8_copy 42 = .ok (.iload_n 1, 1) := by decide +kernel
theorem dX8_copy_43 : decode cX8_copy 43 = .ok (.iaload, 1) := by decide +kernel
theorem dX8_copy_44 : decode cX8_copy 44 = .ok (.aload_n 0, 1) := by decide +kernel
theorem dX8_copy_45 : decode cX8_copy 45 = .ok (.getfield 51, 3) := by decide +kernel
theorem dX8_copy_48 : decode cX8_copy 48 = .ok (.iload_n 3, 1) := by decide +kernel
theorem dX8_copy_49 : decode cX8_copy 49 = .ok (.iaload, 1) := by decide +kernel
theorem dX8_copy_50 : decode cX8_copy 50 = .ok (.if_icmp .eq 6, 3) := by decide +kernel
theorem dX8_copy_53 : decode cX8_copy 53 = .ok (.ldc 123, 2) := by decide +kernel
theorem dX8_copy_55 : decode cX8_copy 55 = .ok (.ireturn, 1) := by decide +kernel
theorem dX8_copy_56 : decode cX8_copy 56 = .ok (.iload_n 2, 1) := by decide +kernel
theorem dX8_copy_57 : decode cX8_copy 57 = .ok (.ifCond .lt 40, 3) := by decide +kernel
theorem dX8_copy_60 : decode cX8_copy 60 = .ok (.iload 4, 2) := by decide +kernel
theorem dX8_copy_62 : decode cX8_copy 62 = .ok (.ifCond .lt 35, 3) := by decide +kernel
theorem dX8_copy_65 : decode cX8_copy 65 = .ok (.iload 5, 2) := by decide +kernel
theorem dX8_copy_67 : decode cX8_copy 67 = .ok (.ifCond .lt 30, 3) := by decide +kernel
theorem dX8_copy_70 : decode cX8_copy 70 = .ok (.iload_n 2, 1) := by decide +kernel
theorem dX8_copy_71 : decode cX8_copy 71 = .ok (.aload_n 0, 1) := by decide +kernel
theorem dX8_copy_72 : decode cX8_copy 72 = .ok (.getfield 54, 3) := by decide +kernel
theorem dX8_copy_75 : decode cX8_copy 75 = .ok (.iload_n 1, 1) := by decide +kernel
theorem dX8_copy_76 : decode cX8_copy 76 = .ok (.iaload, 1) := by decide +kernel
theorem dX8_copy_77 : decode cX8_copy 77 = .ok (.iload 5, 2) := by decide +kernel
theorem dX8_copy_79 : decode cX8_copy 79 = .ok (.isub, 1) := by decide +kernel
theorem dX8_copy_80 : decode cX8_copy 80 = .ok (.if_icmp .gt 17, 3) := by decide +kernel
theorem dX8_copy_83 : decode cX8_copy 83 = .ok (.iload 4, 2) := by decide +kernel
theorem dX8_copy_85 : decode cX8_copy 85 = .ok (.aload_n 0, 1) := by decide +kernel
theorem dX8_copy_86 : decode cX8_copy 86 = .ok (.getfield 54, 3) := by decide +kernel
theorem dX8_copy_89 : decode cX8_copy 89 = .ok (.iload_n 3, 1) := by decide +kernel
theorem dX8_copy_90 : decode cX8_copy 90 = .ok (.iaload, 1) := by decide +kernel
theorem dX8_copy_91 : decode cX8_copy 91 = .ok (.iload 5, 2) := by decide +kernel
theorem dX8_copy_93 : decode cX8_copy 93 = .ok (.isub, 1) := by decide +kernel
theorem dX8_copy_94 : decode cX8_copy 94 = .ok (.if_icmp .le 7, 3) := by decide +kernel
theorem dX8_copy_97 : decode cX8_copy 97 = .ok (.ldc_w 256, 3) := by decide +kernel
theorem dX8_copy_100 : decode cX8_copy 100 = .ok (.ireturn, 1) := by decide +kernel
theorem dX8_copy_101 : decode cX8_copy 101 = .ok (.iconst 0, 1) := by decide +kernel
theorem dX8_copy_102 : decode cX8_copy 102 = .ok (.istore 6, 2) := by decide +kernel
theorem dX8_copy_104 : decode cX8_copy 104 = .ok (.iload 6, 2) := by decide +kernel
theorem dX8_copy_106 : decode cX8_copy 106 = .ok (.iload 5, 2) := by decide +kernel
theorem dX8_copy_108 : decode cX8_copy 108 = .ok (.if_icmp .ge 30, 3) := by decide +kernel
theorem dX8_copy_111 : decode cX8_copy 111 = .ok (.aload_n 0, 1) := by decide +kernel
theorem dX8_copy_112 : decode cX8_copy 112 = .ok (.getfield 72, 3) := by decide +kernel
theorem dX8_copy_115 : decode cX8_copy 115 = .ok (.iload 6, 2) := by decide +kernel
theorem dX8_copy_117 : decode cX8_copy 117 = .ok (.aload_n 0, 1) := by decide +kernel
theorem dX8_copy_118 : decode cX8_copy 118 = .ok (.getfield 57, 3) := by decide +kernel
theorem dX8_copy_121 : decode cX8_copy 121 = .ok (.bipush 24, 2) := by decide +kernel
theorem dX8_copy_123 : decode cX8_copy 123 = .ok (.iload_n 1, 1) := by decide +kernel
theorem dX8_copy_124 : decode cX8_copy 124 = .ok (.imul, 1) := by decide +kernel
theorem dX8_copy_125 : decode cX8_copy 125 = .ok (.iload_n 2, 1) := by decide +kernel
theorem dX8_copy_126 : decode cX8_copy 126 = .ok (.iadd, 1) := by decide +kernel
theorem dX8_copy_127 : decode cX8_copy 127 = .ok (.iload 6, 2) := by decide +kernel
theorem dX8_copy_129 : decode cX8_copy 129 = .ok (.iadd, 1) := by decide +kernel
theorem dX8_copy_130 : decode cX8_copy 130 = .ok (.iaload, 1) := by decide +kernel
theorem dX8_copy_131 : decode cX8_copy 131 = .ok (.iastore, 1) := by decide +kernel
theorem dX8_copy_132 : decode cX8_copy 132 = .ok (.iinc 6 1, 3) := by decide +kernel
theorem dX8_copy_135 : decode cX8_copy 135 = .ok (.goto (-31), 3) := by decide +kernel
theorem dX8_copy_138 : decode cX8_copy 138 = .ok (.iconst 0, 1) := by decide +kernel
theorem dX8_copy_139 : decode cX8_copy 139 = .ok (.istore 6, 2) := by decide +kernel
theorem dX8_copy_141 : decode cX8_copy 141 = .ok (.iload 6, 2) := by decide +kernel
theorem dX8_copy_143 : decode cX8_copy 143 = .ok (.iload 5, 2) := by decide +kernel
theorem dX8_copy_145 : decode cX8_copy 145 = .ok (.if_icmp .ge 31, 3) := by decide +kernel
theorem dX8_copy_148 : decode cX8_copy 148 = .ok (.aload_n 0, 1) := by decide +kernel
theorem dX8_copy_149 : decode cX8_copy 149 = .ok (.getfield 57, 3) := by decide +kernel
theorem dX8_copy_152 : decode cX8_copy 152 = .ok (.bipush 24, 2) := by decide +kernel
theorem dX8_copy_154 : decode cX8_copy 154 = .ok (.iload_n 3, 1) := by decide +kernel
theorem dX8_copy_155 : decode cX8_copy 155 = .ok (.imul, 1) := by decide +kernel
theorem dX8_copy_156 : decode cX8_copy 156 = .ok (.iload 4, 2) := by decide +kernel
theorem dX8_copy_158 : decode cX8_copy 158 = .ok (.iadd, 1) := by decide +kernel
theorem dX8_copy_159 : decode cX8_copy 159 = .ok (.iload 6, 2) := by decide +kernel
theorem dX8_copy_161 : decode cX8_copy 161 = .ok (.iadd, 1) := by decide +kernel
theorem dX8_copy_162 : decode cX8_copy 162 = .ok (.aload_n 0, 1) := by decide +kernel
theorem dX8_copy_163 : decode cX8_copy 163 = .ok (.getfield 72, 3) := by decide +kernel
theorem dX8_copy_166 : decode cX8_copy 166 = .ok (.iload 6, 2) := by decide +kernel
theorem dX8_copy_168 : decode cX8_copy 168 = .ok (.iaload, 1) := by decide +kernel
theorem dX8_copy_169 : decode cX8_copy 169 = .ok (.iastore, 1) := by decide +kernel
theorem dX8_copy_170 : decode cX8_copy 170 = .ok (.iinc 6 1, 3) := by decide +kernel
theorem dX8_copy_173 : decode cX8_copy 173 = .ok (.goto (-32), 3) := by decide +kernel
theorem dX8_copy_176 : decode cX8_copy 176 = .ok (.iload 5, 2) := by decide +kernel
theorem dX8_copy_178 : decode cX8_copy 178 = .ok (.ireturn, 1) := by decide +kernel
theorem dX8_lay_0 : decode cX8_lay 0 = .ok (.iload_n 1, 1) := by decide +kernel
theorem dX8_lay_1 : decode cX8_lay 1 = .ok (.invokestatic 259, 3) := by decide +kernel
theorem dX8_lay_4 : decode cX8_lay 4 = .ok (.ifCond .eq 37, 3) := by decide +kernel
theorem dX8_lay_7 : decode cX8_lay 7 = .ok (.iload_n 2, 1) := by decide +kernel
theorem dX8_lay_8 : decode cX8_lay 8 = .ok (.iconst 0, 1) := by decide +kernel
theorem dX8_lay_9 : decode cX8_lay 9 = .ok (.iconst 3, 1) := by decide +kernel
theorem dX8_lay_10 : decode cX8_lay 10 = .ok (.invokestatic 78, 3) := by decide +kernel
theorem dX8_lay_13 : decode cX8_lay 13 = .ok (.ifCond .eq 28, 3) := by decide +kernel
theorem dX8_lay_16 : decode cX8_lay 16 = .ok (.iload_n 2, 1) := by decide +kernel
theorem dX8_lay_17 : decode cX8_lay 17 = .ok (.iconst 1, 1) := by decide +kernel
theorem dX8_lay_18 : decode cX8_lay 18 = .ok (.if_icmp .ne 11, 3) := by decide +kernel
theorem dX8_lay_21 : decode cX8_lay 21 = .ok (.aload_n 0, 1) := by decide +kernel
theorem dX8_lay_22 : decode cX8_lay 22 = .ok (.iload_n 3, 1) := by decide +kernel
theorem dX8_lay_23 : decode cX8_lay 23 = .ok (.invokevirtual 100, 3) := by decide +kernel
theorem dX8_lay_26 : decode cX8_lay 26 = .ok (.ifCond .eq 15, 3) := by decide +kernel
theorem dX8_lay_29 : decode cX8_lay 29 = .ok (.iload_n 2, 1) := by decide +kernel
theorem dX8_lay_30 : decode cX8_lay 30 = .ok (.iconst 2, 1) := by decide +kernel
theorem dX8_lay_31 : decode cX8_lay 31 = .ok (.if_icmp .ne 13, 3) := by decide +kernel
theorem dX8_lay_34 : decode cX8_lay 34 = .ok (.iload_n 3, 1) := by decide +kernel
theorem dX8_lay_35 : decode cX8_lay 35 = .ok (.invokestatic 178, 3) := by decide +kernel
theorem dX8_lay_38 : decode cX8_lay 38 = .ok (.ifCond .ne 6, 3) := by decide +kernel
theorem dX8_lay_41 : decode cX8_lay 41 = .ok (.ldc 90, 2) := by decide +kernel
theorem dX8_lay_43 : decode cX8_lay 43 = .ok (.ireturn, 1) := by decide +kernel
theorem dX8_lay_44 : decode cX8_lay 44 = .ok (.iload_n 2, 1) := by decide +kernel
theorem dX8_lay_45 : decode cX8_lay 45 = .ok (.iconst 2, 1) := by decide +kernel
theorem dX8_lay_46 : decode cX8_lay 46 = .ok (.if_icmp .ne 15, 3) := by decide +kernel
theorem dX8_lay_49 : decode cX8_lay 49 = .ok (.aload_n 0, 1) := by decide +kernel
theorem dX8_lay_50 : decode cX8_lay 50 = .ok (.getfield 51, 3) := by decide +kernel
theorem dX8_lay_53 : decode cX8_lay 53 = .ok (.iload_n 3, 1) := by decide +kernel
theorem dX8_lay_54 : decode cX8_lay 54 = .ok (.iaload, 1) := by decide +kernel
theorem dX8_lay_55 : decode cX8_lay 55 = .ok (.ifCond .ge 6, 3) := by decide +kernel
theorem dX8_lay_58 : decode cX8_lay 58 = .ok (.ldc 181, 2) := by decide +kernel
theorem dX8_lay_60 : decode cX8_lay 60 = .ok (.ireturn, 1) := by decide +kernel
theorem dX8_lay_61 : decode cX8_lay 61 = .ok (.aload_n 0, 1) := by decide +kernel
theorem dX8_lay_62 : decode cX8_lay 62 = .ok (.getfield 60, 3) := by decide +kernel
theorem dX8_lay_65 : decode cX8_lay 65 = .ok (.iload_n 1, 1) := by decide +kernel
theorem dX8_lay_66 : decode cX8_lay 66 = .ok (.iaload, 1) := by decide +kernel
theorem dX8_lay_67 : decode cX8_lay 67 = .ok (.istore 4, 2) := by decide +kernel
theorem dX8_lay_69 : decode cX8_lay 69 = .ok (.aload_n 0, 1) := by decide +kernel
theorem dX8_lay_70 : decode cX8_lay 70 = .ok (.getfield 60, 3) := by decide +kernel
theorem dX8_lay_73 : decode cX8_lay 73 = .ok (.iload_n 1, 1) := by decide +kernel
theorem dX8_lay_74 : decode cX8_lay 74 = .ok (.iload_n 2, 1) := by decide +kernel
theorem dX8_lay_75 : decode cX8_lay 75 = .ok (.iastore, 1) := by decide +kernel
theorem dX8_lay_76 : decode cX8_lay 76 = .ok (.aload_n 0, 1) := by decide +kernel
theorem dX8_lay_77 : decode cX8_lay 77 = .ok (.getfield 63, 3) := by decide +kernel
theorem dX8_lay_80 : decode cX8_lay 80 = .ok (.iload_n 1, 1) := by decide +kernel
theorem dX8_lay_81 : decode cX8_lay 81 = .ok (.iload_n 2, 1) := by decide +kernel
theorem dX8_lay_82 : decode cX8_lay 82 = .ok (.iconst 1, 1) := by decide +kernel
theorem dX8_lay_83 : decode cX8_lay 83 = .ok (.if_icmp .ne 12, 3) := by decide +kernel
theorem dX8_lay_86 : decode cX8_lay 86 = .ok (.aload_n 0, 1) := by decide +kernel
theorem dX8_lay_87 : decode cX8_lay 87 = .ok (.iload_n 3, 1) := by decide +kernel
theorem dX8_lay_88 : decode cX8_lay 88 = .ok (.iconst 0, 1) := by decide +kernel
theorem dX8_lay_89 : decode cX8_lay 89 = .ok (.invokevirtual 96, 3) := by decide +kernel
theorem dX8_lay_92 : decode cX8_lay 92 = .ok (.goto 18, 3) := by decide +kernel
theorem dX8_lay_95 : decode cX8_lay 95 = .ok (.iload_n 2, 1) := by decide +kernel
theorem dX8_lay_96 : decode cX8_lay 96 = .ok (.iconst 2, 1) := by decide +kernel
theorem dX8_lay_97 : decode cX8_lay 97 = .ok (.if_icmp .ne 12, 3) := by decide +kernel
theorem dX8_lay_100 : decode cX8_lay 100 = .ok (.aload_n 0, 1) := by decide +kernel
theorem dX8_lay_101 : decode cX8_lay 101 = .ok (.getfield 54, 3) := by decide +kernel
theorem dX8_lay_104 : decode cX8_lay 104 = .ok (.iload_n 3, 1) := by decide +kernel
theorem dX8_lay_105 : decode cX8_lay 105 = .ok (.iaload, 1) := by decide +kernel
theorem dX8_lay_106 : decode cX8_lay 106 = .ok (.goto 4, 3) := by decide +kernel
theorem dX8_lay_109 : decode cX8_lay 109 = .ok (.iload_n 3, 1) := by decide +kernel
theorem dX8_lay_110 : decode cX8_lay 110 = .ok (.iastore, 1) := by decide +kernel
theorem dX8_lay_111 : decode cX8_lay 111 = .ok (.aload_n 0, 1) := by decide +kernel
theorem dX8_lay_112 : decode cX8_lay 112 = .ok (.getfield 66, 3) := by decide +kernel
theorem dX8_lay_115 : decode cX8_lay 115 = .ok (.iload_n 1, 1) := by decide +kernel
theorem dX8_lay_116 : decode cX8_lay 116 = .ok (.iload_n 2, 1) := by decide +kernel
theorem dX8_lay_117 : decode cX8_lay 117 = .ok (.iconst 1, 1) := by decide +kernel
theorem dX8_lay_118 : decode cX8_lay 118 = .ok (.if_icmp .ne 11, 3) := by decide +kernel
theorem dX8_lay_121 : decode cX8_lay 121 = .ok (.aload_n 0, 1) := by decide +kernel
theorem dX8_lay_122 : decode cX8_lay 122 = .ok (.iload_n 3, 1) := by decide +kernel
theorem dX8_lay_123 : decode cX8_lay 123 = .ok (.invokevirtual 104, 3) := by decide +kernel
theorem dX8_lay_126 : decode cX8_lay 126 = .ok (.goto 4, 3) := by decide +kernel
theorem dX8_lay_129 : decode cX8_lay 129 = .ok (.iconst 0, 1) := by decide +kernel
theorem dX8_lay_130 : decode cX8_lay 130 = .ok (.iastore, 1) := by decide +kernel
theorem dX8_lay_131 : decode cX8_lay 131 = .ok (.iconst 0, 1) := by decide +kernel
theorem dX8_lay_132 : decode cX8_lay 132 = .ok (.istore 5, 2) := by decide +kernel
theorem dX8_lay_134 : decode cX8_lay 134 = .ok (.iload 5, 2) := by decide +kernel
theorem dX8_lay_136 : decode cX8_lay 136 = .ok (.bipush 24, 2) := by decide +kernel
theorem dX8_lay_138 : decode cX8_lay 138 = .ok (.if_icmp .ge 38, 3) := by decide +kernel
theorem dX8_lay_141 : decode cX8_lay 141 = .ok (.iload_n 2, 1) := by decide +kernel
theorem dX8_lay_142 : decode cX8_lay 142 = .ok (.iconst 2, 1) := by decide +kernel
theorem dX8_lay_143 : decode cX8_lay 143 = .ok (.if_icmp .ne 33, 3) := by decide +kernel
theorem dX8_lay_146 : decode cX8_lay 146 = .ok (.aload_n 0, 1) := by decide +kernel
theorem dX8_lay_147 : decode cX8_lay 147 = .ok (.getfield 69, 3) := by decide +kernel
theorem dX8_lay_150 : decode cX8_lay 150 = .ok (.bipush 24, 2) := by decide +kernel
theorem dX8_lay_152 : decode cX8_lay 152 = .ok (.iload_n 1, 1) := by decide +kernel
theorem dX8_lay_153 : decode cX8_lay 153 = .ok (.imul, 1) := by decide +kernel
theorem dX8_lay_154 : decode cX8_lay 154 = .ok (.iload 5, 2) := by decide +kernel
theorem dX8_lay_156 : decode cX8_lay 156 = .ok (.iadd, 1) := by decide +kernel
theorem dX8_lay_157 : decode cX8_lay 157 = .ok (.aload_n 0, 1) := by decide +kernel
theorem dX8_lay_158 : decode cX8_lay 158 = .ok (.getfield 57, 3) := by decide +kernel
theorem dX8_lay_161 : decode cX8_lay 161 = .ok (.bipush 24, 2) := by decide +kernel
theorem dX8_lay_163 : decode cX8_lay 163 = .ok (.iload_n 3, 1) := by decide +kernel
theorem dX8_lay_164 : decode cX8_lay 164 = .ok (.imul, 1) := by decide +kernel
theorem dX8_lay_165 : decode cX8_lay 165 = .ok (.iload 5, 2) := by decide +kernel
theorem dX8_lay_167 : decode cX8_lay 167 = .ok (.iadd, 1) := by decide +kernel
theorem dX8_lay_168 : decode cX8_lay 168 = .ok (.iaload, 1) := by decide +kernel
theorem dX8_lay_169 : decode cX8_lay 169 = .ok (.iastore, 1) := by decide +kernel
theorem dX8_lay_170 : decode cX8_lay 170 = .ok (.iinc 5 1, 3) := by decide +kernel
theorem dX8_lay_173 : decode cX8_lay 173 = .ok (.goto (-39), 3) := by decide +kernel
theorem dX8_lay_176 : decode cX8_lay 176 = .ok (.iload 4, 2) := by decide +kernel
theorem dX8_lay_178 : decode cX8_lay 178 = .ok (.ireturn, 1) := by decide +kernel
theorem dX8_ask_0 : decode cX8_ask 0 = .ok (.iload_n 1, 1) := by decide +kernel
theorem dX8_ask_1 : decode cX8_ask 1 = .ok (.invokestatic 259, 3) := by decide +kernel
theorem dX8_ask_4 : decode cX8_ask 4 = .ok (.ifCond .eq 12, 3) := by decide +kernel
theorem dX8_ask_7 : decode cX8_ask 7 = .ok (.iload_n 2, 1) := by decide +kernel
theorem dX8_ask_8 : decode cX8_ask 8 = .ok (.iconst 0, 1) := by decide +kernel
theorem dX8_ask_9 : decode cX8_ask 9 = .ok (.iconst 5, 1) := by decide +kernel
theorem dX8_ask_10 : decode cX8_ask 10 = .ok (.invokestatic 78, 3) := by decide +kernel
theorem dX8_ask_13 : decode cX8_ask 13 = .ok (.ifCond .ne 6, 3) := by decide +kernel
theorem dX8_ask_16 : decode cX8_ask 16 = .ok (.ldc 90, 2) := by decide +kernel
theorem dX8_ask_18 : decode cX8_ask 18 = .ok (.ireturn, 1) := by decide +kernel
theorem dX8_ask_19 : decode cX8_ask 19 = .ok (.aload_n 0, 1) := by decide +kernel
theorem dX8_ask_20 : decode cX8_ask 20 = .ok (.getfield 60, 3) := by decide +kernel
theorem dX8_ask_23 : decode cX8_ask 23 = .ok (.iload_n 1, 1) := by decide +kernel
theorem dX8_ask_24 : decode cX8_ask 24 = .ok (.iaload, 1) := by decide +kernel
theorem dX8_ask_25 : decode cX8_ask 25 = .ok (.ifCond .ne 6, 3) := by decide +kernel
theorem dX8_ask_28 : decode cX8_ask 28 = .ok (.ldc 181, 2) := by decide +kernel
theorem dX8_ask_30 : decode cX8_ask 30 = .ok (.ireturn, 1) := by decide +kernel
theorem dX8_ask_31 : decode cX8_ask 31 = .ok (.aload_n 0, 1) := by decide +kernel
theorem dX8_ask_32 : decode cX8_ask 32 = .ok (.getfield 60, 3) := by decide +kernel
theorem dX8_ask_35 : decode cX8_ask 35 = .ok (.iload_n 1, 1) := by decide +kernel
theorem dX8_ask_36 : decode cX8_ask 36 = .ok (.iaload, 1) := by decide +kernel
theorem dX8_ask_37 : decode cX8_ask 37 = .ok (.iconst 1, 1) := by decide +kernel
theorem dX8_ask_38 : decode cX8_ask 38 = .ok (.if_icmp .ne 25, 3) := by decide +kernel
theorem dX8_ask_41 : decode cX8_ask 41 = .ok (.aload_n 0, 1) := by decide +kernel
theorem dX8_ask_42 : decode cX8_ask 42 = .ok (.getfield 63, 3) := by decide +kernel
theorem dX8_ask_45 : decode cX8_ask 45 = .ok (.iload_n 1, 1) := by decide +kernel
theorem dX8_ask_46 : decode cX8_ask 46 = .ok (.iaload, 1) := by decide +kernel
theorem dX8_ask_47 : decode cX8_ask 47 = .ok (.iload_n 2, 1) := by decide +kernel
theorem dX8_ask_48 : decode cX8_ask 48 = .ok (.invokestatic 120, 3) := by decide +kernel
theorem dX8_ask_51 : decode cX8_ask 51 = .ok (.ifCond .eq 12, 3) := by decide +kernel
theorem dX8_ask_54 : decode cX8_ask 54 = .ok (.aload_n 0, 1) := by decide +kernel
theorem dX8_ask_55 : decode cX8_ask 55 = .ok (.getfield 66, 3) := by decide +kernel
theorem dX8_ask_58 : decode cX8_ask 58 = .ok (.iload_n 1, 1) := by decide +kernel
theorem dX8_ask_59 : decode cX8_ask 59 = .ok (.iaload, 1) := by decide +kernel
theorem dX8_ask_60 : decode cX8_ask 60 = .ok (.goto 5, 3) := by decide +kernel
theorem dX8_ask_63 : decode cX8_ask 63 = .ok (.ldc 123, 2) := by decide +kernel
theorem dX8_ask_65 : decode cX8_ask 65 = .ok (.ireturn, 1) := by decide +kernel
theorem dX8_item_0 : decode cX8_item 0 = .ok (.iload_n 1, 1) := by decide +kernel
theorem dX8_item_1 : decode cX8_item 1 = .ok (.invokestatic 259, 3) := by decide +kernel
theorem dX8_item_4 : decode cX8_item 4 = .ok (.ifCond .ne 6, 3) := by decide +kernel
theorem dX8_item_7 : decode cX8_item 7 = .ok (.ldc 90, 2) := by decide +kernel
theorem dX8_item_9 : decode cX8_item 9 = .ok (.ireturn, 1) := by decide +kernel
theorem dX8_item_10 : decode cX8_item 10 = .ok (.aload_n 0, 1) := by decide +kernel
theorem dX8_item_11 : decode cX8_item 11 = .ok (.getfield 60, 3) := by decide +kernel
theorem dX8_item_14 : decode cX8_item 14 = .ok (.iload_n 1, 1) := by decide +kernel
theorem dX8_item_15 : decode cX8_item 15 = .ok (.iaload, 1) := by decide +kernel
theorem dX8_item_16 : decode cX8_item 16 = .ok (.ifCond .ne 6, 3) := by decide +kernel
theorem dX8_item_19 : decode cX8_item 19 = .ok (.ldc 181, 2) := by decide +kernel
theorem dX8_item_21 : decode cX8_item 21 = .ok (.ireturn, 1) := by decide +kernel
theorem dX8_item_22 : decode cX8_item 22 = .ok (.aload_n 0, 1) := by decide +kernel
theorem dX8_item_23 : decode cX8_item 23 = .ok (.getfield 60, 3) := by decide +kernel
theorem dX8_item_26 : decode cX8_item 26 = .ok (.iload_n 1, 1) := by decide +kernel
theorem dX8_item_27 : decode cX8_item 27 = .ok (.iaload, 1) := by decide +kernel
theorem dX8_item_28 : decode cX8_item 28 = .ok (.iconst 2, 1) := by decide +kernel
theorem dX8_item_29 : decode cX8_item 29 = .ok (.if_icmp .eq 6, 3) := by decide +kernel
theorem dX8_item_32 : decode cX8_item 32 = .ok (.ldc 123, 2) := by decide +kernel
theorem dX8_item_34 : decode cX8_item 34 = .ok (.ireturn, 1) := by decide +kernel
theorem dX8_item_35 : decode cX8_item 35 = .ok (.iload_n 2, 1) := by decide +kernel
theorem dX8_item_36 : decode cX8_item 36 = .ok (.iconst 0, 1) := by decide +kernel
theorem dX8_item_37 : decode cX8_item 37 = .ok (.aload_n 0, 1) := by decide +kernel
theorem dX8_item_38 : decode cX8_item 38 = .ok (.getfield 63, 3) := by decide +kernel
theorem dX8_item_41 : decode cX8_item 41 = .ok (.iload_n 1, 1) := by decide +kernel
theorem dX8_item_42 : decode cX8_item 42 = .ok (.iaload, 1) := by decide +kernel
theorem dX8_item_43 : decode cX8_item 43 = .ok (.iconst 1, 1) := by decide +kernel
theorem dX8_item_44 : decode cX8_item 44 = .ok (.isub, 1) := by decide +kernel
theorem dX8_item_45 : decode cX8_item 45 = .ok (.invokestatic 78, 3) := by decide +kernel
theorem dX8_item_48 : decode cX8_item 48 = .ok (.ifCond .ne 7, 3) := by decide +kernel
theorem dX8_item_51 : decode cX8_item 51 = .ok (.ldc_w 256, 3) := by decide +kernel
theorem dX8_item_54 : decode cX8_item 54 = .ok (.ireturn, 1) := by decide +kernel
theorem dX8_item_55 : decode cX8_item 55 = .ok (.aload_n 0, 1) := by decide +kernel
theorem dX8_item_56 : decode cX8_item 56 = .ok (.getfield 69, 3) := by decide +kernel
theorem dX8_item_59 : decode cX8_item 59 = .ok (.bipush 24, 2) := by decide +kernel
theorem dX8_item_61 : decode cX8_item 61 = .ok (.iload_n 1, 1) := by decide +kernel
theorem dX8_item_62 : decode cX8_item 62 = .ok (.imul, 1) := by decide +kernel
theorem dX8_item_63 : decode cX8_item 63 = .ok (.iload_n 2, 1) := by decide +kernel
theorem dX8_item_64 : decode cX8_item 64 = .ok (.iadd, 1) := by decide +kernel
theorem dX8_item_65 : decode cX8_item 65 = .ok (.iaload, 1) := by decide +kernel
theorem dX8_item_66 : decode cX8_item 66 = .ok (.istore_n 3, 1) := by decide +kernel
theorem dX8_item_67 : decode cX8_item 67 = .ok (.iload_n 3, 1) := by decide +kernel
theorem dX8_item_68 : decode cX8_item 68 = .ok (.ldc 167, 2) := by decide +kernel
theorem dX8_item_70 : decode cX8_item 70 = .ok (.if_icmp .ne 8, 3) := by decide +kernel
theorem dX8_item_73 : decode cX8_item 73 = .ok (.ldc 123, 2) := by decide +kernel
theorem dX8_item_75 : decode cX8_item 75 = .ok (.goto 4, 3) := by decide +kernel
theorem dX8_item_78 : decode cX8_item 78 = .ok (.iload_n 3, 1) := by decide +kernel
theorem dX8_item_79 : decode cX8_item 79 = .ok (.ireturn, 1) := by decide +kernel
theorem dX8_rest_0 : decode cX8_rest 0 = .ok (.iload_n 1, 1) := by decide +kernel
theorem dX8_rest_1 : decode cX8_rest 1 = .ok (.invokestatic 259, 3) := by decide +kernel
theorem dX8_rest_4 : decode cX8_rest 4 = .ok (.ifCond .ne 6, 3) := by decide +kernel
theorem dX8_rest_7 : decode cX8_rest 7 = .ok (.ldc 90, 2) := by decide +kernel
theorem dX8_rest_9 : decode cX8_rest 9 = .ok (.ireturn, 1) := by decide +kernel
theorem dX8_rest_10 : decode cX8_rest 10 = .ok (.aload_n 0, 1) := by decide +kernel
theorem dX8_rest_11 : decode cX8_rest 11 = .ok (.getfield 60, 3) := by decide +kernel
theorem dX8_rest_14 : decode cX8_rest 14 = .ok (.iload_n 1, 1) := by decide +kernel
theorem dX8_rest_15 : decode cX8_rest 15 = .ok (.iaload, 1) := by decide +kernel
theorem dX8_rest_16 : decode cX8_rest 16 = .ok (.ifCond .ne 6, 3) := by decide +kernel
theorem dX8_rest_19 : decode cX8_rest 19 = .ok (.ldc 181, 2) := by decide +kernel
theorem dX8_rest_21 : decode cX8_rest 21 = .ok (.ireturn, 1) := by decide +kernel
theorem dX8_rest_22 : decode cX8_rest 22 = .ok (.aload_n 0, 1) := by decide +kernel
theorem dX8_rest_23 : decode cX8_rest 23 = .ok (.getfield 60, 3) := by decide +kernel
theorem dX8_rest_26 : decode cX8_rest 26 = .ok (.iload_n 1, 1) := by decide +kernel
theorem dX8_rest_27 : decode cX8_rest 27 = .ok (.iaload, 1) := by decide +kernel
theorem dX8_rest_28 : decode cX8_rest 28 = .ok (.iconst 3, 1) := by decide +kernel
theorem dX8_rest_29 : decode cX8_rest 29 = .ok (.if_icmp .eq 6, 3) := by decide +kernel
theorem dX8_rest_32 : decode cX8_rest 32 = .ok (.ldc 123, 2) := by decide +kernel
theorem dX8_rest_34 : decode cX8_rest 34 = .ok (.ireturn, 1) := by decide +kernel
theorem dX8_rest_35 : decode cX8_rest 35 = .ok (.iload_n 2, 1) := by decide +kernel
theorem dX8_rest_36 : decode cX8_rest 36 = .ok (.ifCond .ne 9, 3) := by decide +kernel
theorem dX8_rest_39 : decode cX8_rest 39 = .ok (.ldc_w 262, 3) := by decide +kernel
theorem dX8_rest_42 : decode cX8_rest 42 = .ok (.goto 20, 3) := by decide +kernel
theorem dX8_rest_45 : decode cX8_rest 45 = .ok (.iload_n 2, 1) := by decide +kernel
theorem dX8_rest_46 : decode cX8_rest 46 = .ok (.iconst (-1), 1) := by decide +kernel
theorem dX8_rest_47 : decode cX8_rest 47 = .ok (.if_icmp .ne 7, 3) := by decide +kernel
theorem dX8_rest_50 : decode cX8_rest 50 = .ok (.iconst 0, 1) := by decide +kernel
theorem dX8_rest_51 : decode cX8_rest 51 = .ok (.goto 11, 3) := by decide +kernel
theorem dX8_rest_54 : decode cX8_rest 54 = .ok (.aload_n 0, 1) := by decide +kernel
theorem dX8_rest_55 : decode cX8_rest 55 = .ok (.getfield 63, 3) := by decide +kernel
theorem dX8_rest_58 : decode cX8_rest 58 = .ok (.iload_n 1, 1) := by decide +kernel
theorem dX8_rest_59 : decode cX8_rest 59 = .ok (.iaload, 1) := by decide +kernel
theorem dX8_rest_60 : decode cX8_rest 60 = .ok (.iload_n 2, 1) := by decide +kernel
theorem dX8_rest_61 : decode cX8_rest 61 = .ok (.irem, 1) := by decide +kernel
theorem dX8_rest_62 : decode cX8_rest 62 = .ok (.ireturn, 1) := by decide +kernel
theorem dX8_tell_0 : decode cX8_tell 0 = .ok (.aload_n 0, 1) := by decide +kernel
theorem dX8_tell_1 : decode cX8_tell 1 = .ok (.getfield 263, 3) := by decide +kernel
theorem dX8_tell_4 : decode cX8_tell 4 = .ok (.bipush 60, 2) := by decide +kernel
theorem dX8_tell_6 : decode cX8_tell 6 = .ok (.if_icmp .ne 6, 3) := by decide +kernel
theorem dX8_tell_9 : decode cX8_tell 9 = .ok (.ldc 91, 2) := by decide +kernel
theorem dX8_tell_11 : decode cX8_tell 11 = .ok (.ireturn, 1) := by decide +kernel
theorem dX8_tell_12 : decode cX8_tell 12 = .ok (.aload_n 0, 1) := by decide +kernel
theorem dX8_tell_13 : decode cX8_tell 13 = .ok (.getfield 75, 3) := by decide +kernel
theorem dX8_tell_16 : decode cX8_tell 16 = .ok (.aload_n 0, 1) := by decide +kernel
theorem dX8_tell_17 : decode cX8_tell 17 = .ok (.getfield 263, 3) := by decide +kernel
theorem dX8_tell_20 : decode cX8_tell 20 = .ok (.iload_n 1, 1) := by decide +kernel
theorem dX8_tell_21 : decode cX8_tell 21 = .ok (.iastore, 1) := by decide +kernel
theorem dX8_tell_22 : decode cX8_tell 22 = .ok (.aload_n 0, 1) := by decide +kernel
theorem dX8_tell_23 : decode cX8_tell 23 = .ok (.dup, 1) := by decide +kernel
theorem dX8_tell_24 : decode cX8_tell 24 = .ok (.getfield 263, 3) := by decide +kernel
theorem dX8_tell_27 : decode cX8_tell 27 = .ok (.iconst 1, 1) := by decide +kernel
theorem dX8_tell_28 : decode cX8_tell 28 = .ok (.iadd, 1) := by decide +kernel
theorem dX8_tell_29 : decode cX8_tell 29 = .ok (.putfield 263, 3) := by decide +kernel
theorem dX8_tell_32 : decode cX8_tell 32 = .ok (.aload_n 0, 1) := by decide +kernel
theorem dX8_tell_33 : decode cX8_tell 33 = .ok (.getfield 263, 3) := by decide +kernel
theorem dX8_tell_36 : decode cX8_tell 36 = .ok (.ireturn, 1) := by decide +kernel
theorem dX8_check_0 : decode cX8_check 0 = .ok (.aload_n 0, 1) := by decide +kernel
theorem dX8_check_1 : decode cX8_check 1 = .ok (.getfield 263, 3) := by decide +kernel
theorem dX8_check_4 : decode cX8_check 4 = .ok (.istore_n 2, 1) := by decide +kernel
theorem dX8_check_5 : decode cX8_check 5 = .ok (.aload_n 0, 1) := by decide +kernel
theorem dX8_check_6 : decode cX8_check 6 = .ok (.iconst 0, 1) := by decide +kernel
theorem dX8_check_7 : decode cX8_check 7 = .ok (.putfield 263, 3) := by decide +kernel
theorem dX8_check_10 : decode cX8_check 10 = .ok (.iload_n 1, 1) := by decide +kernel
theorem dX8_check_11 : decode cX8_check 11 = .ok (.iconst 1, 1) := by decide +kernel
theorem dX8_check_12 : decode cX8_check 12 = .ok (.bipush 30, 2) := by decide +kernel
theorem dX8_check_14 : decode cX8_check 14 = .ok (.invokestatic 78, 3) := by decide +kernel
theorem dX8_check_17 : decode cX8_check 17 = .ok (.ifCond .ne 6, 3) := by decide +kernel
theorem dX8_check_20 : decode cX8_check 20 = .ok (.ldc 90, 2) := by decide +kernel
theorem dX8_check_22 : decode cX8_check 22 = .ok (.ireturn, 1) := by decide +kernel
theorem dX8_check_23 : decode cX8_check 23 = .ok (.aload_n 0, 1) := by decide +kernel
theorem dX8_check_24 : decode cX8_check 24 = .ok (.getfield 266, 3) := by decide +kernel
theorem dX8_check_27 : decode cX8_check 27 = .ok (.ifCond .ne 7, 3) := by decide +kernel
theorem dX8_check_30 : decode cX8_check 30 = .ok (.ldc_w 262, 3) := by decide +kernel
theorem dX8_check_33 : decode cX8_check 33 = .ok (.ireturn, 1) := by decide +kernel
theorem dX8_check_34 : decode cX8_check 34 = .ok (.aload_n 0, 1) := by decide +kernel
theorem dX8_check_35 : decode cX8_check 35 = .ok (.getfield 9, 3) := by decide +kernel
theorem dX8_check_38 : decode cX8_check 38 = .ok (.aload_n 0, 1) := by decide +kernel
theorem dX8_check_39 : decode cX8_check 39 = .ok (.getfield 16, 3) := by decide +kernel
theorem dX8_check_42 : decode cX8_check 42 = .ok (.invokestatic 270, 3) := by decide +kernel
theorem dX8_check_45 : decode cX8_check 45 = .ok (.aload_n 0, 1) := by decide +kernel
theorem dX8_check_46 : decode cX8_check 46 = .ok (.getfield 13, 3) := by decide +kernel
theorem dX8_check_49 : decode cX8_check 49 = .ok (.aload_n 0, 1) := by decide +kernel
theorem dX8_check_50 : decode cX8_check 50 = .ok (.getfield 9, 3) := by decide +kernel
theorem dX8_check_53 : decode cX8_check 53 = .ok (.invokestatic 270, 3) := by decide +kernel
theorem dX8_check_56 : decode cX8_check 56 = .ok (.iconst 2, 1) := by decide +kernel
theorem dX8_check_57 : decode cX8_check 57 = .ok (.sipush 9999, 3) := by decide +kernel
theorem dX8_check_60 : decode cX8_check 60 = .ok (.aload_n 0, 1) := by decide +kernel
theorem dX8_check_61 : decode cX8_check 61 = .ok (.getfield 9, 3) := by decide +kernel
theorem dX8_check_64 : decode cX8_check 64 = .ok (.iconst 2, 1) := by decide +kernel
theorem dX8_check_65 : decode cX8_check 65 = .ok (.iaload, 1) := by decide +kernel
theorem dX8_check_66 : decode cX8_check 66 = .ok (.isub, 1) := by decide +kernel
theorem dX8_check_67 : decode cX8_check 67 = .ok (.iconst 0, 1) := by decide +kernel
theorem dX8_check_68 : decode cX8_check 68 = .ok (.iload_n 1, 1) := by decide +kernel
theorem dX8_check_69 : decode cX8_check 69 = .ok (.invokestatic 114, 3) := by decide +kernel
theorem dX8_check_72 : decode cX8_check 72 = .ok (.imul, 1) := by decide +kernel
theorem dX8_check_73 : decode cX8_check 73 = .ok (.istore_n 3, 1) := by decide +kernel
theorem dX8_check_74 : decode cX8_check 74 = .ok (.iconst 0, 1) := by decide +kernel
theorem dX8_check_75 : decode cX8_check 75 = .ok (.istore 4, 2) := by decide +kernel
theorem dX8_check_77 : decode cX8_check 77 = .ok (.iconst 0, 1) := by decide +kernel
theorem dX8_check_78 : decode cX8_check 78 = .ok (.istore 5, 2) := by decide +kernel
theorem dX8_check_80 : decode cX8_check 80 = .ok (.iconst 2, 1) := by decide +kernel
theorem dX8_check_81 : decode cX8_check 81 = .ok (.iload 5, 2) := by decide +kernel
theorem dX8_check_83 : decode cX8_check 83 = .ok (.imul, 1) := by decide +kernel
theorem dX8_check_84 : decode cX8_check 84 = .ok (.iload_n 3, 1) := by decide +kernel
theorem dX8_check_85 : decode cX8_check 85 = .ok (.if_icmp .ge 98, 3) := by decide +kernel
theorem dX8_check_88 : decode cX8_check 88 = .ok (.iload 4, 2) := by decide +kernel
theorem dX8_check_90 : decode cX8_check 90 = .ok (.iconst 2, 1) := by decide +kernel
theorem dX8_check_91 : decode cX8_check 91 = .ok (.iload 5, 2) := by decide +kernel
theorem dX8_check_93 : decode cX8_check 93 = .ok (.imul, 1) := by decide +kernel
theorem dX8_check_94 : decode cX8_check 94 = .ok (.if_icmp .ne 89, 3) := by decide +kernel
theorem dX8_check_97 : decode cX8_check 97 = .ok (.aload_n 0, 1) := by decide +kernel
theorem dX8_check_98 : decode cX8_check 98 = .ok (.invokevirtual 155, 3) := by decide +kernel
theorem dX8_check_101 : decode cX8_check 101 = .ok (.istore 6, 2) := by decide +kernel
theorem dX8_check_103 : decode cX8_check 103 = .ok (.iload 4, 2) := by decide +kernel
theorem dX8_check_105 : decode cX8_check 105 = .ok (.iload 4, 2) := by decide +kernel
theorem dX8_check_107 : decode cX8_check 107 = .ok (.iload_n 2, 1) := by decide +kernel
theorem dX8_check_108 : decode cX8_check 108 = .ok (.if_icmp .ge 22, 3) := by decide +kernel
theorem dX8_check_111 : decode cX8_check 111 = .ok (.aload_n 0, 1) := by decide +kernel
theorem dX8_check_112 : decode cX8_check 112 = .ok (.getfield 75, 3) := by decide +kernel
theorem dX8_check_115 : decode cX8_check 115 = .ok (.iload 4, 2) := by decide +kernel
theorem dX8_check_117 : decode cX8_check 117 = .ok (.iaload, 1) := by decide +kernel
theorem dX8_check_118 : decode cX8_check 118 = .ok (.aload_n 0, 1) := by decide +kernel
theorem dX8_check_119 : decode cX8_check 119 = .ok (.iconst 5, 1) := by decide +kernel
theorem dX8_check_120 : decode cX8_check 120 = .ok (.invokevirtual 161, 3) := by decide +kernel
theorem dX8_check_123 : decode cX8_check 123 = .ok (.if_icmp .ne 7, 3) := by decide +kernel
theorem dX8_check_126 : decode cX8_check 126 = .ok (.iconst 1, 1) := by decide +kernel
theorem dX8_check_127 : decode cX8_check 127 = .ok (.goto 4, 3) := by decide +kernel
theorem dX8_check_130 : decode cX8_check 130 = .ok (.iconst 0, 1) := by decide +kernel
theorem dX8_check_131 : decode cX8_check 131 = .ok (.iadd, 1) := by decide +kernel
theorem dX8_check_132 : decode cX8_check 132 = .ok (.istore 4, 2) := by decide +kernel
theorem dX8_check_134 : decode cX8_check 134 = .ok (.iload 4, 2) := by decide +kernel
theorem dX8_check_136 : decode cX8_check 136 = .ok (.iload 4, 2) := by decide +kernel
theorem dX8_check_138 : decode cX8_check 138 = .ok (.iconst 2, 1) := by decide +kernel
theorem dX8_check_139 : decode cX8_check 139 = .ok (.iload 5, 2) := by decide +kernel
theorem dX8_check_141 : decode cX8_check 141 = .ok (.imul, 1) := by decide +kernel
theorem dX8_check_142 : decode cX8_check 142 = .ok (.iconst 1, 1) := by decide +kernel
theorem dX8_check_143 : decode cX8_check 143 = .ok (.iadd, 1) := by decide +kernel
theorem dX8_check_144 : decode cX8_check 144 = .ok (.if_icmp .ne 29, 3) := by decide +kernel
theorem dX8_check_147 : decode cX8_check 147 = .ok (.iload 4, 2) := by decide +kernel
theorem dX8_check_149 : decode cX8_check 149 = .ok (.iload_n 2, 1) := by decide +kernel
theorem dX8_check_150 : decode cX8_check 150 = .ok (.if_icmp .ge 23, 3) := by decide +kernel
theorem dX8_check_153 : decode cX8_check 153 = .ok (.aload_n 0, 1) := by decide +kernel
theorem dX8_check_154 : decode cX8_check 154 = .ok (.getfield 75, 3) := by decide +kernel
theorem dX8_check_157 : decode cX8_check 157 = .ok (.iload 4, 2) := by decide +kernel
theorem dX8_check_159 : decode cX8_check 159 = .ok (.iaload, 1) := by decide +kernel
theorem dX8_check_160 : decode cX8_check 160 = .ok (.aload_n 0, 1) := by decide +kernel
theorem dX8_check_161 : decode cX8_check 161 = .ok (.bipush 6, 2) := by decide +kernel
theorem dX8_check_163 : decode cX8_check 163 = .ok (.invokevirtual 161, 3) := by decide +kernel
theorem dX8_check_166 : decode cX8_check 166 = .ok (.if_icmp .ne 7, 3) := by decide +kernel
theorem dX8_check_169 : decode cX8_check 169 = .ok (.iconst 1, 1) := by decide +kernel
theorem dX8_check_170 : decode cX8_check 170 = .ok (.goto 4, 3) := by decide +kernel
theorem dX8_check_173 : decode cX8_check 173 = .ok (.iconst 0, 1) := by decide +kernel
theorem dX8_check_174 : decode cX8_check 174 = .ok (.iadd, 1) := by decide +kernel
theorem dX8_check_175 : decode cX8_check 175 = .ok (.istore 4, 2) := by decide +kernel
theorem dX8_check_177 : decode cX8_check 177 = .ok (.iinc 5 1, 3) := by decide +kernel
theorem dX8_check_180 : decode cX8_check 180 = .ok (.goto (-100), 3) := by decide +kernel
theorem dX8_check_183 : decode cX8_check 183 = .ok (.aload_n 0, 1) := by decide +kernel
theorem dX8_check_184 : decode cX8_check 184 = .ok (.getfield 16, 3) := by decide +kernel
theorem dX8_check_187 : decode cX8_check 187 = .ok (.aload_n 0, 1) := by decide +kernel
theorem dX8_check_188 : decode cX8_check 188 = .ok (.getfield 9, 3) := by decide +kernel
theorem dX8_check_191 : decode cX8_check 191 = .ok (.invokestatic 270, 3) := by decide +kernel
theorem dX8_check_194 : decode cX8_check 194 = .ok (.iload 4, 2) := by decide +kernel
theorem dX8_check_196 : decode cX8_check 196 = .ok (.iload_n 2, 1) := by decide +kernel
theorem dX8_check_197 : decode cX8_check 197 = .ok (.if_icmp .ne 13, 3) := by decide +kernel
theorem dX8_check_200 : decode cX8_check 200 = .ok (.iload 4, 2) := by decide +kernel
theorem dX8_check_202 : decode cX8_check 202 = .ok (.iload_n 3, 1) := by decide +kernel
theorem dX8_check_203 : decode cX8_check 203 = .ok (.if_icmp .ne 7, 3) := by decide +kernel
theorem dX8_check_206 : decode cX8_check 206 = .ok (.iconst 0, 1) := by decide +kernel
theorem dX8_check_207 : decode cX8_check 207 = .ok (.goto 7, 3) := by decide +kernel
theorem dX8_check_210 : decode cX8_check 210 = .ok (.iconst 1, 1) := by decide +kernel
theorem dX8_check_211 : decode cX8_check 211 = .ok (.iload 4, 2) := by decide +kernel
theorem dX8_check_213 : decode cX8_check 213 = .ok (.iadd, 1) := by decide +kernel
theorem dX8_check_214 : decode cX8_check 214 = .ok (.ireturn, 1) := by decide +kernel
theorem dX8_keep_0 : decode cX8_keep 0 = .ok (.aload_n 0, 1) := by decide +kernel
theorem dX8_keep_1 : decode cX8_keep 1 = .ok (.getfield 9, 3) := by decide +kernel
theorem dX8_keep_4 : decode cX8_keep 4 = .ok (.aload_n 0, 1) := by decide +kernel
theorem dX8_keep_5 : decode cX8_keep 5 = .ok (.getfield 13, 3) := by decide +kernel
theorem dX8_keep_8 : decode cX8_keep 8 = .ok (.invokestatic 270, 3) := by decide +kernel
theorem dX8_keep_11 : decode cX8_keep 11 = .ok (.aload_n 0, 1) := by decide +kernel
theorem dX8_keep_12 : decode cX8_keep 12 = .ok (.iconst 1, 1) := by decide +kernel
theorem dX8_keep_13 : decode cX8_keep 13 = .ok (.putfield 266, 3) := by decide +kernel
theorem dX8_keep_16 : decode cX8_keep 16 = .ok (.aload_n 0, 1) := by decide +kernel
theorem dX8_keep_17 : decode cX8_keep 17 = .ok (.getfield 9, 3) := by decide +kernel
theorem dX8_keep_20 : decode cX8_keep 20 = .ok (.iconst 1, 1) := by decide +kernel
theorem dX8_keep_21 : decode cX8_keep 21 = .ok (.iaload, 1) := by decide +kernel
theorem dX8_keep_22 : decode cX8_keep 22 = .ok (.ireturn, 1) := by decide +kernel
theorem dX8_back_0 : decode cX8_back 0 = .ok (.aload_n 0, 1) := by decide +kernel
theorem dX8_back_1 : decode cX8_back 1 = .ok (.getfield 266, 3) := by decide +kernel
theorem dX8_back_4 : decode cX8_back 4 = .ok (.ifCond .ne 7, 3) := by decide +kernel
theorem dX8_back_7 : decode cX8_back 7 = .ok (.ldc_w 262, 3) := by decide +kernel
theorem dX8_back_10 : decode cX8_back 10 = .ok (.ireturn, 1) := by decide +kernel
theorem dX8_back_11 : decode cX8_back 11 = .ok (.aload_n 0, 1) := by decide +kernel
theorem dX8_back_12 : decode cX8_back 12 = .ok (.getfield 13, 3) := by decide +kernel
theorem dX8_back_15 : decode cX8_back 15 = .ok (.aload_n 0, 1) := by decide +kernel
theorem dX8_back_16 : decode cX8_back 16 = .ok (.getfield 9, 3) := by decide +kernel
theorem dX8_back_19 : decode cX8_back 19 = .ok (.invokestatic 270, 3) := by decide +kernel
theorem dX8_back_22 : decode cX8_back 22 = .ok (.aload_n 0, 1) := by decide +kernel
theorem dX8_back_23 : decode cX8_back 23 = .ok (.getfield 9, 3) := by decide +kernel
theorem dX8_back_26 : decode cX8_back 26 = .ok (.iconst 1, 1) := by decide +kernel
theorem dX8_back_27 : decode cX8_back 27 = .ok (.iaload, 1) := by decide +kernel
theorem dX8_back_28 : decode cX8_back 28 = .ok (.ireturn, 1) := by decide +kernel
theorem dX8_count_0 : decode cX8_count 0 = .ok (.iload_n 1, 1) := by decide +kernel
theorem dX8_count_1 : decode cX8_count 1 = .ok (.tableswitch 94 0 7 #[47, 54, 61, 61, 70, 77, 82, 87], 47) := by decide +kernel
theorem dX8_count_48 : decode cX8_count 48 = .ok (.aload_n 0, 1) := by decide +kernel
theorem dX8_count_49 : decode cX8_count 49 = .ok (.getfield 9, 3) := by decide +kernel
theorem dX8_count_52 : decode cX8_count 52 = .ok (.iconst 1, 1) := by decide +kernel
theorem dX8_count_53 : decode cX8_count 53 = .ok (.iaload, 1) := by decide +kernel
theorem dX8_count_54 : decode cX8_count 54 = .ok (.ireturn, 1) := by decide +kernel
theorem dX8_count_55 : decode cX8_count 55 = .ok (.aload_n 0, 1) := by decide +kernel
theorem dX8_count_56 : decode cX8_count 56 = .ok (.getfield 9, 3) := by decide +kernel
theorem dX8_count_59 : decode cX8_count 59 = .ok (.iconst 2, 1) := by decide +kernel
theorem dX8_count_60 : decode cX8_count 60 = .ok (.iaload, 1) := by decide +kernel
theorem dX8_count_61 : decode cX8_count 61 = .ok (.ireturn, 1) := by decide +kernel
theorem dX8_count_62 : decode cX8_count 62 = .ok (.aload_n 0, 1) := by decide +kernel
theorem dX8_count_63 : decode cX8_count 63 = .ok (.getfield 9, 3) := by decide +kernel
theorem dX8_count_66 : decode cX8_count 66 = .ok (.iconst 1, 1) := by decide +kernel
theorem dX8_count_67 : decode cX8_count 67 = .ok (.iload_n 1, 1) := by decide +kernel
theorem dX8_count_68 : decode cX8_count 68 = .ok (.iadd, 1) := by decide +kernel
theorem dX8_count_69 : decode cX8_count 69 = .ok (.iaload, 1) := by decide +kernel
theorem dX8_count_70 : decode cX8_count 70 = .ok (.ireturn, 1) := by decide +kernel
theorem dX8_count_71 : decode cX8_count 71 = .ok (.aload_n 0, 1) := by decide +kernel
theorem dX8_count_72 : decode cX8_count 72 = .ok (.getfield 9, 3) := by decide +kernel
theorem dX8_count_75 : decode cX8_count 75 = .ok (.iconst 5, 1) := by decide +kernel
theorem dX8_count_76 : decode cX8_count 76 = .ok (.iaload, 1) := by decide +kernel
theorem dX8_count_77 : decode cX8_count 77 = .ok (.ireturn, 1) := by decide +kernel
theorem dX8_count_78 : decode cX8_count 78 = .ok (.aload_n 0, 1) := by decide +kernel
theorem dX8_count_79 : decode cX8_count 79 = .ok (.getfield 263, 3) := by decide +kernel
theorem dX8_count_82 : decode cX8_count 82 = .ok (.ireturn, 1) := by decide +kernel
theorem dX8_count_83 : decode cX8_count 83 = .ok (.aload_n 0, 1) := by decide +kernel
theorem dX8_count_84 : decode cX8_count 84 = .ok (.getfield 186, 3) := by decide +kernel
theorem dX8_count_87 : decode cX8_count 87 = .ok (.ireturn, 1) := by decide +kernel
theorem dX8_count_88 : decode cX8_count 88 = .ok (.aload_n 0, 1) := by decide +kernel
theorem dX8_count_89 : decode cX8_count 89 = .ok (.getfield 9, 3) := by decide +kernel
theorem dX8_count_92 : decode cX8_count 92 = .ok (.iconst 0, 1) := by decide +kernel
theorem dX8_count_93 : decode cX8_count 93 = .ok (.iaload, 1) := by decide +kernel
theorem dX8_count_94 : decode cX8_count 94 = .ok (.ireturn, 1) := by decide +kernel
theorem dX8_count_95 : decode cX8_count 95 = .ok (.ldc 90, 2) := by decide +kernel
theorem dX8_count_97 : decode cX8_count 97 = .ok (.ireturn, 1) := by decide +kernel
