theorem dL_law_0 : decode cL_law 0 = .ok (.new 15, 3) := by decide +kernel
theorem dL_law_3 : decode cL_law 3 = .ok (.dup, 1) := by decide +kernel
theorem dL_law_4 : decode cL_law 4 = .ok (.invokespecial 119, 3) := by decide +kernel
theorem dL_law_7 : decode cL_law 7 = .ok (.astore_n 1, 1) := by decide +kernel
theorem dL_law_8 : decode cL_law 8 = .ok (.iconst 3, 1) := by decide +kernel
theorem dL_law_9 : decode cL_law 9 = .ok (.newarray .int, 2) := by decide +kernel
theorem dL_law_11 : decode cL_law 11 = .ok (.astore_n 2, 1) := by decide +kernel
theorem dL_law_12 : decode cL_law 12 = .ok (.iconst 2, 1) := by decide +kernel
theorem dL_law_13 : decode cL_law 13 = .ok (.newarray .int, 2) := by decide +kernel
theorem dL_law_15 : decode cL_law 15 = .ok (.astore_n 3, 1) := by decide +kernel
theorem dL_law_16 : decode cL_law 16 = .ok (.bipush 6, 2) := by decide +kernel
theorem dL_law_18 : decode cL_law 18 = .ok (.newarray .int, 2) := by decide +kernel
theorem dL_law_20 : decode cL_law 20 = .ok (.astore 4, 2) := by decide +kernel
theorem dL_law_22 : decode cL_law 22 = .ok (.iconst 1, 1) := by decide +kernel
theorem dL_law_23 : decode cL_law 23 = .ok (.istore 5, 2) := by decide +kernel
theorem dL_law_25 : decode cL_law 25 = .ok (.lconst 0, 1) := by decide +kernel
theorem dL_law_26 : decode cL_law 26 = .ok (.lstore 6, 2) := by decide +kernel
theorem dL_law_28 : decode cL_law 28 = .ok (.iconst 0, 1) := by decide +kernel
theorem dL_law_29 : decode cL_law 29 = .ok (.istore 8, 2) := by decide +kernel
theorem dL_law_31 : decode cL_law 31 = .ok (.iconst 0, 1) := by decide +kernel
theorem dL_law_32 : decode cL_law 32 = .ok (.istore 9, 2) := by decide +kernel
theorem dL_law_34 : decode cL_law 34 = .ok (.iload 9, 2) := by decide +kernel
theorem dL_law_36 : decode cL_law 36 = .ok (.iconst 3, 1) := by decide +kernel
theorem dL_law_37 : decode cL_law 37 = .ok (.if_icmp .ge 48, 3) := by decide +kernel
theorem dL_law_40 : decode cL_law 40 = .ok (.aload_n 2, 1) := by decide +kernel
theorem dL_law_41 : decode cL_law 41 = .ok (.iload 9, 2) := by decide +kernel
theorem dL_law_43 : decode cL_law 43 = .ok (.iconst 1, 1) := by decide +kernel
theorem dL_law_44 : decode cL_law 44 = .ok (.aload_n 0, 1) := by decide +kernel
theorem dL_law_45 : decode cL_law 45 = .ok (.iload 8, 2) := by decide +kernel
theorem dL_law_47 : decode cL_law 47 = .ok (.iconst 5, 1) := by decide +kernel
theorem dL_law_48 : decode cL_law 48 = .ok (.invokestatic 120, 3) := by decide +kernel
theorem dL_law_51 : decode cL_law 51 = .ok (.iadd, 1) := by decide +kernel
theorem dL_law_52 : decode cL_law 52 = .ok (.iastore, 1) := by decide +kernel
theorem dL_law_53 : decode cL_law 53 = .ok (.iload 5, 2) := by decide +kernel
theorem dL_law_55 : decode cL_law 55 = .ok (.aload_n 1, 1) := by decide +kernel
theorem dL_law_56 : decode cL_law 56 = .ok (.aload_n 2, 1) := by decide +kernel
theorem dL_law_57 : decode cL_law 57 = .ok (.iload 9, 2) := by decide +kernel
theorem dL_law_59 : decode cL_law 59 = .ok (.iaload, 1) := by decide +kernel
theorem dL_law_60 : decode cL_law 60 = .ok (.invokestatic 124, 3) := by decide +kernel
theorem dL_law_63 : decode cL_law 63 = .ok (.iload 9, 2) := by decide +kernel
theorem dL_law_65 : decode cL_law 65 = .ok (.if_icmp .ne 7, 3) := by decide +kernel
theorem dL_law_68 : decode cL_law 68 = .ok (.iconst 1, 1) := by decide +kernel
theorem dL_law_69 : decode cL_law 69 = .ok (.goto 4, 3) := by decide +kernel
theorem dL_law_72 : decode cL_law 72 = .ok (.iconst 0, 1) := by decide +kernel
theorem dL_law_73 : decode cL_law 73 = .ok (.iand, 1) := by decide +kernel
theorem dL_law_74 : decode cL_law 74 = .ok (.istore 5, 2) := by decide +kernel
theorem dL_law_76 : decode cL_law 76 = .ok (.iinc 8 1, 3) := by decide +kernel
theorem dL_law_79 : decode cL_law 79 = .ok (.iinc 9 1, 3) := by decide +kernel
theorem dL_law_82 : decode cL_law 82 = .ok (.goto (-48), 3) := by decide +kernel
theorem dL_law_85 : decode cL_law 85 = .ok (.iconst 0, 1) := by decide +kernel
theorem dL_law_86 : decode cL_law 86 = .ok (.istore 9, 2) := by decide +kernel
theorem dL_law_88 : decode cL_law 88 = .ok (.iload 9, 2) := by decide +kernel
theorem dL_law_90 : decode cL_law 90 = .ok (.iconst 2, 1) := by decide +kernel
theorem dL_law_91 : decode cL_law 91 = .ok (.if_icmp .ge 72, 3) := by decide +kernel
theorem dL_law_94 : decode cL_law 94 = .ok (.aload_n 3, 1) := by decide +kernel
theorem dL_law_95 : decode cL_law 95 = .ok (.iload 9, 2) := by decide +kernel
theorem dL_law_97 : decode cL_law 97 = .ok (.iconst 1, 1) := by decide +kernel
theorem dL_law_98 : decode cL_law 98 = .ok (.aload_n 0, 1) := by decide +kernel
theorem dL_law_99 : decode cL_law 99 = .ok (.iload 8, 2) := by decide +kernel
theorem dL_law_101 : decode cL_law 101 = .ok (.bipush 9, 2) := by decide +kernel
theorem dL_law_103 : decode cL_law 103 = .ok (.invokestatic 120, 3) := by decide +kernel
theorem dL_law_106 : decode cL_law 106 = .ok (.iadd, 1) := by decide +kernel
theorem dL_law_107 : decode cL_law 107 = .ok (.iastore, 1) := by decide +kernel
theorem dL_law_108 : decode cL_law 108 = .ok (.aload_n 0, 1) := by decide +kernel
theorem dL_law_109 : decode cL_law 109 = .ok (.iload 8, 2) := by decide +kernel
theorem dL_law_111 : decode cL_law 111 = .ok (.iconst 1, 1) := by decide +kernel
theorem dL_law_112 : decode cL_law 112 = .ok (.iadd, 1) := by decide +kernel
theorem dL_law_113 : decode cL_law 113 = .ok (.sipush 200, 3) := by decide +kernel
theorem dL_law_116 : decode cL_law 116 = .ok (.invokestatic 120, 3) := by decide +kernel
theorem dL_law_119 : decode cL_law 119 = .ok (.istore 10, 2) := by decide +kernel
theorem dL_law_121 : decode cL_law 121 = .ok (.lload 6, 2) := by decide +kernel
theorem dL_law_123 : decode cL_law 123 = .ok (.iload 10, 2) := by decide +kernel
theorem dL_law_125 : decode cL_law 125 = .ok (.i2l, 1) := by decide +kernel
theorem dL_law_126 : decode cL_law 126 = .ok (.ladd, 1) := by decide +kernel
theorem dL_law_127 : decode cL_law 127 = .ok (.lstore 6, 2) := by decide +kernel
theorem dL_law_129 : decode cL_law 129 = .ok (.iload 5, 2) := by decide +kernel
theorem dL_law_131 : decode cL_law 131 = .ok (.aload_n 1, 1) := by decide +kernel
theorem dL_law_132 : decode cL_law 132 = .ok (.aload_n 3, 1) := by decide +kernel
theorem dL_law_133 : decode cL_law 133 = .ok (.iload 9, 2) := by decide +kernel
theorem dL_law_135 : decode cL_law 135 = .ok (.iaload, 1) := by decide +kernel
theorem dL_law_136 : decode cL_law 136 = .ok (.iload 10, 2) := by decide +kernel
theorem dL_law_138 : decode cL_law 138 = .ok (.invokestatic 127, 3) := by decide +kernel
theorem dL_law_141 : decode cL_law 141 = .ok (.iload 9, 2) := by decide +kernel
theorem dL_law_143 : decode cL_law 143 = .ok (.if_icmp .ne 7, 3) := by decide +kernel
theorem dL_law_146 : decode cL_law 146 = .ok (.iconst 1, 1) := by decide +kernel
theorem dL_law_147 : decode cL_law 147 = .ok (.goto 4, 3) := by decide +kernel
theorem dL_law_150 : decode cL_law 150 = .ok (.iconst 0, 1) := by decide +kernel
theorem dL_law_151 : decode cL_law 151 = .ok (.iand, 1) := by decide +kernel
theorem dL_law_152 : decode cL_law 152 = .ok (.istore 5, 2) := by decide +kernel
theorem dL_law_154 : decode cL_law 154 = .ok (.iinc 8 2, 3) := by decide +kernel
theorem dL_law_157 : decode cL_law 157 = .ok (.iinc 9 1, 3) := by decide +kernel
theorem dL_law_160 : decode cL_law 160 = .ok (.goto (-72), 3) := by decide +kernel
theorem dL_law_163 : decode cL_law 163 = .ok (.iconst 0, 1) := by decide +kernel
theorem dL_law_164 : decode cL_law 164 = .ok (.istore 9, 2) := by decide +kernel
theorem dL_law_166 : decode cL_law 166 = .ok (.iload 9, 2) := by decide +kernel
theorem dL_law_168 : decode cL_law 168 = .ok (.bipush 6, 2) := by decide +kernel
theorem dL_law_170 : decode cL_law 170 = .ok (.if_icmp .ge 15, 3) := by decide +kernel
theorem dL_law_173 : decode cL_law 173 = .ok (.aload 4, 2) := by decide +kernel
theorem dL_law_175 : decode cL_law 175 = .ok (.iload 9, 2) := by decide +kernel
theorem dL_law_177 : decode cL_law 177 = .ok (.iconst (-1), 1) := by decide +kernel
theorem dL_law_178 : decode cL_law 178 = .ok (.iastore, 1) := by decide +kernel
theorem dL_law_179 : decode cL_law 179 = .ok (.iinc 9 1, 3) := by decide +kernel
theorem dL_law_182 : decode cL_law 182 = .ok (.goto (-16), 3) := by decide +kernel
theorem dL_law_185 : decode cL_law 185 = .ok (.iconst 0, 1) := by decide +kernel
theorem dL_law_186 : decode cL_law 186 = .ok (.istore 9, 2) := by decide +kernel
theorem dL_law_188 : decode cL_law 188 = .ok (.iconst 0, 1) := by decide +kernel
theorem dL_law_189 : decode cL_law 189 = .ok (.istore 10, 2) := by decide +kernel
theorem dL_law_191 : decode cL_law 191 = .ok (.iload 10, 2) := by decide +kernel
theorem dL_law_193 : decode cL_law 193 = .ok (.bipush 110, 2) := by decide +kernel
theorem dL_law_195 : decode cL_law 195 = .ok (.if_icmp .ge 712, 3) := by decide +kernel
theorem dL_law_198 : decode cL_law 198 = .ok (.iload 5, 2) := by decide +kernel
theorem dL_law_200 : decode cL_law 200 = .ok (.ifCond .eq 707, 3) := by decide +kernel
theorem dL_law_203 : decode cL_law 203 = .ok (.aload_n 1, 1) := by decide +kernel
theorem dL_law_204 : decode cL_law 204 = .ok (.invokestatic 130, 3) := by decide +kernel
theorem dL_law_207 : decode cL_law 207 = .ok (.lstore 11, 2) := by decide +kernel
theorem dL_law_209 : decode cL_law 209 = .ok (.aload_n 0, 1) := by decide +kernel
theorem dL_law_210 : decode cL_law 210 = .ok (.iload 8, 2) := by decide +kernel
theorem dL_law_212 : decode cL_law 212 = .ok (.bipush 24, 2) := by decide +kernel
theorem dL_law_214 : decode cL_law 214 = .ok (.invokestatic 120, 3) := by decide +kernel
theorem dL_law_217 : decode cL_law 217 = .ok (.istore 13, 2) := by decide +kernel
theorem dL_law_219 : decode cL_law 219 = .ok (.aload_n 0, 1) := by decide +kernel
theorem dL_law_220 : decode cL_law 220 = .ok (.iload 8, 2) := by decide +kernel
theorem dL_law_222 : decode cL_law 222 = .ok (.iconst 1, 1) := by decide +kernel
theorem dL_law_223 : decode cL_law 223 = .ok (.iadd, 1) := by decide +kernel
theorem dL_law_224 : decode cL_law 224 = .ok (.bipush 40, 2) := by decide +kernel
theorem dL_law_226 : decode cL_law 226 = .ok (.invokestatic 120, 3) := by decide +kernel
theorem dL_law_229 : decode cL_law 229 = .ok (.ifCond .ne 7, 3) := by decide +kernel
theorem dL_law_232 : decode cL_law 232 = .ok (.iconst 3, 1) := by decide +kernel
theorem dL_law_233 : decode cL_law 233 = .ok (.goto 12, 3) := by decide +kernel
theorem dL_law_236 : decode cL_law 236 = .ok (.aload_n 0, 1) := by decide +kernel
theorem dL_law_237 : decode cL_law 237 = .ok (.iload 8, 2) := by decide +kernel
theorem dL_law_239 : decode cL_law 239 = .ok (.iconst 1, 1) := by decide +kernel
theorem dL_law_240 : decode cL_law 240 = .ok (.iadd, 1) := by decide +kernel
theorem dL_law_241 : decode cL_law 241 = .ok (.iconst 3, 1) := by decide +kernel
theorem dL_law_242 : decode cL_law 242 = .ok (.invokestatic 120, 3) := by decide +kernel
theorem dL_law_245 : decode cL_law 245 = .ok (.istore 14, 2) := by decide +kernel
theorem dL_law_247 : decode cL_law 247 = .ok (.aload_n 0, 1) := by decide +kernel
theorem dL_law_248 : decode cL_law 248 = .ok (.iload 8, 2) := by decide +kernel
theorem dL_law_250 : decode cL_law 250 = .ok (.iconst 2, 1) := by decide +kernel
theorem dL_law_251 : decode cL_law 251 = .ok (.iadd, 1) := by decide +kernel
theorem dL_law_252 : decode cL_law 252 = .ok (.bipush 40, 2) := by decide +kernel
theorem dL_law_254 : decode cL_law 254 = .ok (.invokestatic 120, 3) := by decide +kernel
theorem dL_law_257 : decode cL_law 257 = .ok (.ifCond .ne 7, 3) := by decide +kernel
theorem dL_law_260 : decode cL_law 260 = .ok (.iconst 2, 1) := by decide +kernel
theorem dL_law_261 : decode cL_law 261 = .ok (.goto 12, 3) := by decide +kernel
theorem dL_law_264 : decode cL_law 264 = .ok (.aload_n 0, 1) := by decide +kernel
theorem dL_law_265 : decode cL_law 265 = .ok (.iload 8, 2) := by decide +kernel
theorem dL_law_267 : decode cL_law 267 = .ok (.iconst 2, 1) := by decide +kernel
theorem dL_law_268 : decode cL_law 268 = .ok (.iadd, 1) := by decide +kernel
theorem dL_law_269 : decode cL_law 269 = .ok (.iconst 2, 1) := by decide +kernel
theorem dL_law_270 : decode cL_law 270 = .ok (.invokestatic 120, 3) := by decide +kernel
theorem dL_law_273 : decode cL_law 273 = .ok (.istore 15, 2) := by decide +kernel
theorem dL_law_275 : decode cL_law 275 = .ok (.aload_n 0, 1) := by decide +kernel
theorem dL_law_276 : decode cL_law 276 = .ok (.iload 8, 2) := by decide +kernel
theorem dL_law_278 : decode cL_law 278 = .ok (.iconst 3, 1) := by decide +kernel
theorem dL_law_279 : decode cL_law 279 = .ok (.iadd, 1) := by decide +kernel
theorem dL_law_280 : decode cL_law 280 = .ok (.sipush 1000, 3) := by decide +kernel
theorem dL_law_283 : decode cL_law 283 = .ok (.invokestatic 120, 3) := by decide +kernel
theorem dL_law_286 : decode cL_law 286 = .ok (.istore 16, 2) := by decide +kernel
theorem dL_law_288 : decode cL_law 288 = .ok (.iconst 0, 1) := by decide +kernel
theorem dL_law_289 : decode cL_law 289 = .ok (.istore 17, 2) := by decide +kernel
theorem dL_law_291 : decode cL_law 291 = .ok (.iload 13, 2) := by decide +kernel
theorem dL_law_293 : decode cL_law 293 = .ok (.iconst 3, 1) := by decide +kernel
theorem dL_law_294 : decode cL_law 294 = .ok (.if_icmp .ge 121, 3) := by decide +kernel
theorem dL_law_297 : decode cL_law 297 = .ok (.iload 16, 2) := by decide +kernel
theorem dL_law_299 : decode cL_law 299 = .ok (.bipush 50, 2) := by decide +kernel
theorem dL_law_301 : decode cL_law 301 = .ok (.irem, 1) := by decide +kernel
theorem dL_law_302 : decode cL_law 302 = .ok (.istore 18, 2) := by decide +kernel
theorem dL_law_304 : decode cL_law 304 = .ok (.aload_n 1, 1) := by decide +kernel
theorem dL_law_305 : decode cL_law 305 = .ok (.iload 14, 2) := by decide +kernel
theorem dL_law_307 : decode cL_law 307 = .ok (.iload 15, 2) := by decide +kernel
theorem dL_law_309 : decode cL_law 309 = .ok (.iload 18, 2) := by decide +kernel
theorem dL_law_311 : decode cL_law 311 = .ok (.bipush 9, 2) := by decide +kernel
theorem dL_law_313 : decode cL_law 313 = .ok (.iload 16, 2) := by decide +kernel
theorem dL_law_315 : decode cL_law 315 = .ok (.imul, 1) := by decide +kernel
theorem dL_law_316 : decode cL_law 316 = .ok (.invokestatic 134, 3) := by decide +kernel
theorem dL_law_319 : decode cL_law 319 = .ok (.istore 17, 2) := by decide +kernel
theorem dL_law_321 : decode cL_law 321 = .ok (.iload 17, 2) := by decide +kernel
theorem dL_law_323 : decode cL_law 323 = .ok (.ifCond .le 89, 3) := by decide +kernel
theorem dL_law_326 : decode cL_law 326 = .ok (.lload 6, 2) := by decide +kernel
theorem dL_law_328 : decode cL_law 328 = .ok (.iload 18, 2) := by decide +kernel
theorem dL_law_330 : decode cL_law 330 = .ok (.i2l, 1) := by decide +kernel
theorem dL_law_331 : decode cL_law 331 = .ok (.ladd, 1) := by decide +kernel
theorem dL_law_332 : decode cL_law 332 = .ok (.lstore 6, 2) := by decide +kernel
theorem dL_law_334 : decode cL_law 334 = .ok (.aload 4, 2) := by decide +kernel
theorem dL_law_336 : decode cL_law 336 = .ok (.iconst 2, 1) := by decide +kernel
theorem dL_law_337 : decode cL_law 337 = .ok (.iload 14, 2) := by decide +kernel
theorem dL_law_339 : decode cL_law 339 = .ok (.imul, 1) := by decide +kernel
theorem dL_law_340 : decode cL_law 340 = .ok (.iload 15, 2) := by decide +kernel
theorem dL_law_342 : decode cL_law 342 = .ok (.iadd, 1) := by decide +kernel
theorem dL_law_343 : decode cL_law 343 = .ok (.iconst 0, 1) := by decide +kernel
theorem dL_law_344 : decode cL_law 344 = .ok (.iastore, 1) := by decide +kernel
theorem dL_law_345 : decode cL_law 345 = .ok (.aload_n 1, 1) := by decide +kernel
theorem dL_law_346 : decode cL_law 346 = .ok (.iload 14, 2) := by decide +kernel
theorem dL_law_348 : decode cL_law 348 = .ok (.iload 15, 2) := by decide +kernel
theorem dL_law_350 : decode cL_law 350 = .ok (.invokestatic 137, 3) := by decide +kernel
theorem dL_law_353 : decode cL_law 353 = .ok (.iconst 1, 1) := by decide +kernel
theorem dL_law_354 : decode cL_law 354 = .ok (.if_icmp .ne 55, 3) := by decide +kernel
theorem dL_law_357 : decode cL_law 357 = .ok (.aload_n 1, 1) := by decide +kernel
theorem dL_law_358 : decode cL_law 358 = .ok (.iload 14, 2) := by decide +kernel
theorem dL_law_360 : decode cL_law 360 = .ok (.iload 15, 2) := by decide +kernel
theorem dL_law_362 : decode cL_law 362 = .ok (.invokestatic 139, 3) := by decide +kernel
theorem dL_law_365 : decode cL_law 365 = .ok (.iload 18, 2) := by decide +kernel
theorem dL_law_367 : decode cL_law 367 = .ok (.if_icmp .ne 42, 3) := by decide +kernel
theorem dL_law_370 : decode cL_law 370 = .ok (.aload_n 1, 1) := by decide +kernel
theorem dL_law_371 : decode cL_law 371 = .ok (.iload 14, 2) := by decide +kernel
theorem dL_law_373 : decode cL_law 373 = .ok (.iload 15, 2) := by decide +kernel
theorem dL_law_375 : decode cL_law 375 = .ok (.invokestatic 141, 3) := by decide +kernel
theorem dL_law_378 : decode cL_law 378 = .ok (.bipush 9, 2) := by decide +kernel
theorem dL_law_380 : decode cL_law 380 = .ok (.iload 16, 2) := by decide +kernel
theorem dL_law_382 : decode cL_law 382 = .ok (.imul, 1) := by decide +kernel
theorem dL_law_383 : decode cL_law 383 = .ok (.if_icmp .ne 26, 3) := by decide +kernel
theorem dL_law_386 : decode cL_law 386 = .ok (.aload_n 1, 1) := by decide +kernel
theorem dL_law_387 : decode cL_law 387 = .ok (.iload 14, 2) := by decide +kernel
theorem dL_law_389 : decode cL_law 389 = .ok (.iload 15, 2) := by decide +kernel
theorem dL_law_391 : decode cL_law 391 = .ok (.iload 16, 2) := by decide +kernel
theorem dL_law_393 : decode cL_law 393 = .ok (.bipush 7, 2) := by decide +kernel
theorem dL_law_395 : decode cL_law 395 = .ok (.irem, 1) := by decide +kernel
theorem dL_law_396 : decode cL_law 396 = .ok (.invokestatic 143, 3) := by decide +kernel
theorem dL_law_399 : decode cL_law 399 = .ok (.sipush 1000, 3) := by decide +kernel
theorem dL_law_402 : decode cL_law 402 = .ok (.if_icmp .ne 7, 3) := by decide +kernel
theorem dL_law_405 : decode cL_law 405 = .ok (.iconst 1, 1) := by decide +kernel
theorem dL_law_406 : decode cL_law 406 = .ok (.goto 4, 3) := by decide +kernel
theorem dL_law_409 : decode cL_law 409 = .ok (.iconst 0, 1) := by decide +kernel
theorem dL_law_410 : decode cL_law 410 = .ok (.istore 5, 2) := by decide +kernel
theorem dL_law_412 : decode cL_law 412 = .ok (.goto 426, 3) := by decide +kernel
theorem dL_law_415 : decode cL_law 415 = .ok (.iload 13, 2) := by decide +kernel
theorem dL_law_417 : decode cL_law 417 = .ok (.bipush 6, 2) := by decide +kernel
theorem dL_law_419 : decode cL_law 419 = .ok (.if_icmp .ge 62, 3) := by decide +kernel
theorem dL_law_422 : decode cL_law 422 = .ok (.aload_n 1, 1) := by decide +kernel
theorem dL_law_423 : decode cL_law 423 = .ok (.iload 15, 2) := by decide +kernel
theorem dL_law_425 : decode cL_law 425 = .ok (.iload 16, 2) := by decide +kernel
theorem dL_law_427 : decode cL_law 427 = .ok (.bipush 60, 2) := by decide +kernel
theorem dL_law_429 : decode cL_law 429 = .ok (.irem, 1) := by decide +kernel
theorem dL_law_430 : decode cL_law 430 = .ok (.invokestatic 146, 3) := by decide +kernel
theorem dL_law_433 : decode cL_law 433 = .ok (.istore 17, 2) := by decide +kernel
theorem dL_law_435 : decode cL_law 435 = .ok (.lload 6, 2) := by decide +kernel
theorem dL_law_437 : decode cL_law 437 = .ok (.iload 17, 2) := by decide +kernel
theorem dL_law_439 : decode cL_law 439 = .ok (.ifCond .ge 7, 3) := by decide +kernel
theorem dL_law_442 : decode cL_law 442 = .ok (.lconst 0, 1) := by decide +kernel
theorem dL_law_443 : decode cL_law 443 = .ok (.goto 9, 3) := by decide +kernel
theorem dL_law_446 : decode cL_law 446 = .ok (.iload 16, 2) := by decide +kernel
theorem dL_law_448 : decode cL_law 448 = .ok (.bipush 60, 2) := by decide +kernel
theorem dL_law_450 : decode cL_law 450 = .ok (.irem, 1) := by decide +kernel
theorem dL_law_451 : decode cL_law 451 = .ok (.i2l, 1) := by decide +kernel
theorem dL_law_452 : decode cL_law 452 = .ok (.ladd, 1) := by decide +kernel
theorem dL_law_453 : decode cL_law 453 = .ok (.lstore 6, 2) := by decide +kernel
theorem dL_law_455 : decode cL_law 455 = .ok (.iload 17, 2) := by decide +kernel
theorem dL_law_457 : decode cL_law 457 = .ok (.ifCond .lt 14, 3) := by decide +kernel
theorem dL_law_460 : decode cL_law 460 = .ok (.iload 17, 2) := by decide +kernel
theorem dL_law_462 : decode cL_law 462 = .ok (.aload_n 1, 1) := by decide +kernel
theorem dL_law_463 : decode cL_law 463 = .ok (.iload 15, 2) := by decide +kernel
theorem dL_law_465 : decode cL_law 465 = .ok (.invokestatic 148, 3) := by decide +kernel
theorem dL_law_468 : decode cL_law 468 = .ok (.if_icmp .ne 7, 3) := by decide +kernel
theorem dL_law_471 : decode cL_law 471 = .ok (.iconst 1, 1) := by decide +kernel
theorem dL_law_472 : decode cL_law 472 = .ok (.goto 4, 3) := by decide +kernel
theorem dL_law_475 : decode cL_law 475 = .ok (.iconst 0, 1) := by decide +kernel
theorem dL_law_476 : decode cL_law 476 = .ok (.istore 5, 2) := by decide +kernel
theorem dL_law_478 : decode cL_law 478 = .ok (.goto 360, 3) := by decide +kernel
theorem dL_law_481 : decode cL_law 481 = .ok (.iload 13, 2) := by decide +kernel
theorem dL_law_483 : decode cL_law 483 = .ok (.bipush 6, 2) := by decide +kernel
theorem dL_law_485 : decode cL_law 485 = .ok (.if_icmp .ne 17, 3) := by decide +kernel
theorem dL_law_488 : decode cL_law 488 = .ok (.aload_n 1, 1) := by decide +kernel
theorem dL_law_489 : decode cL_law 489 = .ok (.iload 16, 2) := by decide +kernel
theorem dL_law_491 : decode cL_law 491 = .ok (.bipush 101, 2) := by decide +kernel
theorem dL_law_493 : decode cL_law 493 = .ok (.irem, 1) := by decide +kernel
theorem dL_law_494 : decode cL_law 494 = .ok (.invokestatic 150, 3) := by decide +kernel
theorem dL_law_497 : decode cL_law 497 = .ok (.istore 17, 2) := by decide +kernel
theorem dL_law_499 : decode cL_law 499 = .ok (.goto 339, 3) := by decide +kernel
theorem dL_law_502 : decode cL_law 502 = .ok (.iload 13, 2) := by decide +kernel
theorem dL_law_504 : decode cL_law 504 = .ok (.bipush 7, 2) := by decide +kernel
theorem dL_law_506 : decode cL_law 506 = .ok (.if_icmp .ne 22, 3) := by decide +kernel
theorem dL_law_509 : decode cL_law 509 = .ok (.aload_n 1, 1) := by decide +kernel
theorem dL_law_510 : decode cL_law 510 = .ok (.iload 16, 2) := by decide +kernel
theorem dL_law_512 : decode cL_law 512 = .ok (.bipush 101, 2) := by decide +kernel
theorem dL_law_514 : decode cL_law 514 = .ok (.irem, 1) := by decide +kernel
theorem dL_law_515 : decode cL_law 515 = .ok (.iload 16, 2) := by decide +kernel
theorem dL_law_517 : decode cL_law 517 = .ok (.bipush 60, 2) := by decide +kernel
theorem dL_law_519 : decode cL_law 519 = .ok (.irem, 1) := by decide +kernel
theorem dL_law_520 : decode cL_law 520 = .ok (.invokestatic 152, 3) := by decide +kernel
theorem dL_law_523 : decode cL_law 523 = .ok (.istore 17, 2) := by decide +kernel
theorem dL_law_525 : decode cL_law 525 = .ok (.goto 313, 3) := by decide +kernel
theorem dL_law_528 : decode cL_law 528 = .ok (.iload 13, 2) := by decide +kernel
theorem dL_law_530 : decode cL_law 530 = .ok (.bipush 8, 2) := by decide +kernel
theorem dL_law_532 : decode cL_law 532 = .ok (.if_icmp .ne 54, 3) := by decide +kernel
theorem dL_law_535 : decode cL_law 535 = .ok (.aload_n 1, 1) := by decide +kernel
theorem dL_law_536 : decode cL_law 536 = .ok (.iload 15, 2) := by decide +kernel
theorem dL_law_538 : decode cL_law 538 = .ok (.aload_n 1, 1) := by decide +kernel
theorem dL_law_539 : decode cL_law 539 = .ok (.invokevirtual 154, 3) := by decide +kernel
theorem dL_law_542 : decode cL_law 542 = .ok (.iload 16, 2) := by decide +kernel
theorem dL_law_544 : decode cL_law 544 = .ok (.iconst 3, 1) := by decide +kernel
theorem dL_law_545 : decode cL_law 545 = .ok (.irem, 1) := by decide +kernel
theorem dL_law_546 : decode cL_law 546 = .ok (.iadd, 1) := by decide +kernel
theorem dL_law_547 : decode cL_law 547 = .ok (.invokestatic 157, 3) := by decide +kernel
theorem dL_law_550 : decode cL_law 550 = .ok (.istore 17, 2) := by decide +kernel
theorem dL_law_552 : decode cL_law 552 = .ok (.iload 17, 2) := by decide +kernel
theorem dL_law_554 : decode cL_law 554 = .ok (.ifCond .lt 22, 3) := by decide +kernel
theorem dL_law_557 : decode cL_law 557 = .ok (.aload_n 1, 1) := by decide +kernel
theorem dL_law_558 : decode cL_law 558 = .ok (.iload 15, 2) := by decide +kernel
theorem dL_law_560 : decode cL_law 560 = .ok (.aload_n 1, 1) := by decide +kernel
theorem dL_law_561 : decode cL_law 561 = .ok (.invokevirtual 154, 3) := by decide +kernel
theorem dL_law_564 : decode cL_law 564 = .ok (.iload 16, 2) := by decide +kernel
theorem dL_law_566 : decode cL_law 566 = .ok (.iconst 3, 1) := by decide +kernel
theorem dL_law_567 : decode cL_law 567 = .ok (.irem, 1) := by decide +kernel
theorem dL_law_568 : decode cL_law 568 = .ok (.iadd, 1) := by decide +kernel
theorem dL_law_569 : decode cL_law 569 = .ok (.invokestatic 159, 3) := by decide +kernel
theorem dL_law_572 : decode cL_law 572 = .ok (.iconst 1, 1) := by decide +kernel
theorem dL_law_573 : decode cL_law 573 = .ok (.if_icmp .ne 7, 3) := by decide +kernel
theorem dL_law_576 : decode cL_law 576 = .ok (.iconst 1, 1) := by decide +kernel
theorem dL_law_577 : decode cL_law 577 = .ok (.goto 4, 3) := by decide +kernel
theorem dL_law_580 : decode cL_law 580 = .ok (.iconst 0, 1) := by decide +kernel
theorem dL_law_581 : decode cL_law 581 = .ok (.istore 5, 2) := by decide +kernel
theorem dL_law_583 : decode cL_law 583 = .ok (.goto 255, 3) := by decide +kernel
theorem dL_law_586 : decode cL_law 586 = .ok (.iload 13, 2) := by decide +kernel
theorem dL_law_588 : decode cL_law 588 = .ok (.bipush 17, 2) := by decide +kernel
theorem dL_law_590 : decode cL_law 590 = .ok (.if_icmp .ge 151, 3) := by decide +kernel
theorem dL_law_593 : decode cL_law 593 = .ok (.aload_n 1, 1) := by decide +kernel
theorem dL_law_594 : decode cL_law 594 = .ok (.iload 14, 2) := by decide +kernel
theorem dL_law_596 : decode cL_law 596 = .ok (.iload 15, 2) := by decide +kernel
theorem dL_law_598 : decode cL_law 598 = .ok (.invokestatic 139, 3) := by decide +kernel
theorem dL_law_601 : decode cL_law 601 = .ok (.istore 18, 2) := by decide +kernel
theorem dL_law_603 : decode cL_law 603 = .ok (.aload_n 1, 1) := by decide +kernel
theorem dL_law_604 : decode cL_law 604 = .ok (.iload 14, 2) := by decide +kernel
theorem dL_law_606 : decode cL_law 606 = .ok (.iload 15, 2) := by decide +kernel
theorem dL_law_608 : decode cL_law 608 = .ok (.invokestatic 161, 3) := by decide +kernel
theorem dL_law_611 : decode cL_law 611 = .ok (.istore 19, 2) := by decide +kernel
theorem dL_law_613 : decode cL_law 613 = .ok (.aload_n 1, 1) := by decide +kernel
theorem dL_law_614 : decode cL_law 614 = .ok (.iload 14, 2) := by decide +kernel
theorem dL_law_616 : decode cL_law 616 = .ok (.iload 15, 2) := by decide +kernel
theorem dL_law_618 : decode cL_law 618 = .ok (.invokestatic 163, 3) := by decide +kernel
theorem dL_law_621 : decode cL_law 621 = .ok (.istore 20, 2) := by decide +kernel
theorem dL_law_623 : decode cL_law 623 = .ok (.iload 16, 2) := by decide +kernel
theorem dL_law_625 : decode cL_law 625 = .ok (.bipush 31, 2) := by decide +kernel
theorem dL_law_627 : decode cL_law 627 = .ok (.irem, 1) := by decide +kernel
theorem dL_law_628 : decode cL_law 628 = .ok (.ifCond .ne 7, 3) := by decide +kernel
theorem dL_law_631 : decode cL_law 631 = .ok (.iconst 0, 1) := by decide +kernel
theorem dL_law_632 : decode cL_law 632 = .ok (.goto 10, 3) := by decide +kernel
theorem dL_law_635 : decode cL_law 635 = .ok (.iconst 1, 1) := by decide +kernel
theorem dL_law_636 : decode cL_law 636 = .ok (.iload 16, 2) := by decide +kernel
theorem dL_law_638 : decode cL_law 638 = .ok (.bipush 20, 2) := by decide +kernel
theorem dL_law_640 : decode cL_law 640 = .ok (.irem, 1) := by decide +kernel
theorem dL_law_641 : decode cL_law 641 = .ok (.iadd, 1) := by decide +kernel
theorem dL_law_642 : decode cL_law 642 = .ok (.istore 21, 2) := by decide +kernel
theorem dL_law_644 : decode cL_law 644 = .ok (.aload_n 1, 1) := by decide +kernel
theorem dL_law_645 : decode cL_law 645 = .ok (.iload 14, 2) := by decide +kernel
theorem dL_law_647 : decode cL_law 647 = .ok (.iload 15, 2) := by decide +kernel
theorem dL_law_649 : decode cL_law 649 = .ok (.iload 21, 2) := by decide +kernel
theorem dL_law_651 : decode cL_law 651 = .ok (.invokestatic 165, 3) := by decide +kernel
theorem dL_law_654 : decode cL_law 654 = .ok (.istore 17, 2) := by decide +kernel
theorem dL_law_656 : decode cL_law 656 = .ok (.iload 17, 2) := by decide +kernel
theorem dL_law_658 : decode cL_law 658 = .ok (.ifCond .lt 80, 3) := by decide +kernel
theorem dL_law_661 : decode cL_law 661 = .ok (.iload 9, 2) := by decide +kernel
theorem dL_law_663 : decode cL_law 663 = .ok (.iload 17, 2) := by decide +kernel
theorem dL_law_665 : decode cL_law 665 = .ok (.iadd, 1) := by decide +kernel
theorem dL_law_666 : decode cL_law 666 = .ok (.istore 9, 2) := by decide +kernel
theorem dL_law_668 : decode cL_law 668 = .ok (.iload 17, 2) := by decide +kernel
theorem dL_law_670 : decode cL_law 670 = .ok (.iload 21, 2) := by decide +kernel
theorem dL_law_672 : decode cL_law 672 = .ok (.iload 18, 2) := by decide +kernel
theorem dL_law_674 : decode cL_law 674 = .ok (.invokestatic 167, 3) := by decide +kernel
theorem dL_law_677 : decode cL_law 677 = .ok (.if_icmp .ne 58, 3) := by decide +kernel
theorem dL_law_680 : decode cL_law 680 = .ok (.aload_n 1, 1) := by decide +kernel
theorem dL_law_681 : decode cL_law 681 = .ok (.iload 14, 2) := by decide +kernel
theorem dL_law_683 : decode cL_law 683 = .ok (.iload 15, 2) := by decide +kernel
theorem dL_law_685 : decode cL_law 685 = .ok (.invokestatic 139, 3) := by decide +kernel
theorem dL_law_688 : decode cL_law 688 = .ok (.iload 18, 2) := by decide +kernel
theorem dL_law_690 : decode cL_law 690 = .ok (.iload 17, 2) := by decide +kernel
theorem dL_law_692 : decode cL_law 692 = .ok (.isub, 1) := by decide +kernel
theorem dL_law_693 : decode cL_law 693 = .ok (.if_icmp .ne 42, 3) := by decide +kernel
theorem dL_law_696 : decode cL_law 696 = .ok (.aload_n 1, 1) := by decide +kernel
theorem dL_law_697 : decode cL_law 697 = .ok (.iload 14, 2) := by decide +kernel
theorem dL_law_699 : decode cL_law 699 = .ok (.iload 15, 2) := by decide +kernel
theorem dL_law_701 : decode cL_law 701 = .ok (.invokestatic 161, 3) := by decide +kernel
theorem dL_law_704 : decode cL_law 704 = .ok (.iload 19, 2) := by decide +kernel
theorem dL_law_706 : decode cL_law 706 = .ok (.iload 21, 2) := by decide +kernel
theorem dL_law_708 : decode cL_law 708 = .ok (.iadd, 1) := by decide +kernel
theorem dL_law_709 : decode cL_law 709 = .ok (.if_icmp .ne 26, 3) := by decide +kernel
theorem dL_law_712 : decode cL_law 712 = .ok (.aload_n 1, 1) := by decide +kernel
theorem dL_law_713 : decode cL_law 713 = .ok (.iload 14, 2) := by decide +kernel
theorem dL_law_715 : decode cL_law 715 = .ok (.iload 15, 2) := by decide +kernel
theorem dL_law_717 : decode cL_law 717 = .ok (.invokestatic 163, 3) := by decide +kernel
theorem dL_law_720 : decode cL_law 720 = .ok (.iload 20, 2) := by decide +kernel
theorem dL_law_722 : decode cL_law 722 = .ok (.iload 21, 2) := by decide +kernel
theorem dL_law_724 : decode cL_law 724 = .ok (.iadd, 1) := by decide +kernel
theorem dL_law_725 : decode cL_law 725 = .ok (.iload 17, 2) := by decide +kernel
theorem dL_law_727 : decode cL_law 727 = .ok (.isub, 1) := by decide +kernel
theorem dL_law_728 : decode cL_law 728 = .ok (.if_icmp .ne 7, 3) := by decide +kernel
theorem dL_law_731 : decode cL_law 731 = .ok (.iconst 1, 1) := by decide +kernel
theorem dL_law_732 : decode cL_law 732 = .ok (.goto 4, 3) := by decide +kernel
theorem dL_law_735 : decode cL_law 735 = .ok (.iconst 0, 1) := by decide +kernel
theorem dL_law_736 : decode cL_law 736 = .ok (.istore 5, 2) := by decide +kernel
theorem dL_law_738 : decode cL_law 738 = .ok (.goto 100, 3) := by decide +kernel
theorem dL_law_741 : decode cL_law 741 = .ok (.aload_n 1, 1) := by decide +kernel
theorem dL_law_742 : decode cL_law 742 = .ok (.invokevirtual 154, 3) := by decide +kernel
theorem dL_law_745 : decode cL_law 745 = .ok (.istore 18, 2) := by decide +kernel
theorem dL_law_747 : decode cL_law 747 = .ok (.iconst 0, 1) := by decide +kernel
theorem dL_law_748 : decode cL_law 748 = .ok (.istore 19, 2) := by decide +kernel
theorem dL_law_750 : decode cL_law 750 = .ok (.iload 19, 2) := by decide +kernel
theorem dL_law_752 : decode cL_law 752 = .ok (.bipush 6, 2) := by decide +kernel
theorem dL_law_754 : decode cL_law 754 = .ok (.if_icmp .ge 43, 3) := by decide +kernel
theorem dL_law_757 : decode cL_law 757 = .ok (.aload 4, 2) := by decide +kernel
theorem dL_law_759 : decode cL_law 759 = .ok (.iload 19, 2) := by decide +kernel
theorem dL_law_761 : decode cL_law 761 = .ok (.dup2, 1) := by decide +kernel
theorem dL_law_762 : decode cL_law 762 = .ok (.iaload, 1) := by decide +kernel
theorem dL_law_763 : decode cL_law 763 = .ok (.aload 4, 2) := by decide +kernel
theorem dL_law_765 : decode cL_law 765 = .ok (.iload 19, 2) := by decide +kernel
theorem dL_law_767 : decode cL_law 767 = .ok (.iaload, 1) := by decide +kernel
theorem dL_law_768 : decode cL_law 768 = .ok (.ifCond .lt 20, 3) := by decide +kernel
theorem dL_law_771 : decode cL_law 771 = .ok (.aload_n 1, 1) := by decide +kernel
theorem dL_law_772 : decode cL_law 772 = .ok (.iload 19, 2) := by decide +kernel
theorem dL_law_774 : decode cL_law 774 = .ok (.iconst 2, 1) := by decide +kernel
theorem dL_law_775 : decode cL_law 775 = .ok (.irem, 1) := by decide +kernel
theorem dL_law_776 : decode cL_law 776 = .ok (.iload 18, 2) := by decide +kernel
theorem dL_law_778 : decode cL_law 778 = .ok (.invokestatic 159, 3) := by decide +kernel
theorem dL_law_781 : decode cL_law 781 = .ok (.ifCond .ne 7, 3) := by decide +kernel
theorem dL_law_784 : decode cL_law 784 = .ok (.iconst 1, 1) := by decide +kernel
theorem dL_law_785 : decode cL_law 785 = .ok (.goto 4, 3) := by decide +kernel
theorem dL_law_788 : decode cL_law 788 = .ok (.iconst 0, 1) := by decide +kernel
theorem dL_law_789 : decode cL_law 789 = .ok (.iadd, 1) := by decide +kernel
theorem dL_law_790 : decode cL_law 790 = .ok (.iastore, 1) := by decide +kernel
theorem dL_law_791 : decode cL_law 791 = .ok (.iinc 19 1, 3) := by decide +kernel
theorem dL_law_794 : decode cL_law 794 = .ok (.goto (-44), 3) := by decide +kernel
theorem dL_law_797 : decode cL_law 797 = .ok (.aload_n 1, 1) := by decide +kernel
theorem dL_law_798 : decode cL_law 798 = .ok (.invokestatic 172, 3) := by decide +kernel
theorem dL_law_801 : decode cL_law 801 = .ok (.istore 17, 2) := by decide +kernel
theorem dL_law_803 : decode cL_law 803 = .ok (.iload 17, 2) := by decide +kernel
theorem dL_law_805 : decode cL_law 805 = .ok (.ifCond .lt 30, 3) := by decide +kernel
theorem dL_law_808 : decode cL_law 808 = .ok (.aload_n 1, 1) := by decide +kernel
theorem dL_law_809 : decode cL_law 809 = .ok (.invokevirtual 154, 3) := by decide +kernel
theorem dL_law_812 : decode cL_law 812 = .ok (.iload 18, 2) := by decide +kernel
theorem dL_law_814 : decode cL_law 814 = .ok (.iconst 1, 1) := by decide +kernel
theorem dL_law_815 : decode cL_law 815 = .ok (.iadd, 1) := by decide +kernel
theorem dL_law_816 : decode cL_law 816 = .ok (.if_icmp .ne 19, 3) := by decide +kernel
theorem dL_law_819 : decode cL_law 819 = .ok (.aload_n 1, 1) := by decide +kernel
theorem dL_law_820 : decode cL_law 820 = .ok (.aload_n 2, 1) := by decide +kernel
theorem dL_law_821 : decode cL_law 821 = .ok (.iload 18, 2) := by decide +kernel
theorem dL_law_823 : decode cL_law 823 = .ok (.iconst 1, 1) := by decide +kernel
theorem dL_law_824 : decode cL_law 824 = .ok (.iadd, 1) := by decide +kernel
theorem dL_law_825 : decode cL_law 825 = .ok (.invokestatic 175, 3) := by decide +kernel
theorem dL_law_828 : decode cL_law 828 = .ok (.ifCond .eq 7, 3) := by decide +kernel
theorem dL_law_831 : decode cL_law 831 = .ok (.iconst 1, 1) := by decide +kernel
theorem dL_law_832 : decode cL_law 832 = .ok (.goto 4, 3) := by decide +kernel
theorem dL_law_835 : decode cL_law 835 = .ok (.iconst 0, 1) := by decide +kernel
theorem dL_law_836 : decode cL_law 836 = .ok (.istore 5, 2) := by decide +kernel
theorem dL_law_838 : decode cL_law 838 = .ok (.iinc 8 4, 3) := by decide +kernel
theorem dL_law_841 : decode cL_law 841 = .ok (.iload 5, 2) := by decide +kernel
theorem dL_law_843 : decode cL_law 843 = .ok (.iload 17, 2) := by decide +kernel
theorem dL_law_845 : decode cL_law 845 = .ok (.ifCond .ge 13, 3) := by decide +kernel
theorem dL_law_848 : decode cL_law 848 = .ok (.aload_n 1, 1) := by decide +kernel
theorem dL_law_849 : decode cL_law 849 = .ok (.invokestatic 130, 3) := by decide +kernel
theorem dL_law_852 : decode cL_law 852 = .ok (.lload 11, 2) := by decide +kernel
theorem dL_law_854 : decode cL_law 854 = .ok (.lcmp, 1) := by decide +kernel
theorem dL_law_855 : decode cL_law 855 = .ok (.ifCond .ne 7, 3) := by decide +kernel
theorem dL_law_858 : decode cL_law 858 = .ok (.iconst 1, 1) := by decide +kernel
theorem dL_law_859 : decode cL_law 859 = .ok (.goto 4, 3) := by decide +kernel
theorem dL_law_862 : decode cL_law 862 = .ok (.iconst 0, 1) := by decide +kernel
theorem dL_law_863 : decode cL_law 863 = .ok (.iand, 1) := by decide +kernel
theorem dL_law_864 : decode cL_law 864 = .ok (.istore 5, 2) := by decide +kernel
theorem dL_law_866 : decode cL_law 866 = .ok (.iload 5, 2) := by decide +kernel
theorem dL_law_868 : decode cL_law 868 = .ok (.aload_n 1, 1) := by decide +kernel
theorem dL_law_869 : decode cL_law 869 = .ok (.invokevirtual 179, 3) := by decide +kernel
theorem dL_law_872 : decode cL_law 872 = .ok (.lload 6, 2) := by decide +kernel
theorem dL_law_874 : decode cL_law 874 = .ok (.iload 9, 2) := by decide +kernel
theorem dL_law_876 : decode cL_law 876 = .ok (.i2l, 1) := by decide +kernel
theorem dL_law_877 : decode cL_law 877 = .ok (.lsub, 1) := by decide +kernel
theorem dL_law_878 : decode cL_law 878 = .ok (.lcmp, 1) := by decide +kernel
theorem dL_law_879 : decode cL_law 879 = .ok (.ifCond .ne 18, 3) := by decide +kernel
theorem dL_law_882 : decode cL_law 882 = .ok (.aload_n 1, 1) := by decide +kernel
theorem dL_law_883 : decode cL_law 883 = .ok (.aload_n 3, 1) := by decide +kernel
theorem dL_law_884 : decode cL_law 884 = .ok (.aload_n 2, 1) := by decide +kernel
theorem dL_law_885 : decode cL_law 885 = .ok (.aload 4, 2) := by decide +kernel
theorem dL_law_887 : decode cL_law 887 = .ok (.invokestatic 183, 3) := by decide +kernel
theorem dL_law_890 : decode cL_law 890 = .ok (.ifCond .eq 7, 3) := by decide +kernel
theorem dL_law_893 : decode cL_law 893 = .ok (.iconst 1, 1) := by decide +kernel
theorem dL_law_894 : decode cL_law 894 = .ok (.goto 4, 3) := by decide +kernel
theorem dL_law_897 : decode cL_law 897 = .ok (.iconst 0, 1) := by decide +kernel
theorem dL_law_898 : decode cL_law 898 = .ok (.iand, 1) := by decide +kernel
theorem dL_law_899 : decode cL_law 899 = .ok (.istore 5, 2) := by decide +kernel
theorem dL_law_901 : decode cL_law 901 = .ok (.iinc 10 1, 3) := by decide +kernel
theorem dL_law_904 : decode cL_law 904 = .ok (.goto (-713), 3) := by decide +kernel
theorem dL_law_907 : decode cL_law 907 = .ok (.iload 5, 2) := by decide +kernel
theorem dL_law_909 : decode cL_law 909 = .ok (.ireturn, 1) := by decide +kernel
