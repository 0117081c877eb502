theorem dL_beats_0 : decode cL_beats 0 = .ok (.aload_n 0, 1) := by decide +kernel
theorem dL_beats_1 : decode cL_beats 1 = .ok (.bipush 6, 2) := by decide +kernel
theorem dL_beats_3 : decode cL_beats 3 = .ok (.invokestatic 115, 3) := by decide +kernel
theorem dL_beats_6 : decode cL_beats 6 = .ok (.istore_n 1, 1) := by decide +kernel
theorem dL_beats_7 : decode cL_beats 7 = .ok (.iconst 0, 1) := by decide +kernel
theorem dL_beats_8 : decode cL_beats 8 = .ok (.istore_n 2, 1) := by decide +kernel
theorem dL_beats_9 : decode cL_beats 9 = .ok (.iconst 0, 1) := by decide +kernel
theorem dL_beats_10 : decode cL_beats 10 = .ok (.istore_n 3, 1) := by decide +kernel
theorem dL_beats_11 : decode cL_beats 11 = .ok (.iconst 0, 1) := by decide +kernel
theorem dL_beats_12 : decode cL_beats 12 = .ok (.istore 4, 2) := by decide +kernel
theorem dL_beats_14 : decode cL_beats 14 = .ok (.iconst 0, 1) := by decide +kernel
theorem dL_beats_15 : decode cL_beats 15 = .ok (.istore 5, 2) := by decide +kernel
theorem dL_beats_17 : decode cL_beats 17 = .ok (.iconst 0, 1) := by decide +kernel
theorem dL_beats_18 : decode cL_beats 18 = .ok (.istore 6, 2) := by decide +kernel
theorem dL_beats_20 : decode cL_beats 20 = .ok (.iconst 4, 1) := by decide +kernel
theorem dL_beats_21 : decode cL_beats 21 = .ok (.newarray .int, 2) := by decide +kernel
theorem dL_beats_23 : decode cL_beats 23 = .ok (.astore 7, 2) := by decide +kernel
theorem dL_beats_25 : decode cL_beats 25 = .ok (.iconst 1, 1) := by decide +kernel
theorem dL_beats_26 : decode cL_beats 26 = .ok (.istore 8, 2) := by decide +kernel
theorem dL_beats_28 : decode cL_beats 28 = .ok (.iconst 0, 1) := by decide +kernel
theorem dL_beats_29 : decode cL_beats 29 = .ok (.istore 9, 2) := by decide +kernel
theorem dL_beats_31 : decode cL_beats 31 = .ok (.iload 9, 2) := by decide +kernel
theorem dL_beats_33 : decode cL_beats 33 = .ok (.aload_n 0, 1) := by decide +kernel
theorem dL_beats_34 : decode cL_beats 34 = .ok (.bipush 7, 2) := by decide +kernel
theorem dL_beats_36 : decode cL_beats 36 = .ok (.invokestatic 115, 3) := by decide +kernel
theorem dL_beats_39 : decode cL_beats 39 = .ok (.if_icmp .ge 1197, 3) := by decide +kernel
theorem dL_beats_42 : decode cL_beats 42 = .ok (.iload 8, 2) := by decide +kernel
theorem dL_beats_44 : decode cL_beats 44 = .ok (.ifCond .eq 1192, 3) := by decide +kernel
theorem dL_beats_47 : decode cL_beats 47 = .ok (.aload_n 0, 1) := by decide +kernel
theorem dL_beats_48 : decode cL_beats 48 = .ok (.iload 9, 2) := by decide +kernel
theorem dL_beats_50 : decode cL_beats 50 = .ok (.iconst 0, 1) := by decide +kernel
theorem dL_beats_51 : decode cL_beats 51 = .ok (.invokestatic 161, 3) := by decide +kernel
theorem dL_beats_54 : decode cL_beats 54 = .ok (.istore 10, 2) := by decide +kernel
theorem dL_beats_56 : decode cL_beats 56 = .ok (.iconst 0, 1) := by decide +kernel
theorem dL_beats_57 : decode cL_beats 57 = .ok (.istore 11, 2) := by decide +kernel
theorem dL_beats_59 : decode cL_beats 59 = .ok (.iconst 0, 1) := by decide +kernel
theorem dL_beats_60 : decode cL_beats 60 = .ok (.istore 12, 2) := by decide +kernel
theorem dL_beats_62 : decode cL_beats 62 = .ok (.iconst 0, 1) := by decide +kernel
theorem dL_beats_63 : decode cL_beats 63 = .ok (.istore 13, 2) := by decide +kernel
theorem dL_beats_65 : decode cL_beats 65 = .ok (.iload 13, 2) := by decide +kernel
theorem dL_beats_67 : decode cL_beats 67 = .ok (.iconst 2, 1) := by decide +kernel
theorem dL_beats_68 : decode cL_beats 68 = .ok (.if_icmp .ge 404, 3) := by decide +kernel
theorem dL_beats_71 : decode cL_beats 71 = .ok (.iload 8, 2) := by decide +kernel
theorem dL_beats_73 : decode cL_beats 73 = .ok (.ifCond .eq 399, 3) := by decide +kernel
theorem dL_beats_76 : decode cL_beats 76 = .ok (.iconst 0, 1) := by decide +kernel
theorem dL_beats_77 : decode cL_beats 77 = .ok (.istore 14, 2) := by decide +kernel
theorem dL_beats_79 : decode cL_beats 79 = .ok (.bipush 99, 2) := by decide +kernel
theorem dL_beats_81 : decode cL_beats 81 = .ok (.istore 15, 2) := by decide +kernel
theorem dL_beats_83 : decode cL_beats 83 = .ok (.iconst (-1), 1) := by decide +kernel
theorem dL_beats_84 : decode cL_beats 84 = .ok (.istore 16, 2) := by decide +kernel
theorem dL_beats_86 : decode cL_beats 86 = .ok (.iconst 0, 1) := by decide +kernel
theorem dL_beats_87 : decode cL_beats 87 = .ok (.istore 17, 2) := by decide +kernel
theorem dL_beats_89 : decode cL_beats 89 = .ok (.iconst 0, 1) := by decide +kernel
theorem dL_beats_90 : decode cL_beats 90 = .ok (.istore 18, 2) := by decide +kernel
theorem dL_beats_92 : decode cL_beats 92 = .ok (.iload 18, 2) := by decide +kernel
theorem dL_beats_94 : decode cL_beats 94 = .ok (.iload_n 1, 1) := by decide +kernel
theorem dL_beats_95 : decode cL_beats 95 = .ok (.if_icmp .ge 95, 3) := by decide +kernel
theorem dL_beats_98 : decode cL_beats 98 = .ok (.aload_n 0, 1) := by decide +kernel
theorem dL_beats_99 : decode cL_beats 99 = .ok (.iload 18, 2) := by decide +kernel
theorem dL_beats_101 : decode cL_beats 101 = .ok (.iload 9, 2) := by decide +kernel
theorem dL_beats_103 : decode cL_beats 103 = .ok (.iconst 0, 1) := by decide +kernel
theorem dL_beats_104 : decode cL_beats 104 = .ok (.invokestatic 155, 3) := by decide +kernel
theorem dL_beats_107 : decode cL_beats 107 = .ok (.iload 13, 2) := by decide +kernel
theorem dL_beats_109 : decode cL_beats 109 = .ok (.if_icmp .ne 75, 3) := by decide +kernel
theorem dL_beats_112 : decode cL_beats 112 = .ok (.aload_n 0, 1) := by decide +kernel
theorem dL_beats_113 : decode cL_beats 113 = .ok (.iload 18, 2) := by decide +kernel
theorem dL_beats_115 : decode cL_beats 115 = .ok (.iload 9, 2) := by decide +kernel
theorem dL_beats_117 : decode cL_beats 117 = .ok (.iconst 1, 1) := by decide +kernel
theorem dL_beats_118 : decode cL_beats 118 = .ok (.invokestatic 127, 3) := by decide +kernel
theorem dL_beats_121 : decode cL_beats 121 = .ok (.istore 19, 2) := by decide +kernel
theorem dL_beats_123 : decode cL_beats 123 = .ok (.iinc 14 1, 3) := by decide +kernel
theorem dL_beats_126 : decode cL_beats 126 = .ok (.iload 19, 2) := by decide +kernel
theorem dL_beats_128 : decode cL_beats 128 = .ok (.iload 15, 2) := by decide +kernel
theorem dL_beats_130 : decode cL_beats 130 = .ok (.if_icmp .ge 8, 3) := by decide +kernel
theorem dL_beats_133 : decode cL_beats 133 = .ok (.iload 19, 2) := by decide +kernel
theorem dL_beats_135 : decode cL_beats 135 = .ok (.goto 5, 3) := by decide +kernel
theorem dL_beats_138 : decode cL_beats 138 = .ok (.iload 15, 2) := by decide +kernel
theorem dL_beats_140 : decode cL_beats 140 = .ok (.istore 15, 2) := by decide +kernel
theorem dL_beats_142 : decode cL_beats 142 = .ok (.iload 19, 2) := by decide +kernel
theorem dL_beats_144 : decode cL_beats 144 = .ok (.iload 16, 2) := by decide +kernel
theorem dL_beats_146 : decode cL_beats 146 = .ok (.if_icmp .le 8, 3) := by decide +kernel
theorem dL_beats_149 : decode cL_beats 149 = .ok (.iload 19, 2) := by decide +kernel
theorem dL_beats_151 : decode cL_beats 151 = .ok (.goto 5, 3) := by decide +kernel
theorem dL_beats_154 : decode cL_beats 154 = .ok (.iload 16, 2) := by decide +kernel
theorem dL_beats_156 : decode cL_beats 156 = .ok (.istore 16, 2) := by decide +kernel
theorem dL_beats_158 : decode cL_beats 158 = .ok (.iload 17, 2) := by decide +kernel
theorem dL_beats_160 : decode cL_beats 160 = .ok (.ifCond .ne 17, 3) := by decide +kernel
theorem dL_beats_163 : decode cL_beats 163 = .ok (.aload_n 0, 1) := by decide +kernel
theorem dL_beats_164 : decode cL_beats 164 = .ok (.iload 18, 2) := by decide +kernel
theorem dL_beats_166 : decode cL_beats 166 = .ok (.iload 9, 2) := by decide +kernel
theorem dL_beats_168 : decode cL_beats 168 = .ok (.iconst 0, 1) := by decide +kernel
theorem dL_beats_169 : decode cL_beats 169 = .ok (.invokestatic 127, 3) := by decide +kernel
theorem dL_beats_172 : decode cL_beats 172 = .ok (.bipush 99, 2) := by decide +kernel
theorem dL_beats_174 : decode cL_beats 174 = .ok (.if_icmp .ne 7, 3) := by decide +kernel
theorem dL_beats_177 : decode cL_beats 177 = .ok (.iconst 1, 1) := by decide +kernel
theorem dL_beats_178 : decode cL_beats 178 = .ok (.goto 4, 3) := by decide +kernel
theorem dL_beats_181 : decode cL_beats 181 = .ok (.iconst 0, 1) := by decide +kernel
theorem dL_beats_182 : decode cL_beats 182 = .ok (.istore 17, 2) := by decide +kernel
theorem dL_beats_184 : decode cL_beats 184 = .ok (.iinc 18 1, 3) := by decide +kernel
theorem dL_beats_187 : decode cL_beats 187 = .ok (.goto (-95), 3) := by decide +kernel
theorem dL_beats_190 : decode cL_beats 190 = .ok (.iload 14, 2) := by decide +kernel
theorem dL_beats_192 : decode cL_beats 192 = .ok (.ifCond .ne 7, 3) := by decide +kernel
theorem dL_beats_195 : decode cL_beats 195 = .ok (.iconst 0, 1) := by decide +kernel
theorem dL_beats_196 : decode cL_beats 196 = .ok (.goto 8, 3) := by decide +kernel
theorem dL_beats_199 : decode cL_beats 199 = .ok (.iload 16, 2) := by decide +kernel
theorem dL_beats_201 : decode cL_beats 201 = .ok (.iload 15, 2) := by decide +kernel
theorem dL_beats_203 : decode cL_beats 203 = .ok (.isub, 1) := by decide +kernel
theorem dL_beats_204 : decode cL_beats 204 = .ok (.istore 18, 2) := by decide +kernel
theorem dL_beats_206 : decode cL_beats 206 = .ok (.iload 18, 2) := by decide +kernel
theorem dL_beats_208 : decode cL_beats 208 = .ok (.aload_n 0, 1) := by decide +kernel
theorem dL_beats_209 : decode cL_beats 209 = .ok (.iload 13, 2) := by decide +kernel
theorem dL_beats_211 : decode cL_beats 211 = .ok (.invokestatic 115, 3) := by decide +kernel
theorem dL_beats_214 : decode cL_beats 214 = .ok (.if_icmp .le 7, 3) := by decide +kernel
theorem dL_beats_217 : decode cL_beats 217 = .ok (.iconst 1, 1) := by decide +kernel
theorem dL_beats_218 : decode cL_beats 218 = .ok (.goto 4, 3) := by decide +kernel
theorem dL_beats_221 : decode cL_beats 221 = .ok (.iconst 0, 1) := by decide +kernel
theorem dL_beats_222 : decode cL_beats 222 = .ok (.istore 19, 2) := by decide +kernel
theorem dL_beats_224 : decode cL_beats 224 = .ok (.iload 9, 2) := by decide +kernel
theorem dL_beats_226 : decode cL_beats 226 = .ok (.ifCond .ne 8, 3) := by decide +kernel
theorem dL_beats_229 : decode cL_beats 229 = .ok (.bipush (-9), 2) := by decide +kernel
theorem dL_beats_231 : decode cL_beats 231 = .ok (.goto 14, 3) := by decide +kernel
theorem dL_beats_234 : decode cL_beats 234 = .ok (.aload_n 0, 1) := by decide +kernel
theorem dL_beats_235 : decode cL_beats 235 = .ok (.iload 13, 2) := by decide +kernel
theorem dL_beats_237 : decode cL_beats 237 = .ok (.iload 9, 2) := by decide +kernel
theorem dL_beats_239 : decode cL_beats 239 = .ok (.iconst 1, 1) := by decide +kernel
theorem dL_beats_240 : decode cL_beats 240 = .ok (.isub, 1) := by decide +kernel
theorem dL_beats_241 : decode cL_beats 241 = .ok (.iconst 1, 1) := by decide +kernel
theorem dL_beats_242 : decode cL_beats 242 = .ok (.invokestatic 158, 3) := by decide +kernel
theorem dL_beats_245 : decode cL_beats 245 = .ok (.istore 20, 2) := by decide +kernel
theorem dL_beats_247 : decode cL_beats 247 = .ok (.iload 14, 2) := by decide +kernel
theorem dL_beats_249 : decode cL_beats 249 = .ok (.ifCond .eq 10, 3) := by decide +kernel
theorem dL_beats_252 : decode cL_beats 252 = .ok (.iload 20, 2) := by decide +kernel
theorem dL_beats_254 : decode cL_beats 254 = .ok (.bipush (-9), 2) := by decide +kernel
theorem dL_beats_256 : decode cL_beats 256 = .ok (.if_icmp .ne 7, 3) := by decide +kernel
theorem dL_beats_259 : decode cL_beats 259 = .ok (.iconst 0, 1) := by decide +kernel
theorem dL_beats_260 : decode cL_beats 260 = .ok (.goto 23, 3) := by decide +kernel
theorem dL_beats_263 : decode cL_beats 263 = .ok (.iload 15, 2) := by decide +kernel
theorem dL_beats_265 : decode cL_beats 265 = .ok (.iload 20, 2) := by decide +kernel
theorem dL_beats_267 : decode cL_beats 267 = .ok (.if_icmp .le 11, 3) := by decide +kernel
theorem dL_beats_270 : decode cL_beats 270 = .ok (.iload 15, 2) := by decide +kernel
theorem dL_beats_272 : decode cL_beats 272 = .ok (.iload 20, 2) := by decide +kernel
theorem dL_beats_274 : decode cL_beats 274 = .ok (.isub, 1) := by decide +kernel
theorem dL_beats_275 : decode cL_beats 275 = .ok (.goto 8, 3) := by decide +kernel
theorem dL_beats_278 : decode cL_beats 278 = .ok (.iload 20, 2) := by decide +kernel
theorem dL_beats_280 : decode cL_beats 280 = .ok (.iload 15, 2) := by decide +kernel
theorem dL_beats_282 : decode cL_beats 282 = .ok (.isub, 1) := by decide +kernel
theorem dL_beats_283 : decode cL_beats 283 = .ok (.istore 21, 2) := by decide +kernel
theorem dL_beats_285 : decode cL_beats 285 = .ok (.aload_n 0, 1) := by decide +kernel
theorem dL_beats_286 : decode cL_beats 286 = .ok (.iload 13, 2) := by decide +kernel
theorem dL_beats_288 : decode cL_beats 288 = .ok (.iload 9, 2) := by decide +kernel
theorem dL_beats_290 : decode cL_beats 290 = .ok (.iconst 0, 1) := by decide +kernel
theorem dL_beats_291 : decode cL_beats 291 = .ok (.invokestatic 158, 3) := by decide +kernel
theorem dL_beats_294 : decode cL_beats 294 = .ok (.iload 14, 2) := by decide +kernel
theorem dL_beats_296 : decode cL_beats 296 = .ok (.if_icmp .ne 134, 3) := by decide +kernel
theorem dL_beats_299 : decode cL_beats 299 = .ok (.iload 14, 2) := by decide +kernel
theorem dL_beats_301 : decode cL_beats 301 = .ok (.iload 13, 2) := by decide +kernel
theorem dL_beats_303 : decode cL_beats 303 = .ok (.ifCond .ne 8, 3) := by decide +kernel
theorem dL_beats_306 : decode cL_beats 306 = .ok (.iload 10, 2) := by decide +kernel
theorem dL_beats_308 : decode cL_beats 308 = .ok (.goto 13, 3) := by decide +kernel
theorem dL_beats_311 : decode cL_beats 311 = .ok (.aload_n 0, 1) := by decide +kernel
theorem dL_beats_312 : decode cL_beats 312 = .ok (.iload 9, 2) := by decide +kernel
theorem dL_beats_314 : decode cL_beats 314 = .ok (.iconst 3, 1) := by decide +kernel
theorem dL_beats_315 : decode cL_beats 315 = .ok (.invokestatic 161, 3) := by decide +kernel
theorem dL_beats_318 : decode cL_beats 318 = .ok (.iload 10, 2) := by decide +kernel
theorem dL_beats_320 : decode cL_beats 320 = .ok (.isub, 1) := by decide +kernel
theorem dL_beats_321 : decode cL_beats 321 = .ok (.if_icmp .ne 109, 3) := by decide +kernel
theorem dL_beats_324 : decode cL_beats 324 = .ok (.aload_n 0, 1) := by decide +kernel
theorem dL_beats_325 : decode cL_beats 325 = .ok (.iload 13, 2) := by decide +kernel
theorem dL_beats_327 : decode cL_beats 327 = .ok (.iload 9, 2) := by decide +kernel
theorem dL_beats_329 : decode cL_beats 329 = .ok (.iconst 1, 1) := by decide +kernel
theorem dL_beats_330 : decode cL_beats 330 = .ok (.invokestatic 158, 3) := by decide +kernel
theorem dL_beats_333 : decode cL_beats 333 = .ok (.iload 14, 2) := by decide +kernel
theorem dL_beats_335 : decode cL_beats 335 = .ok (.ifCond .ne 8, 3) := by decide +kernel
theorem dL_beats_338 : decode cL_beats 338 = .ok (.bipush (-9), 2) := by decide +kernel
theorem dL_beats_340 : decode cL_beats 340 = .ok (.goto 5, 3) := by decide +kernel
theorem dL_beats_343 : decode cL_beats 343 = .ok (.iload 15, 2) := by decide +kernel
theorem dL_beats_345 : decode cL_beats 345 = .ok (.if_icmp .ne 85, 3) := by decide +kernel
theorem dL_beats_348 : decode cL_beats 348 = .ok (.aload_n 0, 1) := by decide +kernel
theorem dL_beats_349 : decode cL_beats 349 = .ok (.iload 13, 2) := by decide +kernel
theorem dL_beats_351 : decode cL_beats 351 = .ok (.iload 9, 2) := by decide +kernel
theorem dL_beats_353 : decode cL_beats 353 = .ok (.iconst 2, 1) := by decide +kernel
theorem dL_beats_354 : decode cL_beats 354 = .ok (.invokestatic 158, 3) := by decide +kernel
theorem dL_beats_357 : decode cL_beats 357 = .ok (.iload 18, 2) := by decide +kernel
theorem dL_beats_359 : decode cL_beats 359 = .ok (.if_icmp .ne 71, 3) := by decide +kernel
theorem dL_beats_362 : decode cL_beats 362 = .ok (.iload 14, 2) := by decide +kernel
theorem dL_beats_364 : decode cL_beats 364 = .ok (.aload_n 0, 1) := by decide +kernel
theorem dL_beats_365 : decode cL_beats 365 = .ok (.iconst 2, 1) := by decide +kernel
theorem dL_beats_366 : decode cL_beats 366 = .ok (.invokestatic 115, 3) := by decide +kernel
theorem dL_beats_369 : decode cL_beats 369 = .ok (.if_icmp .gt 61, 3) := by decide +kernel
theorem dL_beats_372 : decode cL_beats 372 = .ok (.iload 18, 2) := by decide +kernel
theorem dL_beats_374 : decode cL_beats 374 = .ok (.aload_n 0, 1) := by decide +kernel
theorem dL_beats_375 : decode cL_beats 375 = .ok (.iload 13, 2) := by decide +kernel
theorem dL_beats_377 : decode cL_beats 377 = .ok (.invokestatic 115, 3) := by decide +kernel
theorem dL_beats_380 : decode cL_beats 380 = .ok (.iload 17, 2) := by decide +kernel
theorem dL_beats_382 : decode cL_beats 382 = .ok (.ifCond .eq 7, 3) := by decide +kernel
theorem dL_beats_385 : decode cL_beats 385 = .ok (.iconst 0, 1) := by decide +kernel
theorem dL_beats_386 : decode cL_beats 386 = .ok (.goto 8, 3) := by decide +kernel
theorem dL_beats_389 : decode cL_beats 389 = .ok (.aload_n 0, 1) := by decide +kernel
theorem dL_beats_390 : decode cL_beats 390 = .ok (.iconst 3, 1) := by decide +kernel
theorem dL_beats_391 : decode cL_beats 391 = .ok (.invokestatic 115, 3) := by decide +kernel
theorem dL_beats_394 : decode cL_beats 394 = .ok (.iadd, 1) := by decide +kernel
theorem dL_beats_395 : decode cL_beats 395 = .ok (.if_icmp .gt 35, 3) := by decide +kernel
theorem dL_beats_398 : decode cL_beats 398 = .ok (.aload_n 0, 1) := by decide +kernel
theorem dL_beats_399 : decode cL_beats 399 = .ok (.iload 13, 2) := by decide +kernel
theorem dL_beats_401 : decode cL_beats 401 = .ok (.iload 9, 2) := by decide +kernel
theorem dL_beats_403 : decode cL_beats 403 = .ok (.iconst 3, 1) := by decide +kernel
theorem dL_beats_404 : decode cL_beats 404 = .ok (.invokestatic 158, 3) := by decide +kernel
theorem dL_beats_407 : decode cL_beats 407 = .ok (.iload 19, 2) := by decide +kernel
theorem dL_beats_409 : decode cL_beats 409 = .ok (.if_icmp .ne 21, 3) := by decide +kernel
theorem dL_beats_412 : decode cL_beats 412 = .ok (.aload_n 0, 1) := by decide +kernel
theorem dL_beats_413 : decode cL_beats 413 = .ok (.iload 13, 2) := by decide +kernel
theorem dL_beats_415 : decode cL_beats 415 = .ok (.iload 9, 2) := by decide +kernel
theorem dL_beats_417 : decode cL_beats 417 = .ok (.iconst 4, 1) := by decide +kernel
theorem dL_beats_418 : decode cL_beats 418 = .ok (.invokestatic 158, 3) := by decide +kernel
theorem dL_beats_421 : decode cL_beats 421 = .ok (.iload 21, 2) := by decide +kernel
theorem dL_beats_423 : decode cL_beats 423 = .ok (.if_icmp .ne 7, 3) := by decide +kernel
theorem dL_beats_426 : decode cL_beats 426 = .ok (.iconst 1, 1) := by decide +kernel
theorem dL_beats_427 : decode cL_beats 427 = .ok (.goto 4, 3) := by decide +kernel
theorem dL_beats_430 : decode cL_beats 430 = .ok (.iconst 0, 1) := by decide +kernel
theorem dL_beats_431 : decode cL_beats 431 = .ok (.istore 8, 2) := by decide +kernel
theorem dL_beats_433 : decode cL_beats 433 = .ok (.iload 11, 2) := by decide +kernel
theorem dL_beats_435 : decode cL_beats 435 = .ok (.iload 14, 2) := by decide +kernel
theorem dL_beats_437 : decode cL_beats 437 = .ok (.iadd, 1) := by decide +kernel
theorem dL_beats_438 : decode cL_beats 438 = .ok (.istore 11, 2) := by decide +kernel
theorem dL_beats_440 : decode cL_beats 440 = .ok (.iload 12, 2) := by decide +kernel
theorem dL_beats_442 : decode cL_beats 442 = .ok (.iconst 5, 1) := by decide +kernel
theorem dL_beats_443 : decode cL_beats 443 = .ok (.iload 19, 2) := by decide +kernel
theorem dL_beats_445 : decode cL_beats 445 = .ok (.imul, 1) := by decide +kernel
theorem dL_beats_446 : decode cL_beats 446 = .ok (.iload 21, 2) := by decide +kernel
theorem dL_beats_448 : decode cL_beats 448 = .ok (.iadd, 1) := by decide +kernel
theorem dL_beats_449 : decode cL_beats 449 = .ok (.iadd, 1) := by decide +kernel
theorem dL_beats_450 : decode cL_beats 450 = .ok (.istore 12, 2) := by decide +kernel
theorem dL_beats_452 : decode cL_beats 452 = .ok (.iload 4, 2) := by decide +kernel
theorem dL_beats_454 : decode cL_beats 454 = .ok (.iload 19, 2) := by decide +kernel
theorem dL_beats_456 : decode cL_beats 456 = .ok (.iadd, 1) := by decide +kernel
theorem dL_beats_457 : decode cL_beats 457 = .ok (.istore 4, 2) := by decide +kernel
theorem dL_beats_459 : decode cL_beats 459 = .ok (.iload 5, 2) := by decide +kernel
theorem dL_beats_461 : decode cL_beats 461 = .ok (.iload 21, 2) := by decide +kernel
theorem dL_beats_463 : decode cL_beats 463 = .ok (.iadd, 1) := by decide +kernel
theorem dL_beats_464 : decode cL_beats 464 = .ok (.istore 5, 2) := by decide +kernel
theorem dL_beats_466 : decode cL_beats 466 = .ok (.iinc 13 1, 3) := by decide +kernel
theorem dL_beats_469 : decode cL_beats 469 = .ok (.goto (-404), 3) := by decide +kernel
theorem dL_beats_472 : decode cL_beats 472 = .ok (.iload 8, 2) := by decide +kernel
theorem dL_beats_474 : decode cL_beats 474 = .ok (.ifCond .eq 47, 3) := by decide +kernel
theorem dL_beats_477 : decode cL_beats 477 = .ok (.iload 10, 2) := by decide +kernel
theorem dL_beats_479 : decode cL_beats 479 = .ok (.ifCond .eq 38, 3) := by decide +kernel
theorem dL_beats_482 : decode cL_beats 482 = .ok (.iload 10, 2) := by decide +kernel
theorem dL_beats_484 : decode cL_beats 484 = .ok (.iload 11, 2) := by decide +kernel
theorem dL_beats_486 : decode cL_beats 486 = .ok (.if_icmp .eq 31, 3) := by decide +kernel
theorem dL_beats_489 : decode cL_beats 489 = .ok (.aload_n 0, 1) := by decide +kernel
theorem dL_beats_490 : decode cL_beats 490 = .ok (.iconst 0, 1) := by decide +kernel
theorem dL_beats_491 : decode cL_beats 491 = .ok (.iload 9, 2) := by decide +kernel
theorem dL_beats_493 : decode cL_beats 493 = .ok (.iconst 1, 1) := by decide +kernel
theorem dL_beats_494 : decode cL_beats 494 = .ok (.invokestatic 158, 3) := by decide +kernel
theorem dL_beats_497 : decode cL_beats 497 = .ok (.aload_n 0, 1) := by decide +kernel
theorem dL_beats_498 : decode cL_beats 498 = .ok (.iconst 0, 1) := by decide +kernel
theorem dL_beats_499 : decode cL_beats 499 = .ok (.iload 9, 2) := by decide +kernel
theorem dL_beats_501 : decode cL_beats 501 = .ok (.iconst 2, 1) := by decide +kernel
theorem dL_beats_502 : decode cL_beats 502 = .ok (.invokestatic 158, 3) := by decide +kernel
theorem dL_beats_505 : decode cL_beats 505 = .ok (.iadd, 1) := by decide +kernel
theorem dL_beats_506 : decode cL_beats 506 = .ok (.aload_n 0, 1) := by decide +kernel
theorem dL_beats_507 : decode cL_beats 507 = .ok (.iconst 1, 1) := by decide +kernel
theorem dL_beats_508 : decode cL_beats 508 = .ok (.iload 9, 2) := by decide +kernel
theorem dL_beats_510 : decode cL_beats 510 = .ok (.iconst 1, 1) := by decide +kernel
theorem dL_beats_511 : decode cL_beats 511 = .ok (.invokestatic 158, 3) := by decide +kernel
theorem dL_beats_514 : decode cL_beats 514 = .ok (.if_icmp .gt 7, 3) := by decide +kernel
theorem dL_beats_517 : decode cL_beats 517 = .ok (.iconst 1, 1) := by decide +kernel
theorem dL_beats_518 : decode cL_beats 518 = .ok (.goto 4, 3) := by decide +kernel
theorem dL_beats_521 : decode cL_beats 521 = .ok (.iconst 0, 1) := by decide +kernel
theorem dL_beats_522 : decode cL_beats 522 = .ok (.istore 8, 2) := by decide +kernel
theorem dL_beats_524 : decode cL_beats 524 = .ok (.iconst 0, 1) := by decide +kernel
theorem dL_beats_525 : decode cL_beats 525 = .ok (.istore 13, 2) := by decide +kernel
theorem dL_beats_527 : decode cL_beats 527 = .ok (.iload 13, 2) := by decide +kernel
theorem dL_beats_529 : decode cL_beats 529 = .ok (.iload_n 1, 1) := by decide +kernel
theorem dL_beats_530 : decode cL_beats 530 = .ok (.if_icmp .ge 586, 3) := by decide +kernel
theorem dL_beats_533 : decode cL_beats 533 = .ok (.iload 8, 2) := by decide +kernel
theorem dL_beats_535 : decode cL_beats 535 = .ok (.ifCond .eq 581, 3) := by decide +kernel
theorem dL_beats_538 : decode cL_beats 538 = .ok (.aload_n 0, 1) := by decide +kernel
theorem dL_beats_539 : decode cL_beats 539 = .ok (.iload 13, 2) := by decide +kernel
theorem dL_beats_541 : decode cL_beats 541 = .ok (.iload 9, 2) := by decide +kernel
theorem dL_beats_543 : decode cL_beats 543 = .ok (.iconst 1, 1) := by decide +kernel
theorem dL_beats_544 : decode cL_beats 544 = .ok (.invokestatic 127, 3) := by decide +kernel
theorem dL_beats_547 : decode cL_beats 547 = .ok (.istore 14, 2) := by decide +kernel
theorem dL_beats_549 : decode cL_beats 549 = .ok (.aload_n 0, 1) := by decide +kernel
theorem dL_beats_550 : decode cL_beats 550 = .ok (.iload 13, 2) := by decide +kernel
theorem dL_beats_552 : decode cL_beats 552 = .ok (.iload 9, 2) := by decide +kernel
theorem dL_beats_554 : decode cL_beats 554 = .ok (.iconst 1, 1) := by decide +kernel
theorem dL_beats_555 : decode cL_beats 555 = .ok (.invokestatic 155, 3) := by decide +kernel
theorem dL_beats_558 : decode cL_beats 558 = .ok (.istore 15, 2) := by decide +kernel
theorem dL_beats_560 : decode cL_beats 560 = .ok (.aload_n 0, 1) := by decide +kernel
theorem dL_beats_561 : decode cL_beats 561 = .ok (.iload 13, 2) := by decide +kernel
theorem dL_beats_563 : decode cL_beats 563 = .ok (.iload 9, 2) := by decide +kernel
theorem dL_beats_565 : decode cL_beats 565 = .ok (.iconst 0, 1) := by decide +kernel
theorem dL_beats_566 : decode cL_beats 566 = .ok (.invokestatic 127, 3) := by decide +kernel
theorem dL_beats_569 : decode cL_beats 569 = .ok (.bipush 99, 2) := by decide +kernel
theorem dL_beats_571 : decode cL_beats 571 = .ok (.if_icmp .ne 7, 3) := by decide +kernel
theorem dL_beats_574 : decode cL_beats 574 = .ok (.iconst 1, 1) := by decide +kernel
theorem dL_beats_575 : decode cL_beats 575 = .ok (.goto 4, 3) := by decide +kernel
theorem dL_beats_578 : decode cL_beats 578 = .ok (.iconst 0, 1) := by decide +kernel
theorem dL_beats_579 : decode cL_beats 579 = .ok (.istore 16, 2) := by decide +kernel
theorem dL_beats_581 : decode cL_beats 581 = .ok (.aload_n 0, 1) := by decide +kernel
theorem dL_beats_582 : decode cL_beats 582 = .ok (.iload 13, 2) := by decide +kernel
theorem dL_beats_584 : decode cL_beats 584 = .ok (.iload 9, 2) := by decide +kernel
theorem dL_beats_586 : decode cL_beats 586 = .ok (.iconst 3, 1) := by decide +kernel
theorem dL_beats_587 : decode cL_beats 587 = .ok (.invokestatic 155, 3) := by decide +kernel
theorem dL_beats_590 : decode cL_beats 590 = .ok (.iconst 1, 1) := by decide +kernel
theorem dL_beats_591 : decode cL_beats 591 = .ok (.if_icmp .ne 7, 3) := by decide +kernel
theorem dL_beats_594 : decode cL_beats 594 = .ok (.iconst 1, 1) := by decide +kernel
theorem dL_beats_595 : decode cL_beats 595 = .ok (.goto 4, 3) := by decide +kernel
theorem dL_beats_598 : decode cL_beats 598 = .ok (.iconst 0, 1) := by decide +kernel
theorem dL_beats_599 : decode cL_beats 599 = .ok (.istore 17, 2) := by decide +kernel
theorem dL_beats_601 : decode cL_beats 601 = .ok (.iload 14, 2) := by decide +kernel
theorem dL_beats_603 : decode cL_beats 603 = .ok (.bipush (-9), 2) := by decide +kernel
theorem dL_beats_605 : decode cL_beats 605 = .ok (.if_icmp .ne 62, 3) := by decide +kernel
theorem dL_beats_608 : decode cL_beats 608 = .ok (.iload 15, 2) := by decide +kernel
theorem dL_beats_610 : decode cL_beats 610 = .ok (.bipush (-9), 2) := by decide +kernel
theorem dL_beats_612 : decode cL_beats 612 = .ok (.if_icmp .ne 49, 3) := by decide +kernel
theorem dL_beats_615 : decode cL_beats 615 = .ok (.aload_n 0, 1) := by decide +kernel
theorem dL_beats_616 : decode cL_beats 616 = .ok (.iload 13, 2) := by decide +kernel
theorem dL_beats_618 : decode cL_beats 618 = .ok (.iload 9, 2) := by decide +kernel
theorem dL_beats_620 : decode cL_beats 620 = .ok (.iconst 0, 1) := by decide +kernel
theorem dL_beats_621 : decode cL_beats 621 = .ok (.invokestatic 155, 3) := by decide +kernel
theorem dL_beats_624 : decode cL_beats 624 = .ok (.bipush (-9), 2) := by decide +kernel
theorem dL_beats_626 : decode cL_beats 626 = .ok (.if_icmp .ne 35, 3) := by decide +kernel
theorem dL_beats_629 : decode cL_beats 629 = .ok (.aload_n 0, 1) := by decide +kernel
theorem dL_beats_630 : decode cL_beats 630 = .ok (.iload 13, 2) := by decide +kernel
theorem dL_beats_632 : decode cL_beats 632 = .ok (.iload 9, 2) := by decide +kernel
theorem dL_beats_634 : decode cL_beats 634 = .ok (.iconst 2, 1) := by decide +kernel
theorem dL_beats_635 : decode cL_beats 635 = .ok (.invokestatic 155, 3) := by decide +kernel
theorem dL_beats_638 : decode cL_beats 638 = .ok (.bipush (-9), 2) := by decide +kernel
theorem dL_beats_640 : decode cL_beats 640 = .ok (.if_icmp .ne 21, 3) := by decide +kernel
theorem dL_beats_643 : decode cL_beats 643 = .ok (.aload_n 0, 1) := by decide +kernel
theorem dL_beats_644 : decode cL_beats 644 = .ok (.iload 13, 2) := by decide +kernel
theorem dL_beats_646 : decode cL_beats 646 = .ok (.iload 9, 2) := by decide +kernel
theorem dL_beats_648 : decode cL_beats 648 = .ok (.iconst 0, 1) := by decide +kernel
theorem dL_beats_649 : decode cL_beats 649 = .ok (.invokestatic 127, 3) := by decide +kernel
theorem dL_beats_652 : decode cL_beats 652 = .ok (.bipush (-9), 2) := by decide +kernel
theorem dL_beats_654 : decode cL_beats 654 = .ok (.if_icmp .ne 7, 3) := by decide +kernel
theorem dL_beats_657 : decode cL_beats 657 = .ok (.iconst 1, 1) := by decide +kernel
theorem dL_beats_658 : decode cL_beats 658 = .ok (.goto 4, 3) := by decide +kernel
theorem dL_beats_661 : decode cL_beats 661 = .ok (.iconst 0, 1) := by decide +kernel
theorem dL_beats_662 : decode cL_beats 662 = .ok (.istore 8, 2) := by decide +kernel
theorem dL_beats_664 : decode cL_beats 664 = .ok (.goto 446, 3) := by decide +kernel
theorem dL_beats_667 : decode cL_beats 667 = .ok (.iconst 0, 1) := by decide +kernel
theorem dL_beats_668 : decode cL_beats 668 = .ok (.istore 18, 2) := by decide +kernel
theorem dL_beats_670 : decode cL_beats 670 = .ok (.iconst 0, 1) := by decide +kernel
theorem dL_beats_671 : decode cL_beats 671 = .ok (.istore 19, 2) := by decide +kernel
theorem dL_beats_673 : decode cL_beats 673 = .ok (.iconst 0, 1) := by decide +kernel
theorem dL_beats_674 : decode cL_beats 674 = .ok (.istore 20, 2) := by decide +kernel
theorem dL_beats_676 : decode cL_beats 676 = .ok (.iload 20, 2) := by decide +kernel
theorem dL_beats_678 : decode cL_beats 678 = .ok (.iload_n 1, 1) := by decide +kernel
theorem dL_beats_679 : decode cL_beats 679 = .ok (.if_icmp .ge 129, 3) := by decide +kernel
theorem dL_beats_682 : decode cL_beats 682 = .ok (.aload_n 0, 1) := by decide +kernel
theorem dL_beats_683 : decode cL_beats 683 = .ok (.iload 20, 2) := by decide +kernel
theorem dL_beats_685 : decode cL_beats 685 = .ok (.iload 9, 2) := by decide +kernel
theorem dL_beats_687 : decode cL_beats 687 = .ok (.iconst 1, 1) := by decide +kernel
theorem dL_beats_688 : decode cL_beats 688 = .ok (.invokestatic 127, 3) := by decide +kernel
theorem dL_beats_691 : decode cL_beats 691 = .ok (.iload 14, 2) := by decide +kernel
theorem dL_beats_693 : decode cL_beats 693 = .ok (.isub, 1) := by decide +kernel
theorem dL_beats_694 : decode cL_beats 694 = .ok (.istore 21, 2) := by decide +kernel
theorem dL_beats_696 : decode cL_beats 696 = .ok (.iload 20, 2) := by decide +kernel
theorem dL_beats_698 : decode cL_beats 698 = .ok (.iload 13, 2) := by decide +kernel
theorem dL_beats_700 : decode cL_beats 700 = .ok (.if_icmp .eq 47, 3) := by decide +kernel
theorem dL_beats_703 : decode cL_beats 703 = .ok (.aload_n 0, 1) := by decide +kernel
theorem dL_beats_704 : decode cL_beats 704 = .ok (.iload 20, 2) := by decide +kernel
theorem dL_beats_706 : decode cL_beats 706 = .ok (.iload 9, 2) := by decide +kernel
theorem dL_beats_708 : decode cL_beats 708 = .ok (.iconst 1, 1) := by decide +kernel
theorem dL_beats_709 : decode cL_beats 709 = .ok (.invokestatic 127, 3) := by decide +kernel
theorem dL_beats_712 : decode cL_beats 712 = .ok (.bipush (-9), 2) := by decide +kernel
theorem dL_beats_714 : decode cL_beats 714 = .ok (.if_icmp .eq 33, 3) := by decide +kernel
theorem dL_beats_717 : decode cL_beats 717 = .ok (.aload_n 0, 1) := by decide +kernel
theorem dL_beats_718 : decode cL_beats 718 = .ok (.iload 20, 2) := by decide +kernel
theorem dL_beats_720 : decode cL_beats 720 = .ok (.iload 9, 2) := by decide +kernel
theorem dL_beats_722 : decode cL_beats 722 = .ok (.iconst 1, 1) := by decide +kernel
theorem dL_beats_723 : decode cL_beats 723 = .ok (.invokestatic 155, 3) := by decide +kernel
theorem dL_beats_726 : decode cL_beats 726 = .ok (.iconst 1, 1) := by decide +kernel
theorem dL_beats_727 : decode cL_beats 727 = .ok (.if_icmp .eq 20, 3) := by decide +kernel
theorem dL_beats_730 : decode cL_beats 730 = .ok (.aload_n 0, 1) := by decide +kernel
theorem dL_beats_731 : decode cL_beats 731 = .ok (.iload 20, 2) := by decide +kernel
theorem dL_beats_733 : decode cL_beats 733 = .ok (.iload 9, 2) := by decide +kernel
theorem dL_beats_735 : decode cL_beats 735 = .ok (.iconst 1, 1) := by decide +kernel
theorem dL_beats_736 : decode cL_beats 736 = .ok (.invokestatic 155, 3) := by decide +kernel
theorem dL_beats_739 : decode cL_beats 739 = .ok (.iconst 2, 1) := by decide +kernel
theorem dL_beats_740 : decode cL_beats 740 = .ok (.if_icmp .eq 7, 3) := by decide +kernel
theorem dL_beats_743 : decode cL_beats 743 = .ok (.iconst 1, 1) := by decide +kernel
theorem dL_beats_744 : decode cL_beats 744 = .ok (.goto 4, 3) := by decide +kernel
theorem dL_beats_747 : decode cL_beats 747 = .ok (.iconst 0, 1) := by decide +kernel
theorem dL_beats_748 : decode cL_beats 748 = .ok (.istore 22, 2) := by decide +kernel
theorem dL_beats_750 : decode cL_beats 750 = .ok (.iload 18, 2) := by decide +kernel
theorem dL_beats_752 : decode cL_beats 752 = .ok (.ifCond .ne 13, 3) := by decide +kernel
theorem dL_beats_755 : decode cL_beats 755 = .ok (.iload 22, 2) := by decide +kernel
theorem dL_beats_757 : decode cL_beats 757 = .ok (.ifCond .eq 12, 3) := by decide +kernel
theorem dL_beats_760 : decode cL_beats 760 = .ok (.iload 21, 2) := by decide +kernel
theorem dL_beats_762 : decode cL_beats 762 = .ok (.ifCond .ne 7, 3) := by decide +kernel
theorem dL_beats_765 : decode cL_beats 765 = .ok (.iconst 1, 1) := by decide +kernel
theorem dL_beats_766 : decode cL_beats 766 = .ok (.goto 4, 3) := by decide +kernel
theorem dL_beats_769 : decode cL_beats 769 = .ok (.iconst 0, 1) := by decide +kernel
theorem dL_beats_770 : decode cL_beats 770 = .ok (.istore 18, 2) := by decide +kernel
theorem dL_beats_772 : decode cL_beats 772 = .ok (.iload 19, 2) := by decide +kernel
theorem dL_beats_774 : decode cL_beats 774 = .ok (.ifCond .ne 21, 3) := by decide +kernel
theorem dL_beats_777 : decode cL_beats 777 = .ok (.iload 22, 2) := by decide +kernel
theorem dL_beats_779 : decode cL_beats 779 = .ok (.ifCond .eq 20, 3) := by decide +kernel
theorem dL_beats_782 : decode cL_beats 782 = .ok (.iload 21, 2) := by decide +kernel
theorem dL_beats_784 : decode cL_beats 784 = .ok (.ifCond .eq 15, 3) := by decide +kernel
theorem dL_beats_787 : decode cL_beats 787 = .ok (.iload 21, 2) := by decide +kernel
theorem dL_beats_789 : decode cL_beats 789 = .ok (.bipush 12, 2) := by decide +kernel
theorem dL_beats_791 : decode cL_beats 791 = .ok (.irem, 1) := by decide +kernel
theorem dL_beats_792 : decode cL_beats 792 = .ok (.ifCond .ne 7, 3) := by decide +kernel
theorem dL_beats_795 : decode cL_beats 795 = .ok (.iconst 1, 1) := by decide +kernel
theorem dL_beats_796 : decode cL_beats 796 = .ok (.goto 4, 3) := by decide +kernel
theorem dL_beats_799 : decode cL_beats 799 = .ok (.iconst 0, 1) := by decide +kernel
theorem dL_beats_800 : decode cL_beats 800 = .ok (.istore 19, 2) := by decide +kernel
theorem dL_beats_802 : decode cL_beats 802 = .ok (.iinc 20 1, 3) := by decide +kernel
theorem dL_beats_805 : decode cL_beats 805 = .ok (.goto (-129), 3) := by decide +kernel
theorem dL_beats_808 : decode cL_beats 808 = .ok (.aload 7, 2) := by decide +kernel
theorem dL_beats_810 : decode cL_beats 810 = .ok (.iload 15, 2) := by decide +kernel
theorem dL_beats_812 : decode cL_beats 812 = .ok (.dup2, 1) := by decide +kernel
theorem dL_beats_813 : decode cL_beats 813 = .ok (.iaload, 1) := by decide +kernel
theorem dL_beats_814 : decode cL_beats 814 = .ok (.iconst 1, 1) := by decide +kernel
theorem dL_beats_815 : decode cL_beats 815 = .ok (.iadd, 1) := by decide +kernel
theorem dL_beats_816 : decode cL_beats 816 = .ok (.iastore, 1) := by decide +kernel
theorem dL_beats_817 : decode cL_beats 817 = .ok (.iload 6, 2) := by decide +kernel
theorem dL_beats_819 : decode cL_beats 819 = .ok (.iload 15, 2) := by decide +kernel
theorem dL_beats_821 : decode cL_beats 821 = .ok (.ifCond .ne 17, 3) := by decide +kernel
theorem dL_beats_824 : decode cL_beats 824 = .ok (.iload 17, 2) := by decide +kernel
theorem dL_beats_826 : decode cL_beats 826 = .ok (.ifCond .ne 8, 3) := by decide +kernel
theorem dL_beats_829 : decode cL_beats 829 = .ok (.iload 16, 2) := by decide +kernel
theorem dL_beats_831 : decode cL_beats 831 = .ok (.ifCond .ne 7, 3) := by decide +kernel
theorem dL_beats_834 : decode cL_beats 834 = .ok (.iconst 1, 1) := by decide +kernel
theorem dL_beats_835 : decode cL_beats 835 = .ok (.goto 4, 3) := by decide +kernel
theorem dL_beats_838 : decode cL_beats 838 = .ok (.iconst 0, 1) := by decide +kernel
theorem dL_beats_839 : decode cL_beats 839 = .ok (.iadd, 1) := by decide +kernel
theorem dL_beats_840 : decode cL_beats 840 = .ok (.istore 6, 2) := by decide +kernel
theorem dL_beats_842 : decode cL_beats 842 = .ok (.iload_n 3, 1) := by decide +kernel
theorem dL_beats_843 : decode cL_beats 843 = .ok (.iload 17, 2) := by decide +kernel
theorem dL_beats_845 : decode cL_beats 845 = .ok (.ifCond .eq 7, 3) := by decide +kernel
theorem dL_beats_848 : decode cL_beats 848 = .ok (.iconst 1, 1) := by decide +kernel
theorem dL_beats_849 : decode cL_beats 849 = .ok (.goto 4, 3) := by decide +kernel
theorem dL_beats_852 : decode cL_beats 852 = .ok (.iconst 0, 1) := by decide +kernel
theorem dL_beats_853 : decode cL_beats 853 = .ok (.iadd, 1) := by decide +kernel
theorem dL_beats_854 : decode cL_beats 854 = .ok (.istore_n 3, 1) := by decide +kernel
theorem dL_beats_855 : decode cL_beats 855 = .ok (.iload 12, 2) := by decide +kernel
theorem dL_beats_857 : decode cL_beats 857 = .ok (.iload 17, 2) := by decide +kernel
theorem dL_beats_859 : decode cL_beats 859 = .ok (.ifCond .eq 8, 3) := by decide +kernel
theorem dL_beats_862 : decode cL_beats 862 = .ok (.bipush 10, 2) := by decide +kernel
theorem dL_beats_864 : decode cL_beats 864 = .ok (.goto 4, 3) := by decide +kernel
theorem dL_beats_867 : decode cL_beats 867 = .ok (.iconst 0, 1) := by decide +kernel
theorem dL_beats_868 : decode cL_beats 868 = .ok (.iadd, 1) := by decide +kernel
theorem dL_beats_869 : decode cL_beats 869 = .ok (.istore 12, 2) := by decide +kernel
theorem dL_beats_871 : decode cL_beats 871 = .ok (.iload 13, 2) := by decide +kernel
theorem dL_beats_873 : decode cL_beats 873 = .ok (.ifCond .le 15, 3) := by decide +kernel
theorem dL_beats_876 : decode cL_beats 876 = .ok (.iload 13, 2) := by decide +kernel
theorem dL_beats_878 : decode cL_beats 878 = .ok (.iload_n 1, 1) := by decide +kernel
theorem dL_beats_879 : decode cL_beats 879 = .ok (.iconst 1, 1) := by decide +kernel
theorem dL_beats_880 : decode cL_beats 880 = .ok (.isub, 1) := by decide +kernel
theorem dL_beats_881 : decode cL_beats 881 = .ok (.if_icmp .ge 7, 3) := by decide +kernel
theorem dL_beats_884 : decode cL_beats 884 = .ok (.iconst 1, 1) := by decide +kernel
theorem dL_beats_885 : decode cL_beats 885 = .ok (.goto 4, 3) := by decide +kernel
theorem dL_beats_888 : decode cL_beats 888 = .ok (.iconst 0, 1) := by decide +kernel
theorem dL_beats_889 : decode cL_beats 889 = .ok (.istore 20, 2) := by decide +kernel
theorem dL_beats_891 : decode cL_beats 891 = .ok (.iload 15, 2) := by decide +kernel
theorem dL_beats_893 : decode cL_beats 893 = .ok (.ifCond .lt 138, 3) := by decide +kernel
theorem dL_beats_896 : decode cL_beats 896 = .ok (.iload 15, 2) := by decide +kernel
theorem dL_beats_898 : decode cL_beats 898 = .ok (.iconst 4, 1) := by decide +kernel
theorem dL_beats_899 : decode cL_beats 899 = .ok (.if_icmp .ge 132, 3) := by decide +kernel
theorem dL_beats_902 : decode cL_beats 902 = .ok (.iload 15, 2) := by decide +kernel
theorem dL_beats_904 : decode cL_beats 904 = .ok (.ifCond .eq 8, 3) := by decide +kernel
theorem dL_beats_907 : decode cL_beats 907 = .ok (.iload 20, 2) := by decide +kernel
theorem dL_beats_909 : decode cL_beats 909 = .ok (.ifCond .eq 122, 3) := by decide +kernel
theorem dL_beats_912 : decode cL_beats 912 = .ok (.iload 15, 2) := by decide +kernel
theorem dL_beats_914 : decode cL_beats 914 = .ok (.iconst 1, 1) := by decide +kernel
theorem dL_beats_915 : decode cL_beats 915 = .ok (.if_icmp .ne 8, 3) := by decide +kernel
theorem dL_beats_918 : decode cL_beats 918 = .ok (.iload 18, 2) := by decide +kernel
theorem dL_beats_920 : decode cL_beats 920 = .ok (.ifCond .eq 111, 3) := by decide +kernel
theorem dL_beats_923 : decode cL_beats 923 = .ok (.iload 15, 2) := by decide +kernel
theorem dL_beats_925 : decode cL_beats 925 = .ok (.iconst 2, 1) := by decide +kernel
theorem dL_beats_926 : decode cL_beats 926 = .ok (.if_icmp .ne 17, 3) := by decide +kernel
theorem dL_beats_929 : decode cL_beats 929 = .ok (.iload 19, 2) := by decide +kernel
theorem dL_beats_931 : decode cL_beats 931 = .ok (.ifCond .eq 100, 3) := by decide +kernel
theorem dL_beats_934 : decode cL_beats 934 = .ok (.aload_n 0, 1) := by decide +kernel
theorem dL_beats_935 : decode cL_beats 935 = .ok (.iconst 4, 1) := by decide +kernel
theorem dL_beats_936 : decode cL_beats 936 = .ok (.invokestatic 115, 3) := by decide +kernel
theorem dL_beats_939 : decode cL_beats 939 = .ok (.iconst 1, 1) := by decide +kernel
theorem dL_beats_940 : decode cL_beats 940 = .ok (.if_icmp .ne 91, 3) := by decide +kernel
theorem dL_beats_943 : decode cL_beats 943 = .ok (.aload_n 0, 1) := by decide +kernel
theorem dL_beats_944 : decode cL_beats 944 = .ok (.iload 13, 2) := by decide +kernel
theorem dL_beats_946 : decode cL_beats 946 = .ok (.iload 9, 2) := by decide +kernel
theorem dL_beats_948 : decode cL_beats 948 = .ok (.iconst 0, 1) := by decide +kernel
theorem dL_beats_949 : decode cL_beats 949 = .ok (.invokestatic 155, 3) := by decide +kernel
theorem dL_beats_952 : decode cL_beats 952 = .ok (.bipush (-9), 2) := by decide +kernel
theorem dL_beats_954 : decode cL_beats 954 = .ok (.if_icmp .ne 7, 3) := by decide +kernel
theorem dL_beats_957 : decode cL_beats 957 = .ok (.iconst 1, 1) := by decide +kernel
theorem dL_beats_958 : decode cL_beats 958 = .ok (.goto 4, 3) := by decide +kernel
theorem dL_beats_961 : decode cL_beats 961 = .ok (.iconst 0, 1) := by decide +kernel
theorem dL_beats_962 : decode cL_beats 962 = .ok (.iload 15, 2) := by decide +kernel
theorem dL_beats_964 : decode cL_beats 964 = .ok (.ifCond .le 7, 3) := by decide +kernel
theorem dL_beats_967 : decode cL_beats 967 = .ok (.iconst 1, 1) := by decide +kernel
theorem dL_beats_968 : decode cL_beats 968 = .ok (.goto 4, 3) := by decide +kernel
theorem dL_beats_971 : decode cL_beats 971 = .ok (.iconst 0, 1) := by decide +kernel
theorem dL_beats_972 : decode cL_beats 972 = .ok (.if_icmp .ne 59, 3) := by decide +kernel
theorem dL_beats_975 : decode cL_beats 975 = .ok (.aload_n 0, 1) := by decide +kernel
theorem dL_beats_976 : decode cL_beats 976 = .ok (.iload 13, 2) := by decide +kernel
theorem dL_beats_978 : decode cL_beats 978 = .ok (.iload 9, 2) := by decide +kernel
theorem dL_beats_980 : decode cL_beats 980 = .ok (.iconst 2, 1) := by decide +kernel
theorem dL_beats_981 : decode cL_beats 981 = .ok (.invokestatic 155, 3) := by decide +kernel
theorem dL_beats_984 : decode cL_beats 984 = .ok (.iload 15, 2) := by decide +kernel
theorem dL_beats_986 : decode cL_beats 986 = .ok (.ifCond .le 8, 3) := by decide +kernel
theorem dL_beats_989 : decode cL_beats 989 = .ok (.bipush (-9), 2) := by decide +kernel
theorem dL_beats_991 : decode cL_beats 991 = .ok (.goto 18, 3) := by decide +kernel
theorem dL_beats_994 : decode cL_beats 994 = .ok (.iload 17, 2) := by decide +kernel
theorem dL_beats_996 : decode cL_beats 996 = .ok (.ifCond .ne 8, 3) := by decide +kernel
theorem dL_beats_999 : decode cL_beats 999 = .ok (.iload 16, 2) := by decide +kernel
theorem dL_beats_1001 : decode cL_beats 1001 = .ok (.ifCond .ne 7, 3) := by decide +kernel
theorem dL_beats_1004 : decode cL_beats 1004 = .ok (.iconst 1, 1) := by decide +kernel
theorem dL_beats_1005 : decode cL_beats 1005 = .ok (.goto 4, 3) := by decide +kernel
theorem dL_beats_1008 : decode cL_beats 1008 = .ok (.iconst 0, 1) := by decide +kernel
theorem dL_beats_1009 : decode cL_beats 1009 = .ok (.if_icmp .ne 22, 3) := by decide +kernel
theorem dL_beats_1012 : decode cL_beats 1012 = .ok (.iload 17, 2) := by decide +kernel
theorem dL_beats_1014 : decode cL_beats 1014 = .ok (.ifCond .eq 13, 3) := by decide +kernel
theorem dL_beats_1017 : decode cL_beats 1017 = .ok (.iload 16, 2) := by decide +kernel
theorem dL_beats_1019 : decode cL_beats 1019 = .ok (.ifCond .eq 12, 3) := by decide +kernel
theorem dL_beats_1022 : decode cL_beats 1022 = .ok (.iload 15, 2) := by decide +kernel
theorem dL_beats_1024 : decode cL_beats 1024 = .ok (.ifCond .ne 7, 3) := by decide +kernel
theorem dL_beats_1027 : decode cL_beats 1027 = .ok (.iconst 1, 1) := by decide +kernel
theorem dL_beats_1028 : decode cL_beats 1028 = .ok (.goto 4, 3) := by decide +kernel
theorem dL_beats_1031 : decode cL_beats 1031 = .ok (.iconst 0, 1) := by decide +kernel
theorem dL_beats_1032 : decode cL_beats 1032 = .ok (.istore 8, 2) := by decide +kernel
theorem dL_beats_1034 : decode cL_beats 1034 = .ok (.iload 16, 2) := by decide +kernel
theorem dL_beats_1036 : decode cL_beats 1036 = .ok (.ifCond .eq 74, 3) := by decide +kernel
theorem dL_beats_1039 : decode cL_beats 1039 = .ok (.iload 15, 2) := by decide +kernel
theorem dL_beats_1041 : decode cL_beats 1041 = .ok (.ifCond .ne 69, 3) := by decide +kernel
theorem dL_beats_1044 : decode cL_beats 1044 = .ok (.iload 8, 2) := by decide +kernel
theorem dL_beats_1046 : decode cL_beats 1046 = .ok (.ifCond .eq 61, 3) := by decide +kernel
theorem dL_beats_1049 : decode cL_beats 1049 = .ok (.iload 9, 2) := by decide +kernel
theorem dL_beats_1051 : decode cL_beats 1051 = .ok (.ifCond .le 56, 3) := by decide +kernel
theorem dL_beats_1054 : decode cL_beats 1054 = .ok (.iload 17, 2) := by decide +kernel
theorem dL_beats_1056 : decode cL_beats 1056 = .ok (.aload_n 0, 1) := by decide +kernel
theorem dL_beats_1057 : decode cL_beats 1057 = .ok (.iload 13, 2) := by decide +kernel
theorem dL_beats_1059 : decode cL_beats 1059 = .ok (.iload 9, 2) := by decide +kernel
theorem dL_beats_1061 : decode cL_beats 1061 = .ok (.iconst 1, 1) := by decide +kernel
theorem dL_beats_1062 : decode cL_beats 1062 = .ok (.isub, 1) := by decide +kernel
theorem dL_beats_1063 : decode cL_beats 1063 = .ok (.iconst 0, 1) := by decide +kernel
theorem dL_beats_1064 : decode cL_beats 1064 = .ok (.invokestatic 155, 3) := by decide +kernel
theorem dL_beats_1067 : decode cL_beats 1067 = .ok (.aload_n 0, 1) := by decide +kernel
theorem dL_beats_1068 : decode cL_beats 1068 = .ok (.iload 13, 2) := by decide +kernel
theorem dL_beats_1070 : decode cL_beats 1070 = .ok (.iload 9, 2) := by decide +kernel
theorem dL_beats_1072 : decode cL_beats 1072 = .ok (.iconst 0, 1) := by decide +kernel
theorem dL_beats_1073 : decode cL_beats 1073 = .ok (.invokestatic 155, 3) := by decide +kernel
theorem dL_beats_1076 : decode cL_beats 1076 = .ok (.if_icmp .eq 7, 3) := by decide +kernel
theorem dL_beats_1079 : decode cL_beats 1079 = .ok (.iconst 1, 1) := by decide +kernel
theorem dL_beats_1080 : decode cL_beats 1080 = .ok (.goto 4, 3) := by decide +kernel
theorem dL_beats_1083 : decode cL_beats 1083 = .ok (.iconst 0, 1) := by decide +kernel
theorem dL_beats_1084 : decode cL_beats 1084 = .ok (.if_icmp .ne 23, 3) := by decide +kernel
theorem dL_beats_1087 : decode cL_beats 1087 = .ok (.aload_n 0, 1) := by decide +kernel
theorem dL_beats_1088 : decode cL_beats 1088 = .ok (.iload 13, 2) := by decide +kernel
theorem dL_beats_1090 : decode cL_beats 1090 = .ok (.iload 9, 2) := by decide +kernel
theorem dL_beats_1092 : decode cL_beats 1092 = .ok (.iconst 1, 1) := by decide +kernel
theorem dL_beats_1093 : decode cL_beats 1093 = .ok (.isub, 1) := by decide +kernel
theorem dL_beats_1094 : decode cL_beats 1094 = .ok (.iconst 1, 1) := by decide +kernel
theorem dL_beats_1095 : decode cL_beats 1095 = .ok (.invokestatic 127, 3) := by decide +kernel
theorem dL_beats_1098 : decode cL_beats 1098 = .ok (.iload 14, 2) := by decide +kernel
theorem dL_beats_1100 : decode cL_beats 1100 = .ok (.if_icmp .ne 7, 3) := by decide +kernel
theorem dL_beats_1103 : decode cL_beats 1103 = .ok (.iconst 1, 1) := by decide +kernel
theorem dL_beats_1104 : decode cL_beats 1104 = .ok (.goto 4, 3) := by decide +kernel
theorem dL_beats_1107 : decode cL_beats 1107 = .ok (.iconst 0, 1) := by decide +kernel
theorem dL_beats_1108 : decode cL_beats 1108 = .ok (.istore 8, 2) := by decide +kernel
theorem dL_beats_1110 : decode cL_beats 1110 = .ok (.iinc 13 1, 3) := by decide +kernel
theorem dL_beats_1113 : decode cL_beats 1113 = .ok (.goto (-586), 3) := by decide +kernel
theorem dL_beats_1116 : decode cL_beats 1116 = .ok (.aload_n 0, 1) := by decide +kernel
theorem dL_beats_1117 : decode cL_beats 1117 = .ok (.iload 9, 2) := by decide +kernel
theorem dL_beats_1119 : decode cL_beats 1119 = .ok (.iconst 4, 1) := by decide +kernel
theorem dL_beats_1120 : decode cL_beats 1120 = .ok (.invokestatic 161, 3) := by decide +kernel
theorem dL_beats_1123 : decode cL_beats 1123 = .ok (.istore 13, 2) := by decide +kernel
theorem dL_beats_1125 : decode cL_beats 1125 = .ok (.iconst 0, 1) := by decide +kernel
theorem dL_beats_1126 : decode cL_beats 1126 = .ok (.istore 14, 2) := by decide +kernel
theorem dL_beats_1128 : decode cL_beats 1128 = .ok (.iconst 0, 1) := by decide +kernel
theorem dL_beats_1129 : decode cL_beats 1129 = .ok (.istore 15, 2) := by decide +kernel
theorem dL_beats_1131 : decode cL_beats 1131 = .ok (.iload 15, 2) := by decide +kernel
theorem dL_beats_1133 : decode cL_beats 1133 = .ok (.iconst 5, 1) := by decide +kernel
theorem dL_beats_1134 : decode cL_beats 1134 = .ok (.if_icmp .ge 21, 3) := by decide +kernel
theorem dL_beats_1137 : decode cL_beats 1137 = .ok (.iload 14, 2) := by decide +kernel
theorem dL_beats_1139 : decode cL_beats 1139 = .ok (.iload 13, 2) := by decide +kernel
theorem dL_beats_1141 : decode cL_beats 1141 = .ok (.iload 15, 2) := by decide +kernel
theorem dL_beats_1143 : decode cL_beats 1143 = .ok (.ishr, 1) := by decide +kernel
theorem dL_beats_1144 : decode cL_beats 1144 = .ok (.iconst 1, 1) := by decide +kernel
theorem dL_beats_1145 : decode cL_beats 1145 = .ok (.iand, 1) := by decide +kernel
theorem dL_beats_1146 : decode cL_beats 1146 = .ok (.iadd, 1) := by decide +kernel
theorem dL_beats_1147 : decode cL_beats 1147 = .ok (.istore 14, 2) := by decide +kernel
theorem dL_beats_1149 : decode cL_beats 1149 = .ok (.iinc 15 1, 3) := by decide +kernel
theorem dL_beats_1152 : decode cL_beats 1152 = .ok (.goto (-21), 3) := by decide +kernel
theorem dL_beats_1155 : decode cL_beats 1155 = .ok (.iload 8, 2) := by decide +kernel
theorem dL_beats_1157 : decode cL_beats 1157 = .ok (.ifCond .eq 65, 3) := by decide +kernel
theorem dL_beats_1160 : decode cL_beats 1160 = .ok (.iload 11, 2) := by decide +kernel
theorem dL_beats_1162 : decode cL_beats 1162 = .ok (.aload_n 0, 1) := by decide +kernel
theorem dL_beats_1163 : decode cL_beats 1163 = .ok (.iload 9, 2) := by decide +kernel
theorem dL_beats_1165 : decode cL_beats 1165 = .ok (.iconst 3, 1) := by decide +kernel
theorem dL_beats_1166 : decode cL_beats 1166 = .ok (.invokestatic 161, 3) := by decide +kernel
theorem dL_beats_1169 : decode cL_beats 1169 = .ok (.if_icmp .ne 53, 3) := by decide +kernel
theorem dL_beats_1172 : decode cL_beats 1172 = .ok (.iload 12, 2) := by decide +kernel
theorem dL_beats_1174 : decode cL_beats 1174 = .ok (.aload_n 0, 1) := by decide +kernel
theorem dL_beats_1175 : decode cL_beats 1175 = .ok (.iload 9, 2) := by decide +kernel
theorem dL_beats_1177 : decode cL_beats 1177 = .ok (.iconst 2, 1) := by decide +kernel
theorem dL_beats_1178 : decode cL_beats 1178 = .ok (.invokestatic 161, 3) := by decide +kernel
theorem dL_beats_1181 : decode cL_beats 1181 = .ok (.if_icmp .ne 41, 3) := by decide +kernel
theorem dL_beats_1184 : decode cL_beats 1184 = .ok (.iload 14, 2) := by decide +kernel
theorem dL_beats_1186 : decode cL_beats 1186 = .ok (.aload_n 0, 1) := by decide +kernel
theorem dL_beats_1187 : decode cL_beats 1187 = .ok (.iload 9, 2) := by decide +kernel
theorem dL_beats_1189 : decode cL_beats 1189 = .ok (.iconst 1, 1) := by decide +kernel
theorem dL_beats_1190 : decode cL_beats 1190 = .ok (.invokestatic 161, 3) := by decide +kernel
theorem dL_beats_1193 : decode cL_beats 1193 = .ok (.if_icmp .ne 29, 3) := by decide +kernel
theorem dL_beats_1196 : decode cL_beats 1196 = .ok (.iload 13, 2) := by decide +kernel
theorem dL_beats_1198 : decode cL_beats 1198 = .ok (.iload 10, 2) := by decide +kernel
theorem dL_beats_1200 : decode cL_beats 1200 = .ok (.ishr, 1) := by decide +kernel
theorem dL_beats_1201 : decode cL_beats 1201 = .ok (.iconst 1, 1) := by decide +kernel
theorem dL_beats_1202 : decode cL_beats 1202 = .ok (.iand, 1) := by decide +kernel
theorem dL_beats_1203 : decode cL_beats 1203 = .ok (.iconst 1, 1) := by decide +kernel
theorem dL_beats_1204 : decode cL_beats 1204 = .ok (.if_icmp .ne 18, 3) := by decide +kernel
theorem dL_beats_1207 : decode cL_beats 1207 = .ok (.iload 13, 2) := by decide +kernel
theorem dL_beats_1209 : decode cL_beats 1209 = .ok (.iconst 1, 1) := by decide +kernel
theorem dL_beats_1210 : decode cL_beats 1210 = .ok (.iload 11, 2) := by decide +kernel
theorem dL_beats_1212 : decode cL_beats 1212 = .ok (.iconst 1, 1) := by decide +kernel
theorem dL_beats_1213 : decode cL_beats 1213 = .ok (.iadd, 1) := by decide +kernel
theorem dL_beats_1214 : decode cL_beats 1214 = .ok (.ishl, 1) := by decide +kernel
theorem dL_beats_1215 : decode cL_beats 1215 = .ok (.if_icmp .ge 7, 3) := by decide +kernel
theorem dL_beats_1218 : decode cL_beats 1218 = .ok (.iconst 1, 1) := by decide +kernel
theorem dL_beats_1219 : decode cL_beats 1219 = .ok (.goto 4, 3) := by decide +kernel
theorem dL_beats_1222 : decode cL_beats 1222 = .ok (.iconst 0, 1) := by decide +kernel
theorem dL_beats_1223 : decode cL_beats 1223 = .ok (.istore 8, 2) := by decide +kernel
theorem dL_beats_1225 : decode cL_beats 1225 = .ok (.iload_n 2, 1) := by decide +kernel
theorem dL_beats_1226 : decode cL_beats 1226 = .ok (.iload 12, 2) := by decide +kernel
theorem dL_beats_1228 : decode cL_beats 1228 = .ok (.iadd, 1) := by decide +kernel
theorem dL_beats_1229 : decode cL_beats 1229 = .ok (.istore_n 2, 1) := by decide +kernel
theorem dL_beats_1230 : decode cL_beats 1230 = .ok (.iinc 9 1, 3) := by decide +kernel
theorem dL_beats_1233 : decode cL_beats 1233 = .ok (.goto (-1202), 3) := by decide +kernel
theorem dL_beats_1236 : decode cL_beats 1236 = .ok (.iload 8, 2) := by decide +kernel
theorem dL_beats_1238 : decode cL_beats 1238 = .ok (.ifCond .eq 93, 3) := by decide +kernel
theorem dL_beats_1241 : decode cL_beats 1241 = .ok (.iload_n 2, 1) := by decide +kernel
theorem dL_beats_1242 : decode cL_beats 1242 = .ok (.aload_n 0, 1) := by decide +kernel
theorem dL_beats_1243 : decode cL_beats 1243 = .ok (.iconst 0, 1) := by decide +kernel
theorem dL_beats_1244 : decode cL_beats 1244 = .ok (.invokestatic 124, 3) := by decide +kernel
theorem dL_beats_1247 : decode cL_beats 1247 = .ok (.if_icmp .ne 84, 3) := by decide +kernel
theorem dL_beats_1250 : decode cL_beats 1250 = .ok (.aload 7, 2) := by decide +kernel
theorem dL_beats_1252 : decode cL_beats 1252 = .ok (.iconst 1, 1) := by decide +kernel
theorem dL_beats_1253 : decode cL_beats 1253 = .ok (.iaload, 1) := by decide +kernel
theorem dL_beats_1254 : decode cL_beats 1254 = .ok (.aload_n 0, 1) := by decide +kernel
theorem dL_beats_1255 : decode cL_beats 1255 = .ok (.iconst 1, 1) := by decide +kernel
theorem dL_beats_1256 : decode cL_beats 1256 = .ok (.invokestatic 124, 3) := by decide +kernel
theorem dL_beats_1259 : decode cL_beats 1259 = .ok (.if_icmp .ne 72, 3) := by decide +kernel
theorem dL_beats_1262 : decode cL_beats 1262 = .ok (.aload 7, 2) := by decide +kernel
theorem dL_beats_1264 : decode cL_beats 1264 = .ok (.iconst 2, 1) := by decide +kernel
theorem dL_beats_1265 : decode cL_beats 1265 = .ok (.iaload, 1) := by decide +kernel
theorem dL_beats_1266 : decode cL_beats 1266 = .ok (.aload_n 0, 1) := by decide +kernel
theorem dL_beats_1267 : decode cL_beats 1267 = .ok (.iconst 2, 1) := by decide +kernel
theorem dL_beats_1268 : decode cL_beats 1268 = .ok (.invokestatic 124, 3) := by decide +kernel
theorem dL_beats_1271 : decode cL_beats 1271 = .ok (.if_icmp .ne 60, 3) := by decide +kernel
theorem dL_beats_1274 : decode cL_beats 1274 = .ok (.aload 7, 2) := by decide +kernel
theorem dL_beats_1276 : decode cL_beats 1276 = .ok (.iconst 3, 1) := by decide +kernel
theorem dL_beats_1277 : decode cL_beats 1277 = .ok (.iaload, 1) := by decide +kernel
theorem dL_beats_1278 : decode cL_beats 1278 = .ok (.aload_n 0, 1) := by decide +kernel
theorem dL_beats_1279 : decode cL_beats 1279 = .ok (.iconst 3, 1) := by decide +kernel
theorem dL_beats_1280 : decode cL_beats 1280 = .ok (.invokestatic 124, 3) := by decide +kernel
theorem dL_beats_1283 : decode cL_beats 1283 = .ok (.if_icmp .ne 48, 3) := by decide +kernel
theorem dL_beats_1286 : decode cL_beats 1286 = .ok (.iload_n 3, 1) := by decide +kernel
theorem dL_beats_1287 : decode cL_beats 1287 = .ok (.aload_n 0, 1) := by decide +kernel
theorem dL_beats_1288 : decode cL_beats 1288 = .ok (.iconst 4, 1) := by decide +kernel
theorem dL_beats_1289 : decode cL_beats 1289 = .ok (.invokestatic 124, 3) := by decide +kernel
theorem dL_beats_1292 : decode cL_beats 1292 = .ok (.if_icmp .ne 39, 3) := by decide +kernel
theorem dL_beats_1295 : decode cL_beats 1295 = .ok (.iload 4, 2) := by decide +kernel
theorem dL_beats_1297 : decode cL_beats 1297 = .ok (.aload_n 0, 1) := by decide +kernel
theorem dL_beats_1298 : decode cL_beats 1298 = .ok (.iconst 5, 1) := by decide +kernel
theorem dL_beats_1299 : decode cL_beats 1299 = .ok (.invokestatic 124, 3) := by decide +kernel
theorem dL_beats_1302 : decode cL_beats 1302 = .ok (.if_icmp .ne 29, 3) := by decide +kernel
theorem dL_beats_1305 : decode cL_beats 1305 = .ok (.iload 5, 2) := by decide +kernel
theorem dL_beats_1307 : decode cL_beats 1307 = .ok (.aload_n 0, 1) := by decide +kernel
theorem dL_beats_1308 : decode cL_beats 1308 = .ok (.bipush 6, 2) := by decide +kernel
theorem dL_beats_1310 : decode cL_beats 1310 = .ok (.invokestatic 124, 3) := by decide +kernel
theorem dL_beats_1313 : decode cL_beats 1313 = .ok (.if_icmp .ne 18, 3) := by decide +kernel
theorem dL_beats_1316 : decode cL_beats 1316 = .ok (.iload 6, 2) := by decide +kernel
theorem dL_beats_1318 : decode cL_beats 1318 = .ok (.aload_n 0, 1) := by decide +kernel
theorem dL_beats_1319 : decode cL_beats 1319 = .ok (.bipush 7, 2) := by decide +kernel
theorem dL_beats_1321 : decode cL_beats 1321 = .ok (.invokestatic 124, 3) := by decide +kernel
theorem dL_beats_1324 : decode cL_beats 1324 = .ok (.if_icmp .ne 7, 3) := by decide +kernel
theorem dL_beats_1327 : decode cL_beats 1327 = .ok (.iconst 1, 1) := by decide +kernel
theorem dL_beats_1328 : decode cL_beats 1328 = .ok (.goto 4, 3) := by decide +kernel
theorem dL_beats_1331 : decode cL_beats 1331 = .ok (.iconst 0, 1) := by decide +kernel
theorem dL_beats_1332 : decode cL_beats 1332 = .ok (.ireturn, 1) := by decide +kernel
