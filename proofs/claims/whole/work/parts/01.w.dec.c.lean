theorem dX10_in_0 : decode cX10_in 0 = .ok (.iload_n 0, 1) := by decide +kernel
theorem dX10_in_1 : decode cX10_in 1 = .ok (.iload_n 1, 1) := by decide +kernel
theorem dX10_in_2 : decode cX10_in 2 = .ok (.if_icmp .lt 12, 3) := by decide +kernel
theorem dX10_in_5 : decode cX10_in 5 = .ok (.iload_n 0, 1) := by decide +kernel
theorem dX10_in_6 : decode cX10_in 6 = .ok (.iload_n 2, 1) := by decide +kernel
theorem dX10_in_7 : decode cX10_in 7 = .ok (.if_icmp .gt 7, 3) := by decide +kernel
theorem dX10_in_10 : decode cX10_in 10 = .ok (.iconst 1, 1) := by decide +kernel
theorem dX10_in_11 : decode cX10_in 11 = .ok (.goto 4, 3) := by decide +kernel
theorem dX10_in_14 : decode cX10_in 14 = .ok (.iconst 0, 1) := by decide +kernel
theorem dX10_in_15 : decode cX10_in 15 = .ok (.ireturn, 1) := by decide +kernel
theorem dX10_init_0 : decode cX10_init 0 = .ok (.aload_n 0, 1) := by decide +kernel
theorem dX10_init_1 : decode cX10_init 1 = .ok (.invokespecial 7, 3) := by decide +kernel
theorem dX10_init_4 : decode cX10_init 4 = .ok (.aload_n 0, 1) := by decide +kernel
theorem dX10_init_5 : decode cX10_init 5 = .ok (.bipush 12, 2) := by decide +kernel
theorem dX10_init_7 : decode cX10_init 7 = .ok (.newarray .int, 2) := by decide +kernel
theorem dX10_init_9 : decode cX10_init 9 = .ok (.putfield 13, 3) := by decide +kernel
theorem dX10_init_12 : decode cX10_init 12 = .ok (.aload_n 0, 1) := by decide +kernel
theorem dX10_init_13 : decode cX10_init 13 = .ok (.bipush 12, 2) := by decide +kernel
theorem dX10_init_15 : decode cX10_init 15 = .ok (.newarray .int, 2) := by decide +kernel
theorem dX10_init_17 : decode cX10_init 17 = .ok (.putfield 17, 3) := by decide +kernel
theorem dX10_init_20 : decode cX10_init 20 = .ok (.aload_n 0, 1) := by decide +kernel
theorem dX10_init_21 : decode cX10_init 21 = .ok (.bipush 12, 2) := by decide +kernel
theorem dX10_init_23 : decode cX10_init 23 = .ok (.newarray .int, 2) := by decide +kernel
theorem dX10_init_25 : decode cX10_init 25 = .ok (.putfield 20, 3) := by decide +kernel
theorem dX10_init_28 : decode cX10_init 28 = .ok (.aload_n 0, 1) := by decide +kernel
theorem dX10_init_29 : decode cX10_init 29 = .ok (.bipush 12, 2) := by decide +kernel
theorem dX10_init_31 : decode cX10_init 31 = .ok (.newarray .int, 2) := by decide +kernel
theorem dX10_init_33 : decode cX10_init 33 = .ok (.putfield 23, 3) := by decide +kernel
theorem dX10_init_36 : decode cX10_init 36 = .ok (.aload_n 0, 1) := by decide +kernel
theorem dX10_init_37 : decode cX10_init 37 = .ok (.bipush 12, 2) := by decide +kernel
theorem dX10_init_39 : decode cX10_init 39 = .ok (.newarray .int, 2) := by decide +kernel
theorem dX10_init_41 : decode cX10_init 41 = .ok (.putfield 26, 3) := by decide +kernel
theorem dX10_init_44 : decode cX10_init 44 = .ok (.aload_n 0, 1) := by decide +kernel
theorem dX10_init_45 : decode cX10_init 45 = .ok (.bipush 12, 2) := by decide +kernel
theorem dX10_init_47 : decode cX10_init 47 = .ok (.newarray .int, 2) := by decide +kernel
theorem dX10_init_49 : decode cX10_init 49 = .ok (.putfield 29, 3) := by decide +kernel
theorem dX10_init_52 : decode cX10_init 52 = .ok (.aload_n 0, 1) := by decide +kernel
theorem dX10_init_53 : decode cX10_init 53 = .ok (.bipush 12, 2) := by decide +kernel
theorem dX10_init_55 : decode cX10_init 55 = .ok (.newarray .int, 2) := by decide +kernel
theorem dX10_init_57 : decode cX10_init 57 = .ok (.putfield 32, 3) := by decide +kernel
theorem dX10_init_60 : decode cX10_init 60 = .ok (.aload_n 0, 1) := by decide +kernel
theorem dX10_init_61 : decode cX10_init 61 = .ok (.bipush 12, 2) := by decide +kernel
theorem dX10_init_63 : decode cX10_init 63 = .ok (.newarray .int, 2) := by decide +kernel
theorem dX10_init_65 : decode cX10_init 65 = .ok (.putfield 35, 3) := by decide +kernel
theorem dX10_init_68 : decode cX10_init 68 = .ok (.aload_n 0, 1) := by decide +kernel
theorem dX10_init_69 : decode cX10_init 69 = .ok (.bipush 50, 2) := by decide +kernel
theorem dX10_init_71 : decode cX10_init 71 = .ok (.putfield 38, 3) := by decide +kernel
theorem dX10_init_74 : decode cX10_init 74 = .ok (.aload_n 0, 1) := by decide +kernel
theorem dX10_init_75 : decode cX10_init 75 = .ok (.bipush 61, 2) := by decide +kernel
theorem dX10_init_77 : decode cX10_init 77 = .ok (.newarray .long, 2) := by decide +kernel
theorem dX10_init_79 : decode cX10_init 79 = .ok (.putfield 41, 3) := by decide +kernel
theorem dX10_init_82 : decode cX10_init 82 = .ok (.aload_n 0, 1) := by decide +kernel
theorem dX10_init_83 : decode cX10_init 83 = .ok (.bipush 61, 2) := by decide +kernel
theorem dX10_init_85 : decode cX10_init 85 = .ok (.newarray .long, 2) := by decide +kernel
theorem dX10_init_87 : decode cX10_init 87 = .ok (.putfield 45, 3) := by decide +kernel
theorem dX10_init_90 : decode cX10_init 90 = .ok (.aload_n 0, 1) := by decide +kernel
theorem dX10_init_91 : decode cX10_init 91 = .ok (.bipush 61, 2) := by decide +kernel
theorem dX10_init_93 : decode cX10_init 93 = .ok (.newarray .long, 2) := by decide +kernel
theorem dX10_init_95 : decode cX10_init 95 = .ok (.putfield 48, 3) := by decide +kernel
theorem dX10_init_98 : decode cX10_init 98 = .ok (.aload_n 0, 1) := by decide +kernel
theorem dX10_init_99 : decode cX10_init 99 = .ok (.bipush 61, 2) := by decide +kernel
theorem dX10_init_101 : decode cX10_init 101 = .ok (.newarray .long, 2) := by decide +kernel
theorem dX10_init_103 : decode cX10_init 103 = .ok (.putfield 51, 3) := by decide +kernel
theorem dX10_init_106 : decode cX10_init 106 = .ok (.aload_n 0, 1) := by decide +kernel
theorem dX10_init_107 : decode cX10_init 107 = .ok (.bipush 61, 2) := by decide +kernel
theorem dX10_init_109 : decode cX10_init 109 = .ok (.newarray .long, 2) := by decide +kernel
theorem dX10_init_111 : decode cX10_init 111 = .ok (.putfield 54, 3) := by decide +kernel
theorem dX10_init_114 : decode cX10_init 114 = .ok (.aload_n 0, 1) := by decide +kernel
theorem dX10_init_115 : decode cX10_init 115 = .ok (.bipush 61, 2) := by decide +kernel
theorem dX10_init_117 : decode cX10_init 117 = .ok (.newarray .long, 2) := by decide +kernel
theorem dX10_init_119 : decode cX10_init 119 = .ok (.putfield 57, 3) := by decide +kernel
theorem dX10_init_122 : decode cX10_init 122 = .ok (.aload_n 0, 1) := by decide +kernel
theorem dX10_init_123 : decode cX10_init 123 = .ok (.bipush 61, 2) := by decide +kernel
theorem dX10_init_125 : decode cX10_init 125 = .ok (.newarray .long, 2) := by decide +kernel
theorem dX10_init_127 : decode cX10_init 127 = .ok (.putfield 60, 3) := by decide +kernel
theorem dX10_init_130 : decode cX10_init 130 = .ok (.aload_n 0, 1) := by decide +kernel
theorem dX10_init_131 : decode cX10_init 131 = .ok (.bipush 61, 2) := by decide +kernel
theorem dX10_init_133 : decode cX10_init 133 = .ok (.newarray .long, 2) := by decide +kernel
theorem dX10_init_135 : decode cX10_init 135 = .ok (.putfield 63, 3) := by decide +kernel
theorem dX10_init_138 : decode cX10_init 138 = .ok (.aload_n 0, 1) := by decide +kernel
theorem dX10_init_139 : decode cX10_init 139 = .ok (.bipush 61, 2) := by decide +kernel
theorem dX10_init_141 : decode cX10_init 141 = .ok (.newarray .int, 2) := by decide +kernel
theorem dX10_init_143 : decode cX10_init 143 = .ok (.putfield 66, 3) := by decide +kernel
theorem dX10_init_146 : decode cX10_init 146 = .ok (.aload_n 0, 1) := by decide +kernel
theorem dX10_init_147 : decode cX10_init 147 = .ok (.sipush 1120, 3) := by decide +kernel
theorem dX10_init_150 : decode cX10_init 150 = .ok (.newarray .int, 2) := by decide +kernel
theorem dX10_init_152 : decode cX10_init 152 = .ok (.putfield 69, 3) := by decide +kernel
theorem dX10_init_155 : decode cX10_init 155 = .ok (.aload_n 0, 1) := by decide +kernel
theorem dX10_init_156 : decode cX10_init 156 = .ok (.bipush 7, 2) := by decide +kernel
theorem dX10_init_158 : decode cX10_init 158 = .ok (.newarray .int, 2) := by decide +kernel
theorem dX10_init_160 : decode cX10_init 160 = .ok (.putfield 72, 3) := by decide +kernel
theorem dX10_init_163 : decode cX10_init 163 = .ok (.aload_n 0, 1) := by decide +kernel
theorem dX10_init_164 : decode cX10_init 164 = .ok (.sipush 160, 3) := by decide +kernel
theorem dX10_init_167 : decode cX10_init 167 = .ok (.newarray .int, 2) := by decide +kernel
theorem dX10_init_169 : decode cX10_init 169 = .ok (.putfield 75, 3) := by decide +kernel
theorem dX10_init_172 : decode cX10_init 172 = .ok (.aload_n 0, 1) := by decide +kernel
theorem dX10_init_173 : decode cX10_init 173 = .ok (.bipush 6, 2) := by decide +kernel
theorem dX10_init_175 : decode cX10_init 175 = .ok (.newarray .int, 2) := by decide +kernel
theorem dX10_init_177 : decode cX10_init 177 = .ok (.putfield 78, 3) := by decide +kernel
theorem dX10_init_180 : decode cX10_init 180 = .ok (.aload_n 0, 1) := by decide +kernel
theorem dX10_init_181 : decode cX10_init 181 = .ok (.bipush 60, 2) := by decide +kernel
theorem dX10_init_183 : decode cX10_init 183 = .ok (.newarray .int, 2) := by decide +kernel
theorem dX10_init_185 : decode cX10_init 185 = .ok (.putfield 81, 3) := by decide +kernel
theorem dX10_init_188 : decode cX10_init 188 = .ok (.aload_n 0, 1) := by decide +kernel
theorem dX10_init_189 : decode cX10_init 189 = .ok (.bipush 60, 2) := by decide +kernel
theorem dX10_init_191 : decode cX10_init 191 = .ok (.newarray .int, 2) := by decide +kernel
theorem dX10_init_193 : decode cX10_init 193 = .ok (.putfield 84, 3) := by decide +kernel
theorem dX10_init_196 : decode cX10_init 196 = .ok (.aload_n 0, 1) := by decide +kernel
theorem dX10_init_197 : decode cX10_init 197 = .ok (.bipush 60, 2) := by decide +kernel
theorem dX10_init_199 : decode cX10_init 199 = .ok (.newarray .int, 2) := by decide +kernel
theorem dX10_init_201 : decode cX10_init 201 = .ok (.putfield 87, 3) := by decide +kernel
theorem dX10_init_204 : decode cX10_init 204 = .ok (.aload_n 0, 1) := by decide +kernel
theorem dX10_init_205 : decode cX10_init 205 = .ok (.bipush 60, 2) := by decide +kernel
theorem dX10_init_207 : decode cX10_init 207 = .ok (.newarray .int, 2) := by decide +kernel
theorem dX10_init_209 : decode cX10_init 209 = .ok (.putfield 90, 3) := by decide +kernel
theorem dX10_init_212 : decode cX10_init 212 = .ok (.aload_n 0, 1) := by decide +kernel
theorem dX10_init_213 : decode cX10_init 213 = .ok (.bipush 60, 2) := by decide +kernel
theorem dX10_init_215 : decode cX10_init 215 = .ok (.newarray .int, 2) := by decide +kernel
theorem dX10_init_217 : decode cX10_init 217 = .ok (.putfield 93, 3) := by decide +kernel
theorem dX10_init_220 : decode cX10_init 220 = .ok (.aload_n 0, 1) := by decide +kernel
theorem dX10_init_221 : decode cX10_init 221 = .ok (.bipush 60, 2) := by decide +kernel
theorem dX10_init_223 : decode cX10_init 223 = .ok (.newarray .int, 2) := by decide +kernel
theorem dX10_init_225 : decode cX10_init 225 = .ok (.putfield 96, 3) := by decide +kernel
theorem dX10_init_228 : decode cX10_init 228 = .ok (.aload_n 0, 1) := by decide +kernel
theorem dX10_init_229 : decode cX10_init 229 = .ok (.iconst 5, 1) := by decide +kernel
theorem dX10_init_230 : decode cX10_init 230 = .ok (.newarray .long, 2) := by decide +kernel
theorem dX10_init_232 : decode cX10_init 232 = .ok (.putfield 99, 3) := by decide +kernel
theorem dX10_init_235 : decode cX10_init 235 = .ok (.aload_n 0, 1) := by decide +kernel
theorem dX10_init_236 : decode cX10_init 236 = .ok (.iconst 5, 1) := by decide +kernel
theorem dX10_init_237 : decode cX10_init 237 = .ok (.newarray .int, 2) := by decide +kernel
theorem dX10_init_239 : decode cX10_init 239 = .ok (.putfield 102, 3) := by decide +kernel
theorem dX10_init_242 : decode cX10_init 242 = .ok (.aload_n 0, 1) := by decide +kernel
theorem dX10_init_243 : decode cX10_init 243 = .ok (.iconst 5, 1) := by decide +kernel
theorem dX10_init_244 : decode cX10_init 244 = .ok (.newarray .long, 2) := by decide +kernel
theorem dX10_init_246 : decode cX10_init 246 = .ok (.putfield 105, 3) := by decide +kernel
theorem dX10_init_249 : decode cX10_init 249 = .ok (.aload_n 0, 1) := by decide +kernel
theorem dX10_init_250 : decode cX10_init 250 = .ok (.iconst 5, 1) := by decide +kernel
theorem dX10_init_251 : decode cX10_init 251 = .ok (.newarray .long, 2) := by decide +kernel
theorem dX10_init_253 : decode cX10_init 253 = .ok (.putfield 108, 3) := by decide +kernel
theorem dX10_init_256 : decode cX10_init 256 = .ok (.aload_n 0, 1) := by decide +kernel
theorem dX10_init_257 : decode cX10_init 257 = .ok (.iconst 5, 1) := by decide +kernel
theorem dX10_init_258 : decode cX10_init 258 = .ok (.newarray .long, 2) := by decide +kernel
theorem dX10_init_260 : decode cX10_init 260 = .ok (.putfield 111, 3) := by decide +kernel
theorem dX10_init_263 : decode cX10_init 263 = .ok (.aload_n 0, 1) := by decide +kernel
theorem dX10_init_264 : decode cX10_init 264 = .ok (.iconst 5, 1) := by decide +kernel
theorem dX10_init_265 : decode cX10_init 265 = .ok (.newarray .long, 2) := by decide +kernel
theorem dX10_init_267 : decode cX10_init 267 = .ok (.putfield 114, 3) := by decide +kernel
theorem dX10_init_270 : decode cX10_init 270 = .ok (.aload_n 0, 1) := by decide +kernel
theorem dX10_init_271 : decode cX10_init 271 = .ok (.iconst 5, 1) := by decide +kernel
theorem dX10_init_272 : decode cX10_init 272 = .ok (.newarray .long, 2) := by decide +kernel
theorem dX10_init_274 : decode cX10_init 274 = .ok (.putfield 117, 3) := by decide +kernel
theorem dX10_init_277 : decode cX10_init 277 = .ok (.aload_n 0, 1) := by decide +kernel
theorem dX10_init_278 : decode cX10_init 278 = .ok (.iconst 5, 1) := by decide +kernel
theorem dX10_init_279 : decode cX10_init 279 = .ok (.newarray .long, 2) := by decide +kernel
theorem dX10_init_281 : decode cX10_init 281 = .ok (.putfield 120, 3) := by decide +kernel
theorem dX10_init_284 : decode cX10_init 284 = .ok (.aload_n 0, 1) := by decide +kernel
theorem dX10_init_285 : decode cX10_init 285 = .ok (.iconst 5, 1) := by decide +kernel
theorem dX10_init_286 : decode cX10_init 286 = .ok (.newarray .long, 2) := by decide +kernel
theorem dX10_init_288 : decode cX10_init 288 = .ok (.putfield 123, 3) := by decide +kernel
theorem dX10_init_291 : decode cX10_init 291 = .ok (.aload_n 0, 1) := by decide +kernel
theorem dX10_init_292 : decode cX10_init 292 = .ok (.bipush 62, 2) := by decide +kernel
theorem dX10_init_294 : decode cX10_init 294 = .ok (.newarray .int, 2) := by decide +kernel
theorem dX10_init_296 : decode cX10_init 296 = .ok (.putfield 126, 3) := by decide +kernel
theorem dX10_init_299 : decode cX10_init 299 = .ok (.aload_n 0, 1) := by decide +kernel
theorem dX10_init_300 : decode cX10_init 300 = .ok (.sipush 1000, 3) := by decide +kernel
theorem dX10_init_303 : decode cX10_init 303 = .ok (.putfield 129, 3) := by decide +kernel
theorem dX10_init_306 : decode cX10_init 306 = .ok (.aload_n 0, 1) := by decide +kernel
theorem dX10_init_307 : decode cX10_init 307 = .ok (.iconst 1, 1) := by decide +kernel
theorem dX10_init_308 : decode cX10_init 308 = .ok (.putfield 132, 3) := by decide +kernel
theorem dX10_init_311 : decode cX10_init 311 = .ok (.aload_n 0, 1) := by decide +kernel
theorem dX10_init_312 : decode cX10_init 312 = .ok (.bipush 61, 2) := by decide +kernel
theorem dX10_init_314 : decode cX10_init 314 = .ok (.newarray .long, 2) := by decide +kernel
theorem dX10_init_316 : decode cX10_init 316 = .ok (.putfield 135, 3) := by decide +kernel
theorem dX10_init_319 : decode cX10_init 319 = .ok (.aload_n 0, 1) := by decide +kernel
theorem dX10_init_320 : decode cX10_init 320 = .ok (.bipush 61, 2) := by decide +kernel
theorem dX10_init_322 : decode cX10_init 322 = .ok (.newarray .long, 2) := by decide +kernel
theorem dX10_init_324 : decode cX10_init 324 = .ok (.putfield 138, 3) := by decide +kernel
theorem dX10_init_327 : decode cX10_init 327 = .ok (.aload_n 0, 1) := by decide +kernel
theorem dX10_init_328 : decode cX10_init 328 = .ok (.bipush 61, 2) := by decide +kernel
theorem dX10_init_330 : decode cX10_init 330 = .ok (.newarray .boolean, 2) := by decide +kernel
theorem dX10_init_332 : decode cX10_init 332 = .ok (.putfield 141, 3) := by decide +kernel
theorem dX10_init_335 : decode cX10_init 335 = .ok (.aload_n 0, 1) := by decide +kernel
theorem dX10_init_336 : decode cX10_init 336 = .ok (.sipush 610, 3) := by decide +kernel
theorem dX10_init_339 : decode cX10_init 339 = .ok (.newarray .long, 2) := by decide +kernel
theorem dX10_init_341 : decode cX10_init 341 = .ok (.putfield 145, 3) := by decide +kernel
theorem dX10_init_344 : decode cX10_init 344 = .ok (.aload_n 0, 1) := by decide +kernel
theorem dX10_init_345 : decode cX10_init 345 = .ok (.sipush 200, 3) := by decide +kernel
theorem dX10_init_348 : decode cX10_init 348 = .ok (.newarray .long, 2) := by decide +kernel
theorem dX10_init_350 : decode cX10_init 350 = .ok (.putfield 148, 3) := by decide +kernel
theorem dX10_init_353 : decode cX10_init 353 = .ok (.aload_n 0, 1) := by decide +kernel
theorem dX10_init_354 : decode cX10_init 354 = .ok (.iconst 4, 1) := by decide +kernel
theorem dX10_init_355 : decode cX10_init 355 = .ok (.newarray .boolean, 2) := by decide +kernel
theorem dX10_init_357 : decode cX10_init 357 = .ok (.putfield 151, 3) := by decide +kernel
theorem dX10_init_360 : decode cX10_init 360 = .ok (.aload_n 0, 1) := by decide +kernel
theorem dX10_init_361 : decode cX10_init 361 = .ok (.iconst 4, 1) := by decide +kernel
theorem dX10_init_362 : decode cX10_init 362 = .ok (.newarray .int, 2) := by decide +kernel
theorem dX10_init_364 : decode cX10_init 364 = .ok (.putfield 154, 3) := by decide +kernel
theorem dX10_init_367 : decode cX10_init 367 = .ok (.aload_n 0, 1) := by decide +kernel
theorem dX10_init_368 : decode cX10_init 368 = .ok (.iconst 4, 1) := by decide +kernel
theorem dX10_init_369 : decode cX10_init 369 = .ok (.newarray .int, 2) := by decide +kernel
theorem dX10_init_371 : decode cX10_init 371 = .ok (.putfield 157, 3) := by decide +kernel
theorem dX10_init_374 : decode cX10_init 374 = .ok (.aload_n 0, 1) := by decide +kernel
theorem dX10_init_375 : decode cX10_init 375 = .ok (.sipush 160, 3) := by decide +kernel
theorem dX10_init_378 : decode cX10_init 378 = .ok (.newarray .int, 2) := by decide +kernel
theorem dX10_init_380 : decode cX10_init 380 = .ok (.putfield 160, 3) := by decide +kernel
theorem dX10_init_383 : decode cX10_init 383 = .ok (.aload_n 0, 1) := by decide +kernel
theorem dX10_init_384 : decode cX10_init 384 = .ok (.iconst 0, 1) := by decide +kernel
theorem dX10_init_385 : decode cX10_init 385 = .ok (.ldc2_w 163, 3) := by decide +kernel
theorem dX10_init_388 : decode cX10_init 388 = .ok (.invokevirtual 165, 3) := by decide +kernel
theorem dX10_init_391 : decode cX10_init 391 = .ok (.aload_n 0, 1) := by decide +kernel
theorem dX10_init_392 : decode cX10_init 392 = .ok (.bipush 8, 2) := by decide +kernel
theorem dX10_init_394 : decode cX10_init 394 = .ok (.ldc2_w 169, 3) := by decide +kernel
theorem dX10_init_397 : decode cX10_init 397 = .ok (.invokevirtual 165, 3) := by decide +kernel
theorem dX10_init_400 : decode cX10_init 400 = .ok (.aload_n 0, 1) := by decide +kernel
theorem dX10_init_401 : decode cX10_init 401 = .ok (.bipush 16, 2) := by decide +kernel
theorem dX10_init_403 : decode cX10_init 403 = .ok (.ldc2_w 171, 3) := by decide +kernel
theorem dX10_init_406 : decode cX10_init 406 = .ok (.invokevirtual 165, 3) := by decide +kernel
theorem dX10_init_409 : decode cX10_init 409 = .ok (.aload_n 0, 1) := by decide +kernel
theorem dX10_init_410 : decode cX10_init 410 = .ok (.bipush 24, 2) := by decide +kernel
theorem dX10_init_412 : decode cX10_init 412 = .ok (.ldc2_w 173, 3) := by decide +kernel
theorem dX10_init_415 : decode cX10_init 415 = .ok (.invokevirtual 165, 3) := by decide +kernel
theorem dX10_init_418 : decode cX10_init 418 = .ok (.aload_n 0, 1) := by decide +kernel
theorem dX10_init_419 : decode cX10_init 419 = .ok (.getfield 72, 3) := by decide +kernel
theorem dX10_init_422 : decode cX10_init 422 = .ok (.iconst 0, 1) := by decide +kernel
theorem dX10_init_423 : decode cX10_init 423 = .ok (.bipush 32, 2) := by decide +kernel
theorem dX10_init_425 : decode cX10_init 425 = .ok (.iastore, 1) := by decide +kernel
theorem dX10_init_426 : decode cX10_init 426 = .ok (.aload_n 0, 1) := by decide +kernel
theorem dX10_init_427 : decode cX10_init 427 = .ok (.iconst 1, 1) := by decide +kernel
theorem dX10_init_428 : decode cX10_init 428 = .ok (.putfield 175, 3) := by decide +kernel
theorem dX10_init_431 : decode cX10_init 431 = .ok (.aload_n 0, 1) := by decide +kernel
theorem dX10_init_432 : decode cX10_init 432 = .ok (.getfield 78, 3) := by decide +kernel
theorem dX10_init_435 : decode cX10_init 435 = .ok (.iconst 0, 1) := by decide +kernel
theorem dX10_init_436 : decode cX10_init 436 = .ok (.iconst 1, 1) := by decide +kernel
theorem dX10_init_437 : decode cX10_init 437 = .ok (.iastore, 1) := by decide +kernel
theorem dX10_init_438 : decode cX10_init 438 = .ok (.aload_n 0, 1) := by decide +kernel
theorem dX10_init_439 : decode cX10_init 439 = .ok (.getfield 81, 3) := by decide +kernel
theorem dX10_init_442 : decode cX10_init 442 = .ok (.iconst 0, 1) := by decide +kernel
theorem dX10_init_443 : decode cX10_init 443 = .ok (.iconst 5, 1) := by decide +kernel
theorem dX10_init_444 : decode cX10_init 444 = .ok (.iastore, 1) := by decide +kernel
theorem dX10_init_445 : decode cX10_init 445 = .ok (.aload_n 0, 1) := by decide +kernel
theorem dX10_init_446 : decode cX10_init 446 = .ok (.getfield 84, 3) := by decide +kernel
theorem dX10_init_449 : decode cX10_init 449 = .ok (.iconst 0, 1) := by decide +kernel
theorem dX10_init_450 : decode cX10_init 450 = .ok (.iconst (-1), 1) := by decide +kernel
theorem dX10_init_451 : decode cX10_init 451 = .ok (.iastore, 1) := by decide +kernel
theorem dX10_init_452 : decode cX10_init 452 = .ok (.aload_n 0, 1) := by decide +kernel
theorem dX10_init_453 : decode cX10_init 453 = .ok (.getfield 87, 3) := by decide +kernel
theorem dX10_init_456 : decode cX10_init 456 = .ok (.iconst 0, 1) := by decide +kernel
theorem dX10_init_457 : decode cX10_init 457 = .ok (.iconst (-1), 1) := by decide +kernel
theorem dX10_init_458 : decode cX10_init 458 = .ok (.iastore, 1) := by decide +kernel
theorem dX10_init_459 : decode cX10_init 459 = .ok (.aload_n 0, 1) := by decide +kernel
theorem dX10_init_460 : decode cX10_init 460 = .ok (.getfield 93, 3) := by decide +kernel
theorem dX10_init_463 : decode cX10_init 463 = .ok (.iconst 0, 1) := by decide +kernel
theorem dX10_init_464 : decode cX10_init 464 = .ok (.iconst (-1), 1) := by decide +kernel
theorem dX10_init_465 : decode cX10_init 465 = .ok (.iastore, 1) := by decide +kernel
theorem dX10_init_466 : decode cX10_init 466 = .ok (.aload_n 0, 1) := by decide +kernel
theorem dX10_init_467 : decode cX10_init 467 = .ok (.getfield 96, 3) := by decide +kernel
theorem dX10_init_470 : decode cX10_init 470 = .ok (.iconst 0, 1) := by decide +kernel
theorem dX10_init_471 : decode cX10_init 471 = .ok (.iconst (-1), 1) := by decide +kernel
theorem dX10_init_472 : decode cX10_init 472 = .ok (.iastore, 1) := by decide +kernel
theorem dX10_init_473 : decode cX10_init 473 = .ok (.aload_n 0, 1) := by decide +kernel
theorem dX10_init_474 : decode cX10_init 474 = .ok (.iconst 1, 1) := by decide +kernel
theorem dX10_init_475 : decode cX10_init 475 = .ok (.putfield 178, 3) := by decide +kernel
theorem dX10_init_478 : decode cX10_init 478 = .ok (.return_, 1) := by decide +kernel
theorem dX10_spell_0 : decode cX10_spell 0 = .ok (.iconst 0, 1) := by decide +kernel
theorem dX10_spell_1 : decode cX10_spell 1 = .ok (.istore 4, 2) := by decide +kernel
theorem dX10_spell_3 : decode cX10_spell 3 = .ok (.iload 4, 2) := by decide +kernel
theorem dX10_spell_5 : decode cX10_spell 5 = .ok (.bipush 8, 2) := by decide +kernel
theorem dX10_spell_7 : decode cX10_spell 7 = .ok (.if_icmp .ge 33, 3) := by decide +kernel
theorem dX10_spell_10 : decode cX10_spell 10 = .ok (.aload_n 0, 1) := by decide +kernel
theorem dX10_spell_11 : decode cX10_spell 11 = .ok (.getfield 69, 3) := by decide +kernel
theorem dX10_spell_14 : decode cX10_spell 14 = .ok (.iload_n 1, 1) := by decide +kernel
theorem dX10_spell_15 : decode cX10_spell 15 = .ok (.iload 4, 2) := by decide +kernel
theorem dX10_spell_17 : decode cX10_spell 17 = .ok (.iadd, 1) := by decide +kernel
theorem dX10_spell_18 : decode cX10_spell 18 = .ok (.lload_n 2, 1) := by decide +kernel
theorem dX10_spell_19 : decode cX10_spell 19 = .ok (.bipush 56, 2) := by decide +kernel
theorem dX10_spell_21 : decode cX10_spell 21 = .ok (.bipush 8, 2) := by decide +kernel
theorem dX10_spell_23 : decode cX10_spell 23 = .ok (.iload 4, 2) := by decide +kernel
theorem dX10_spell_25 : decode cX10_spell 25 = .ok (.imul, 1) := by decide +kernel
theorem dX10_spell_26 : decode cX10_spell 26 = .ok (.isub, 1) := by decide +kernel
theorem dX10_spell_27 : decode cX10_spell 27 = .ok (.lshr, 1) := by decide +kernel
theorem dX10_spell_28 : decode cX10_spell 28 = .ok (.ldc2_w 181, 3) := by decide +kernel
theorem dX10_spell_31 : decode cX10_spell 31 = .ok (.land, 1) := by decide +kernel
theorem dX10_spell_32 : decode cX10_spell 32 = .ok (.l2i, 1) := by decide +kernel
theorem dX10_spell_33 : decode cX10_spell 33 = .ok (.iastore, 1) := by decide +kernel
theorem dX10_spell_34 : decode cX10_spell 34 = .ok (.iinc 4 1, 3) := by decide +kernel
theorem dX10_spell_37 : decode cX10_spell 37 = .ok (.goto (-34), 3) := by decide +kernel
theorem dX10_spell_40 : decode cX10_spell 40 = .ok (.return_, 1) := by decide +kernel
theorem dX10_isLoan_0 : decode cX10_isLoan 0 = .ok (.iload_n 1, 1) := by decide +kernel
theorem dX10_isLoan_1 : decode cX10_isLoan 1 = .ok (.iconst 0, 1) := by decide +kernel
theorem dX10_isLoan_2 : decode cX10_isLoan 2 = .ok (.aload_n 0, 1) := by decide +kernel
theorem dX10_isLoan_3 : decode cX10_isLoan 3 = .ok (.getfield 183, 3) := by decide +kernel
theorem dX10_isLoan_6 : decode cX10_isLoan 6 = .ok (.iconst 1, 1) := by decide +kernel
theorem dX10_isLoan_7 : decode cX10_isLoan 7 = .ok (.isub, 1) := by decide +kernel
theorem dX10_isLoan_8 : decode cX10_isLoan 8 = .ok (.invokestatic 186, 3) := by decide +kernel
theorem dX10_isLoan_11 : decode cX10_isLoan 11 = .ok (.ireturn, 1) := by decide +kernel
theorem dX10_isTold_0 : decode cX10_isTold 0 = .ok (.iload_n 0, 1) := by decide +kernel
theorem dX10_isTold_1 : decode cX10_isTold 1 = .ok (.iconst 0, 1) := by decide +kernel
theorem dX10_isTold_2 : decode cX10_isTold 2 = .ok (.iconst 5, 1) := by decide +kernel
theorem dX10_isTold_3 : decode cX10_isTold 3 = .ok (.invokestatic 186, 3) := by decide +kernel
theorem dX10_isTold_6 : decode cX10_isTold 6 = .ok (.ifCond .eq 40, 3) := by decide +kernel
theorem dX10_isTold_9 : decode cX10_isTold 9 = .ok (.iload_n 1, 1) := by decide +kernel
theorem dX10_isTold_10 : decode cX10_isTold 10 = .ok (.sipush 1000, 3) := by decide +kernel
theorem dX10_isTold_13 : decode cX10_isTold 13 = .ok (.ldc 190, 2) := by decide +kernel
theorem dX10_isTold_15 : decode cX10_isTold 15 = .ok (.invokestatic 186, 3) := by decide +kernel
theorem dX10_isTold_18 : decode cX10_isTold 18 = .ok (.ifCond .eq 28, 3) := by decide +kernel
theorem dX10_isTold_21 : decode cX10_isTold 21 = .ok (.iload_n 2, 1) := by decide +kernel
theorem dX10_isTold_22 : decode cX10_isTold 22 = .ok (.iconst 0, 1) := by decide +kernel
theorem dX10_isTold_23 : decode cX10_isTold 23 = .ok (.sipush 200, 3) := by decide +kernel
theorem dX10_isTold_26 : decode cX10_isTold 26 = .ok (.invokestatic 186, 3) := by decide +kernel
theorem dX10_isTold_29 : decode cX10_isTold 29 = .ok (.ifCond .eq 17, 3) := by decide +kernel
theorem dX10_isTold_32 : decode cX10_isTold 32 = .ok (.iload_n 3, 1) := by decide +kernel
theorem dX10_isTold_33 : decode cX10_isTold 33 = .ok (.iconst 1, 1) := by decide +kernel
theorem dX10_isTold_34 : decode cX10_isTold 34 = .ok (.bipush 60, 2) := by decide +kernel
theorem dX10_isTold_36 : decode cX10_isTold 36 = .ok (.invokestatic 186, 3) := by decide +kernel
theorem dX10_isTold_39 : decode cX10_isTold 39 = .ok (.ifCond .eq 7, 3) := by decide +kernel
theorem dX10_isTold_42 : decode cX10_isTold 42 = .ok (.iconst 1, 1) := by decide +kernel
theorem dX10_isTold_43 : decode cX10_isTold 43 = .ok (.goto 4, 3) := by decide +kernel
theorem dX10_isTold_46 : decode cX10_isTold 46 = .ok (.iconst 0, 1) := by decide +kernel
theorem dX10_isTold_47 : decode cX10_isTold 47 = .ok (.ireturn, 1) := by decide +kernel
theorem dX10_loan_0 : decode cX10_loan 0 = .ok (.iload_n 1, 1) := by decide +kernel
theorem dX10_loan_1 : decode cX10_loan 1 = .ok (.iload_n 2, 1) := by decide +kernel
theorem dX10_loan_2 : decode cX10_loan 2 = .ok (.iload_n 3, 1) := by decide +kernel
theorem dX10_loan_3 : decode cX10_loan 3 = .ok (.iload 4, 2) := by decide +kernel
theorem dX10_loan_5 : decode cX10_loan 5 = .ok (.invokestatic 191, 3) := by decide +kernel
theorem dX10_loan_8 : decode cX10_loan 8 = .ok (.ifCond .ne 6, 3) := by decide +kernel
theorem dX10_loan_11 : decode cX10_loan 11 = .ok (.bipush (-2), 2) := by decide +kernel
theorem dX10_loan_13 : decode cX10_loan 13 = .ok (.ireturn, 1) := by decide +kernel
theorem dX10_loan_14 : decode cX10_loan 14 = .ok (.aload_n 0, 1) := by decide +kernel
theorem dX10_loan_15 : decode cX10_loan 15 = .ok (.getfield 195, 3) := by decide +kernel
theorem dX10_loan_18 : decode cX10_loan 18 = .ok (.ifCond .le 6, 3) := by decide +kernel
theorem dX10_loan_21 : decode cX10_loan 21 = .ok (.bipush (-3), 2) := by decide +kernel
theorem dX10_loan_23 : decode cX10_loan 23 = .ok (.ireturn, 1) := by decide +kernel
theorem dX10_loan_24 : decode cX10_loan 24 = .ok (.aload_n 0, 1) := by decide +kernel
theorem dX10_loan_25 : decode cX10_loan 25 = .ok (.getfield 183, 3) := by decide +kernel
theorem dX10_loan_28 : decode cX10_loan 28 = .ok (.bipush 12, 2) := by decide +kernel
theorem dX10_loan_30 : decode cX10_loan 30 = .ok (.if_icmp .ne 6, 3) := by decide +kernel
theorem dX10_loan_33 : decode cX10_loan 33 = .ok (.bipush (-4), 2) := by decide +kernel
theorem dX10_loan_35 : decode cX10_loan 35 = .ok (.ireturn, 1) := by decide +kernel
theorem dX10_loan_36 : decode cX10_loan 36 = .ok (.aload_n 0, 1) := by decide +kernel
theorem dX10_loan_37 : decode cX10_loan 37 = .ok (.getfield 13, 3) := by decide +kernel
theorem dX10_loan_40 : decode cX10_loan 40 = .ok (.aload_n 0, 1) := by decide +kernel
theorem dX10_loan_41 : decode cX10_loan 41 = .ok (.getfield 183, 3) := by decide +kernel
theorem dX10_loan_44 : decode cX10_loan 44 = .ok (.iload_n 1, 1) := by decide +kernel
theorem dX10_loan_45 : decode cX10_loan 45 = .ok (.iastore, 1) := by decide +kernel
theorem dX10_loan_46 : decode cX10_loan 46 = .ok (.aload_n 0, 1) := by decide +kernel
theorem dX10_loan_47 : decode cX10_loan 47 = .ok (.getfield 17, 3) := by decide +kernel
theorem dX10_loan_50 : decode cX10_loan 50 = .ok (.aload_n 0, 1) := by decide +kernel
theorem dX10_loan_51 : decode cX10_loan 51 = .ok (.getfield 183, 3) := by decide +kernel
theorem dX10_loan_54 : decode cX10_loan 54 = .ok (.iload_n 2, 1) := by decide +kernel
theorem dX10_loan_55 : decode cX10_loan 55 = .ok (.iastore, 1) := by decide +kernel
theorem dX10_loan_56 : decode cX10_loan 56 = .ok (.aload_n 0, 1) := by decide +kernel
theorem dX10_loan_57 : decode cX10_loan 57 = .ok (.getfield 20, 3) := by decide +kernel
theorem dX10_loan_60 : decode cX10_loan 60 = .ok (.aload_n 0, 1) := by decide +kernel
theorem dX10_loan_61 : decode cX10_loan 61 = .ok (.getfield 183, 3) := by decide +kernel
theorem dX10_loan_64 : decode cX10_loan 64 = .ok (.iload_n 3, 1) := by decide +kernel
theorem dX10_loan_65 : decode cX10_loan 65 = .ok (.iastore, 1) := by decide +kernel
theorem dX10_loan_66 : decode cX10_loan 66 = .ok (.aload_n 0, 1) := by decide +kernel
theorem dX10_loan_67 : decode cX10_loan 67 = .ok (.getfield 23, 3) := by decide +kernel
theorem dX10_loan_70 : decode cX10_loan 70 = .ok (.aload_n 0, 1) := by decide +kernel
theorem dX10_loan_71 : decode cX10_loan 71 = .ok (.getfield 183, 3) := by decide +kernel
theorem dX10_loan_74 : decode cX10_loan 74 = .ok (.iload 4, 2) := by decide +kernel
theorem dX10_loan_76 : decode cX10_loan 76 = .ok (.iastore, 1) := by decide +kernel
theorem dX10_loan_77 : decode cX10_loan 77 = .ok (.aload_n 0, 1) := by decide +kernel
theorem dX10_loan_78 : decode cX10_loan 78 = .ok (.getfield 26, 3) := by decide +kernel
theorem dX10_loan_81 : decode cX10_loan 81 = .ok (.aload_n 0, 1) := by decide +kernel
theorem dX10_loan_82 : decode cX10_loan 82 = .ok (.getfield 183, 3) := by decide +kernel
theorem dX10_loan_85 : decode cX10_loan 85 = .ok (.iconst 0, 1) := by decide +kernel
theorem dX10_loan_86 : decode cX10_loan 86 = .ok (.iastore, 1) := by decide +kernel
theorem dX10_loan_87 : decode cX10_loan 87 = .ok (.aload_n 0, 1) := by decide +kernel
theorem dX10_loan_88 : decode cX10_loan 88 = .ok (.getfield 29, 3) := by decide +kernel
theorem dX10_loan_91 : decode cX10_loan 91 = .ok (.aload_n 0, 1) := by decide +kernel
theorem dX10_loan_92 : decode cX10_loan 92 = .ok (.getfield 183, 3) := by decide +kernel
theorem dX10_loan_95 : decode cX10_loan 95 = .ok (.iconst 0, 1) := by decide +kernel
theorem dX10_loan_96 : decode cX10_loan 96 = .ok (.iastore, 1) := by decide +kernel
theorem dX10_loan_97 : decode cX10_loan 97 = .ok (.aload_n 0, 1) := by decide +kernel
theorem dX10_loan_98 : decode cX10_loan 98 = .ok (.getfield 32, 3) := by decide +kernel
theorem dX10_loan_101 : decode cX10_loan 101 = .ok (.aload_n 0, 1) := by decide +kernel
theorem dX10_loan_102 : decode cX10_loan 102 = .ok (.getfield 183, 3) := by decide +kernel
theorem dX10_loan_105 : decode cX10_loan 105 = .ok (.iconst 0, 1) := by decide +kernel
theorem dX10_loan_106 : decode cX10_loan 106 = .ok (.iastore, 1) := by decide +kernel
theorem dX10_loan_107 : decode cX10_loan 107 = .ok (.aload_n 0, 1) := by decide +kernel
theorem dX10_loan_108 : decode cX10_loan 108 = .ok (.dup, 1) := by decide +kernel
theorem dX10_loan_109 : decode cX10_loan 109 = .ok (.getfield 183, 3) := by decide +kernel
theorem dX10_loan_112 : decode cX10_loan 112 = .ok (.iconst 1, 1) := by decide +kernel
theorem dX10_loan_113 : decode cX10_loan 113 = .ok (.iadd, 1) := by decide +kernel
theorem dX10_loan_114 : decode cX10_loan 114 = .ok (.putfield 183, 3) := by decide +kernel
theorem dX10_loan_117 : decode cX10_loan 117 = .ok (.aload_n 0, 1) := by decide +kernel
theorem dX10_loan_118 : decode cX10_loan 118 = .ok (.getfield 183, 3) := by decide +kernel
theorem dX10_loan_121 : decode cX10_loan 121 = .ok (.iconst 1, 1) := by decide +kernel
theorem dX10_loan_122 : decode cX10_loan 122 = .ok (.isub, 1) := by decide +kernel
theorem dX10_loan_123 : decode cX10_loan 123 = .ok (.ireturn, 1) := by decide +kernel
theorem dX10_loanTold_0 : decode cX10_loanTold 0 = .ok (.aload_n 0, 1) := by decide +kernel
theorem dX10_loanTold_1 : decode cX10_loanTold 1 = .ok (.iload_n 1, 1) := by decide +kernel
theorem dX10_loanTold_2 : decode cX10_loanTold 2 = .ok (.invokevirtual 198, 3) := by decide +kernel
theorem dX10_loanTold_5 : decode cX10_loanTold 5 = .ok (.ifCond .ne 6, 3) := by decide +kernel
theorem dX10_loanTold_8 : decode cX10_loanTold 8 = .ok (.bipush (-2), 2) := by decide +kernel
theorem dX10_loanTold_10 : decode cX10_loanTold 10 = .ok (.ireturn, 1) := by decide +kernel
theorem dX10_loanTold_11 : decode cX10_loanTold 11 = .ok (.iload_n 2, 1) := by decide +kernel
theorem dX10_loanTold_12 : decode cX10_loanTold 12 = .ok (.tableswitch 93 0 6 #[44, 51, 58, 65, 72, 79, 86], 44) := by decide +kernel
theorem dX10_loanTold_56 : decode cX10_loanTold 56 = .ok (.aload_n 0, 1) := by decide +kernel
theorem dX10_loanTold_57 : decode cX10_loanTold 57 = .ok (.getfield 13, 3) := by decide +kernel
theorem dX10_loanTold_60 : decode cX10_loanTold 60 = .ok (.iload_n 1, 1) := by decide +kernel
theorem dX10_loanTold_61 : decode cX10_loanTold 61 = .ok (.iaload, 1) := by decide +kernel
theorem dX10_loanTold_62 : decode cX10_loanTold 62 = .ok (.ireturn, 1) := by decide +kernel
theorem dX10_loanTold_63 : decode cX10_loanTold 63 = .ok (.aload_n 0, 1) := by decide +kernel
theorem dX10_loanTold_64 : decode cX10_loanTold 64 = .ok (.getfield 17, 3) := by decide +kernel
theorem dX10_loanTold_67 : decode cX10_loanTold 67 = .ok (.iload_n 1, 1) := by decide +kernel
theorem dX10_loanTold_68 : decode cX10_loanTold 68 = .ok (.iaload, 1) := by decide +kernel
theorem dX10_loanTold_69 : decode cX10_loanTold 69 = .ok (.ireturn, 1) := by decide +kernel
theorem dX10_loanTold_70 : decode cX10_loanTold 70 = .ok (.aload_n 0, 1) := by decide +kernel
theorem dX10_loanTold_71 : decode cX10_loanTold 71 = .ok (.getfield 20, 3) := by decide +kernel
theorem dX10_loanTold_74 : decode cX10_loanTold 74 = .ok (.iload_n 1, 1) := by decide +kernel
theorem dX10_loanTold_75 : decode cX10_loanTold 75 = .ok (.iaload, 1) := by decide +kernel
theorem dX10_loanTold_76 : decode cX10_loanTold 76 = .ok (.ireturn, 1) := by decide +kernel
theorem dX10_loanTold_77 : decode cX10_loanTold 77 = .ok (.aload_n 0, 1) := by decide +kernel
theorem dX10_loanTold_78 : decode cX10_loanTold 78 = .ok (.getfield 23, 3) := by decide +kernel
theorem dX10_loanTold_81 : decode cX10_loanTold 81 = .ok (.iload_n 1, 1) := by decide +kernel
theorem dX10_loanTold_82 : decode cX10_loanTold 82 = .ok (.iaload, 1) := by decide +kernel
theorem dX10_loanTold_83 : decode cX10_loanTold 83 = .ok (.ireturn, 1) := by decide +kernel
theorem dX10_loanTold_84 : decode cX10_loanTold 84 = .ok (.aload_n 0, 1) := by decide +kernel
theorem dX10_loanTold_85 : decode cX10_loanTold 85 = .ok (.getfield 26, 3) := by decide +kernel
theorem dX10_loanTold_88 : decode cX10_loanTold 88 = .ok (.iload_n 1, 1) := by decide +kernel
theorem dX10_loanTold_89 : decode cX10_loanTold 89 = .ok (.iaload, 1) := by decide +kernel
theorem dX10_loanTold_90 : decode cX10_loanTold 90 = .ok (.ireturn, 1) := by decide +kernel
theorem dX10_loanTold_91 : decode cX10_loanTold 91 = .ok (.aload_n 0, 1) := by decide +kernel
theorem dX10_loanTold_92 : decode cX10_loanTold 92 = .ok (.getfield 29, 3) := by decide +kernel
theorem dX10_loanTold_95 : decode cX10_loanTold 95 = .ok (.iload_n 1, 1) := by decide +kernel
theorem dX10_loanTold_96 : decode cX10_loanTold 96 = .ok (.iaload, 1) := by decide +kernel
theorem dX10_loanTold_97 : decode cX10_loanTold 97 = .ok (.ireturn, 1) := by decide +kernel
theorem dX10_loanTold_98 : decode cX10_loanTold 98 = .ok (.aload_n 0, 1) := by decide +kernel
theorem dX10_loanTold_99 : decode cX10_loanTold 99 = .ok (.getfield 32, 3) := by decide +kernel
theorem dX10_loanTold_102 : decode cX10_loanTold 102 = .ok (.iload_n 1, 1) := by decide +kernel
theorem dX10_loanTold_103 : decode cX10_loanTold 103 = .ok (.iaload, 1) := by decide +kernel
theorem dX10_loanTold_104 : decode cX10_loanTold 104 = .ok (.ireturn, 1) := by decide +kernel
theorem dX10_loanTold_105 : decode cX10_loanTold 105 = .ok (.bipush (-2), 2) := by decide +kernel
theorem dX10_loanTold_107 : decode cX10_loanTold 107 = .ok (.ireturn, 1) := by decide +kernel
theorem dX10_isFixed_0 : decode cX10_isFixed 0 = .ok (.iload_n 0, 1) := by decide +kernel
theorem dX10_isFixed_1 : decode cX10_isFixed 1 = .ok (.iconst 1, 1) := by decide +kernel
theorem dX10_isFixed_2 : decode cX10_isFixed 2 = .ok (.if_icmp .eq 13, 3) := by decide +kernel
theorem dX10_isFixed_5 : decode cX10_isFixed 5 = .ok (.iload_n 0, 1) := by decide +kernel
theorem dX10_isFixed_6 : decode cX10_isFixed 6 = .ok (.iconst 2, 1) := by decide +kernel
theorem dX10_isFixed_7 : decode cX10_isFixed 7 = .ok (.if_icmp .eq 8, 3) := by decide +kernel
theorem dX10_isFixed_10 : decode cX10_isFixed 10 = .ok (.iload_n 0, 1) := by decide +kernel
theorem dX10_isFixed_11 : decode cX10_isFixed 11 = .ok (.iconst 4, 1) := by decide +kernel
theorem dX10_isFixed_12 : decode cX10_isFixed 12 = .ok (.if_icmp .ne 7, 3) := by decide +kernel
theorem dX10_isFixed_15 : decode cX10_isFixed 15 = .ok (.iconst 1, 1) := by decide +kernel
theorem dX10_isFixed_16 : decode cX10_isFixed 16 = .ok (.goto 4, 3) := by decide +kernel
theorem dX10_isFixed_19 : decode cX10_isFixed 19 = .ok (.iconst 0, 1) := by decide +kernel
theorem dX10_isFixed_20 : decode cX10_isFixed 20 = .ok (.ireturn, 1) := by decide +kernel
theorem dX10_isReset_0 : decode cX10_isReset 0 = .ok (.iload_n 0, 1) := by decide +kernel
theorem dX10_isReset_1 : decode cX10_isReset 1 = .ok (.iconst 2, 1) := by decide +kernel
theorem dX10_isReset_2 : decode cX10_isReset 2 = .ok (.if_icmp .eq 8, 3) := by decide +kernel
theorem dX10_isReset_5 : decode cX10_isReset 5 = .ok (.iload_n 0, 1) := by decide +kernel
theorem dX10_isReset_6 : decode cX10_isReset 6 = .ok (.iconst 4, 1) := by decide +kernel
theorem dX10_isReset_7 : decode cX10_isReset 7 = .ok (.if_icmp .ne 7, 3) := by decide +kernel
theorem dX10_isReset_10 : decode cX10_isReset 10 = .ok (.iconst 1, 1) := by decide +kernel
theorem dX10_isReset_11 : decode cX10_isReset 11 = .ok (.goto 4, 3) := by decide +kernel
theorem dX10_isReset_14 : decode cX10_isReset 14 = .ok (.iconst 0, 1) := by decide +kernel
theorem dX10_isReset_15 : decode cX10_isReset 15 = .ok (.ireturn, 1) := by decide +kernel
theorem dX10_interest_0 : decode cX10_interest 0 = .ok (.iload_n 0, 1) := by decide +kernel
theorem dX10_interest_1 : decode cX10_interest 1 = .ok (.iload_n 1, 1) := by decide +kernel
theorem dX10_interest_2 : decode cX10_interest 2 = .ok (.imul, 1) := by decide +kernel
theorem dX10_interest_3 : decode cX10_interest 3 = .ok (.sipush 10000, 3) := by decide +kernel
theorem dX10_interest_6 : decode cX10_interest 6 = .ok (.idiv, 1) := by decide +kernel
theorem dX10_interest_7 : decode cX10_interest 7 = .ok (.ireturn, 1) := by decide +kernel
theorem dX10_leftBy_0 : decode cX10_leftBy 0 = .ok (.iload_n 0, 1) := by decide +kernel
theorem dX10_leftBy_1 : decode cX10_leftBy 1 = .ok (.istore 4, 2) := by decide +kernel
theorem dX10_leftBy_3 : decode cX10_leftBy 3 = .ok (.iconst 0, 1) := by decide +kernel
theorem dX10_leftBy_4 : decode cX10_leftBy 4 = .ok (.istore 5, 2) := by decide +kernel
theorem dX10_leftBy_6 : decode cX10_leftBy 6 = .ok (.iload 5, 2) := by decide +kernel
theorem dX10_leftBy_8 : decode cX10_leftBy 8 = .ok (.iload_n 2, 1) := by decide +kernel
theorem dX10_leftBy_9 : decode cX10_leftBy 9 = .ok (.if_icmp .ge 56, 3) := by decide +kernel
theorem dX10_leftBy_12 : decode cX10_leftBy 12 = .ok (.iload 4, 2) := by decide +kernel
theorem dX10_leftBy_14 : decode cX10_leftBy 14 = .ok (.ifCond .le 51, 3) := by decide +kernel
theorem dX10_leftBy_17 : decode cX10_leftBy 17 = .ok (.iload_n 3, 1) := by decide +kernel
theorem dX10_leftBy_18 : decode cX10_leftBy 18 = .ok (.iload 4, 2) := by decide +kernel
theorem dX10_leftBy_20 : decode cX10_leftBy 20 = .ok (.iload_n 1, 1) := by decide +kernel
theorem dX10_leftBy_21 : decode cX10_leftBy 21 = .ok (.invokestatic 202, 3) := by decide +kernel
theorem dX10_leftBy_24 : decode cX10_leftBy 24 = .ok (.isub, 1) := by decide +kernel
theorem dX10_leftBy_25 : decode cX10_leftBy 25 = .ok (.istore 6, 2) := by decide +kernel
theorem dX10_leftBy_27 : decode cX10_leftBy 27 = .ok (.iload 6, 2) := by decide +kernel
theorem dX10_leftBy_29 : decode cX10_leftBy 29 = .ok (.ifCond .ge 7, 3) := by decide +kernel
theorem dX10_leftBy_32 : decode cX10_leftBy 32 = .ok (.iconst 0, 1) := by decide +kernel
theorem dX10_leftBy_33 : decode cX10_leftBy 33 = .ok (.goto 5, 3) := by decide +kernel
theorem dX10_leftBy_36 : decode cX10_leftBy 36 = .ok (.iload 6, 2) := by decide +kernel
theorem dX10_leftBy_38 : decode cX10_leftBy 38 = .ok (.istore 6, 2) := by decide +kernel
theorem dX10_leftBy_40 : decode cX10_leftBy 40 = .ok (.iload 4, 2) := by decide +kernel
theorem dX10_leftBy_42 : decode cX10_leftBy 42 = .ok (.iload 6, 2) := by decide +kernel
theorem dX10_leftBy_44 : decode cX10_leftBy 44 = .ok (.iload 4, 2) := by decide +kernel
theorem dX10_leftBy_46 : decode cX10_leftBy 46 = .ok (.if_icmp .ge 8, 3) := by decide +kernel
theorem dX10_leftBy_49 : decode cX10_leftBy 49 = .ok (.iload 6, 2) := by decide +kernel
theorem dX10_leftBy_51 : decode cX10_leftBy 51 = .ok (.goto 5, 3) := by decide +kernel
theorem dX10_leftBy_54 : decode cX10_leftBy 54 = .ok (.iload 4, 2) := by decide +kernel
theorem dX10_leftBy_56 : decode cX10_leftBy 56 = .ok (.isub, 1) := by decide +kernel
theorem dX10_leftBy_57 : decode cX10_leftBy 57 = .ok (.istore 4, 2) := by decide +kernel
theorem dX10_leftBy_59 : decode cX10_leftBy 59 = .ok (.iinc 5 1, 3) := by decide +kernel
theorem dX10_leftBy_62 : decode cX10_leftBy 62 = .ok (.goto (-56), 3) := by decide +kernel
theorem dX10_leftBy_65 : decode cX10_leftBy 65 = .ok (.iload 4, 2) := by decide +kernel
theorem dX10_leftBy_67 : decode cX10_leftBy 67 = .ok (.ireturn, 1) := by decide +kernel
theorem dX10_payFor_0 : decode cX10_payFor 0 = .ok (.iconst 0, 1) := by decide +kernel
theorem dX10_payFor_1 : decode cX10_payFor 1 = .ok (.istore_n 3, 1) := by decide +kernel
theorem dX10_payFor_2 : decode cX10_payFor 2 = .ok (.iload_n 0, 1) := by decide +kernel
theorem dX10_payFor_3 : decode cX10_payFor 3 = .ok (.iload_n 0, 1) := by decide +kernel
theorem dX10_payFor_4 : decode cX10_payFor 4 = .ok (.iload_n 1, 1) := by decide +kernel
theorem dX10_payFor_5 : decode cX10_payFor 5 = .ok (.invokestatic 202, 3) := by decide +kernel
theorem dX10_payFor_8 : decode cX10_payFor 8 = .ok (.iadd, 1) := by decide +kernel
theorem dX10_payFor_9 : decode cX10_payFor 9 = .ok (.istore 4, 2) := by decide +kernel
theorem dX10_payFor_11 : decode cX10_payFor 11 = .ok (.iload_n 3, 1) := by decide +kernel
theorem dX10_payFor_12 : decode cX10_payFor 12 = .ok (.iload 4, 2) := by decide +kernel
theorem dX10_payFor_14 : decode cX10_payFor 14 = .ok (.if_icmp .ge 37, 3) := by decide +kernel
theorem dX10_payFor_17 : decode cX10_payFor 17 = .ok (.iload_n 3, 1) := by decide +kernel
theorem dX10_payFor_18 : decode cX10_payFor 18 = .ok (.iload 4, 2) := by decide +kernel
theorem dX10_payFor_20 : decode cX10_payFor 20 = .ok (.iadd, 1) := by decide +kernel
theorem dX10_payFor_21 : decode cX10_payFor 21 = .ok (.iconst 2, 1) := by decide +kernel
theorem dX10_payFor_22 : decode cX10_payFor 22 = .ok (.idiv, 1) := by decide +kernel
theorem dX10_payFor_23 : decode cX10_payFor 23 = .ok (.istore 5, 2) := by decide +kernel
theorem dX10_payFor_25 : decode cX10_payFor 25 = .ok (.iload_n 0, 1) := by decide +kernel
theorem dX10_payFor_26 : decode cX10_payFor 26 = .ok (.iload_n 1, 1) := by decide +kernel
theorem dX10_payFor_27 : decode cX10_payFor 27 = .ok (.iload_n 2, 1) := by decide +kernel
theorem dX10_payFor_28 : decode cX10_payFor 28 = .ok (.iload 5, 2) := by decide +kernel
theorem dX10_payFor_30 : decode cX10_payFor 30 = .ok (.invokestatic 206, 3) := by decide +kernel
theorem dX10_payFor_33 : decode cX10_payFor 33 = .ok (.ifCond .ne 10, 3) := by decide +kernel
theorem dX10_payFor_36 : decode cX10_payFor 36 = .ok (.iload 5, 2) := by decide +kernel
theorem dX10_payFor_38 : decode cX10_payFor 38 = .ok (.istore 4, 2) := by decide +kernel
theorem dX10_payFor_40 : decode cX10_payFor 40 = .ok (.goto 8, 3) := by decide +kernel
theorem dX10_payFor_43 : decode cX10_payFor 43 = .ok (.iload 5, 2) := by decide +kernel
theorem dX10_payFor_45 : decode cX10_payFor 45 = .ok (.iconst 1, 1) := by decide +kernel
theorem dX10_payFor_46 : decode cX10_payFor 46 = .ok (.iadd, 1) := by decide +kernel
theorem dX10_payFor_47 : decode cX10_payFor 47 = .ok (.istore_n 3, 1) := by decide +kernel
theorem dX10_payFor_48 : decode cX10_payFor 48 = .ok (.goto (-37), 3) := by decide +kernel
theorem dX10_payFor_51 : decode cX10_payFor 51 = .ok (.iload_n 3, 1) := by decide +kernel
theorem dX10_payFor_52 : decode cX10_payFor 52 = .ok (.ireturn, 1) := by decide +kernel
theorem dX10_pool_0 : decode cX10_pool 0 = .ok (.iconst 0, 1) := by decide +kernel
theorem dX10_pool_1 : decode cX10_pool 1 = .ok (.istore_n 1, 1) := by decide +kernel
theorem dX10_pool_2 : decode cX10_pool 2 = .ok (.iconst 0, 1) := by decide +kernel
theorem dX10_pool_3 : decode cX10_pool 3 = .ok (.istore_n 2, 1) := by decide +kernel
theorem dX10_pool_4 : decode cX10_pool 4 = .ok (.iload_n 2, 1) := by decide +kernel
theorem dX10_pool_5 : decode cX10_pool 5 = .ok (.aload_n 0, 1) := by decide +kernel
theorem dX10_pool_6 : decode cX10_pool 6 = .ok (.getfield 183, 3) := by decide +kernel
theorem dX10_pool_9 : decode cX10_pool 9 = .ok (.if_icmp .ge 51, 3) := by decide +kernel
theorem dX10_pool_12 : decode cX10_pool 12 = .ok (.iload_n 1, 1) := by decide +kernel
theorem dX10_pool_13 : decode cX10_pool 13 = .ok (.aload_n 0, 1) := by decide +kernel
theorem dX10_pool_14 : decode cX10_pool 14 = .ok (.getfield 29, 3) := by decide +kernel
theorem dX10_pool_17 : decode cX10_pool 17 = .ok (.iload_n 2, 1) := by decide +kernel
theorem dX10_pool_18 : decode cX10_pool 18 = .ok (.iaload, 1) := by decide +kernel
theorem dX10_pool_19 : decode cX10_pool 19 = .ok (.ifCond .eq 23, 3) := by decide +kernel
theorem dX10_pool_22 : decode cX10_pool 22 = .ok (.aload_n 0, 1) := by decide +kernel
theorem dX10_pool_23 : decode cX10_pool 23 = .ok (.getfield 29, 3) := by decide +kernel
theorem dX10_pool_26 : decode cX10_pool 26 = .ok (.iload_n 2, 1) := by decide +kernel
theorem dX10_pool_27 : decode cX10_pool 27 = .ok (.iaload, 1) := by decide +kernel
theorem dX10_pool_28 : decode cX10_pool 28 = .ok (.iconst 1, 1) := by decide +kernel
theorem dX10_pool_29 : decode cX10_pool 29 = .ok (.if_icmp .eq 13, 3) := by decide +kernel
theorem dX10_pool_32 : decode cX10_pool 32 = .ok (.aload_n 0, 1) := by decide +kernel
theorem dX10_pool_33 : decode cX10_pool 33 = .ok (.getfield 29, 3) := by decide +kernel
theorem dX10_pool_36 : decode cX10_pool 36 = .ok (.iload_n 2, 1) := by decide +kernel
theorem dX10_pool_37 : decode cX10_pool 37 = .ok (.iaload, 1) := by decide +kernel
theorem dX10_pool_38 : decode cX10_pool 38 = .ok (.iconst 3, 1) := by decide +kernel
theorem dX10_pool_39 : decode cX10_pool 39 = .ok (.if_icmp .ne 12, 3) := by decide +kernel
theorem dX10_pool_42 : decode cX10_pool 42 = .ok (.aload_n 0, 1) := by decide +kernel
theorem dX10_pool_43 : decode cX10_pool 43 = .ok (.getfield 17, 3) := by decide +kernel
theorem dX10_pool_46 : decode cX10_pool 46 = .ok (.iload_n 2, 1) := by decide +kernel
theorem dX10_pool_47 : decode cX10_pool 47 = .ok (.iaload, 1) := by decide +kernel
theorem dX10_pool_48 : decode cX10_pool 48 = .ok (.goto 4, 3) := by decide +kernel
theorem dX10_pool_51 : decode cX10_pool 51 = .ok (.iconst 0, 1) := by decide +kernel
theorem dX10_pool_52 : decode cX10_pool 52 = .ok (.iadd, 1) := by decide +kernel
theorem dX10_pool_53 : decode cX10_pool 53 = .ok (.istore_n 1, 1) := by decide +kernel
theorem dX10_pool_54 : decode cX10_pool 54 = .ok (.iinc 2 1, 3) := by decide +kernel
theorem dX10_pool_57 : decode cX10_pool 57 = .ok (.goto (-53), 3) := by decide +kernel
theorem dX10_pool_60 : decode cX10_pool 60 = .ok (.iload_n 1, 1) := by decide +kernel
theorem dX10_pool_61 : decode cX10_pool 61 = .ok (.ireturn, 1) := by decide +kernel
theorem dX10_principal_0 : decode cX10_principal 0 = .ok (.aload_n 0, 1) := by decide +kernel
theorem dX10_principal_1 : decode cX10_principal 1 = .ok (.getfield 17, 3) := by decide +kernel
theorem dX10_principal_4 : decode cX10_principal 4 = .ok (.iload_n 1, 1) := by decide +kernel
theorem dX10_principal_5 : decode cX10_principal 5 = .ok (.iaload, 1) := by decide +kernel
theorem dX10_principal_6 : decode cX10_principal 6 = .ok (.istore 4, 2) := by decide +kernel
theorem dX10_principal_8 : decode cX10_principal 8 = .ok (.iload_n 2, 1) := by decide +kernel
theorem dX10_principal_9 : decode cX10_principal 9 = .ok (.aload_n 0, 1) := by decide +kernel
theorem dX10_principal_10 : decode cX10_principal 10 = .ok (.getfield 23, 3) := by decide +kernel
theorem dX10_principal_13 : decode cX10_principal 13 = .ok (.iload_n 1, 1) := by decide +kernel
theorem dX10_principal_14 : decode cX10_principal 14 = .ok (.iaload, 1) := by decide +kernel
theorem dX10_principal_15 : decode cX10_principal 15 = .ok (.if_icmp .ne 6, 3) := by decide +kernel
theorem dX10_principal_18 : decode cX10_principal 18 = .ok (.iload 4, 2) := by decide +kernel
theorem dX10_principal_20 : decode cX10_principal 20 = .ok (.ireturn, 1) := by decide +kernel
theorem dX10_principal_21 : decode cX10_principal 21 = .ok (.iconst 0, 1) := by decide +kernel
theorem dX10_principal_22 : decode cX10_principal 22 = .ok (.istore 5, 2) := by decide +kernel
theorem dX10_principal_24 : decode cX10_principal 24 = .ok (.aload_n 0, 1) := by decide +kernel
theorem dX10_principal_25 : decode cX10_principal 25 = .ok (.getfield 13, 3) := by decide +kernel
theorem dX10_principal_28 : decode cX10_principal 28 = .ok (.iload_n 1, 1) := by decide +kernel
theorem dX10_principal_29 : decode cX10_principal 29 = .ok (.iaload, 1) := by decide +kernel
theorem dX10_principal_30 : decode cX10_principal 30 = .ok (.invokestatic 210, 3) := by decide +kernel
theorem dX10_principal_33 : decode cX10_principal 33 = .ok (.ifCond .eq 16, 3) := by decide +kernel
theorem dX10_principal_36 : decode cX10_principal 36 = .ok (.aload_n 0, 1) := by decide +kernel
theorem dX10_principal_37 : decode cX10_principal 37 = .ok (.getfield 32, 3) := by decide +kernel
theorem dX10_principal_40 : decode cX10_principal 40 = .ok (.iload_n 1, 1) := by decide +kernel
theorem dX10_principal_41 : decode cX10_principal 41 = .ok (.iaload, 1) := by decide +kernel
theorem dX10_principal_42 : decode cX10_principal 42 = .ok (.iload_n 3, 1) := by decide +kernel
theorem dX10_principal_43 : decode cX10_principal 43 = .ok (.isub, 1) := by decide +kernel
theorem dX10_principal_44 : decode cX10_principal 44 = .ok (.istore 5, 2) := by decide +kernel
theorem dX10_principal_46 : decode cX10_principal 46 = .ok (.goto 60, 3) := by decide +kernel
theorem dX10_principal_49 : decode cX10_principal 49 = .ok (.aload_n 0, 1) := by decide +kernel
theorem dX10_principal_50 : decode cX10_principal 50 = .ok (.getfield 13, 3) := by decide +kernel
theorem dX10_principal_53 : decode cX10_principal 53 = .ok (.iload_n 1, 1) := by decide +kernel
theorem dX10_principal_54 : decode cX10_principal 54 = .ok (.iaload, 1) := by decide +kernel
theorem dX10_principal_55 : decode cX10_principal 55 = .ok (.ifCond .eq 27, 3) := by decide +kernel
theorem dX10_principal_58 : decode cX10_principal 58 = .ok (.aload_n 0, 1) := by decide +kernel
theorem dX10_principal_59 : decode cX10_principal 59 = .ok (.getfield 13, 3) := by decide +kernel
theorem dX10_principal_62 : decode cX10_principal 62 = .ok (.iload_n 1, 1) := by decide +kernel
theorem dX10_principal_63 : decode cX10_principal 63 = .ok (.iaload, 1) := by decide +kernel
theorem dX10_principal_64 : decode cX10_principal 64 = .ok (.iconst 5, 1) := by decide +kernel
theorem dX10_principal_65 : decode cX10_principal 65 = .ok (.if_icmp .ne 41, 3) := by decide +kernel
theorem dX10_principal_68 : decode cX10_principal 68 = .ok (.iconst 3, 1) := by decide +kernel
theorem dX10_principal_69 : decode cX10_principal 69 = .ok (.iload_n 2, 1) := by decide +kernel
theorem dX10_principal_70 : decode cX10_principal 70 = .ok (.imul, 1) := by decide +kernel
theorem dX10_principal_71 : decode cX10_principal 71 = .ok (.iconst 2, 1) := by decide +kernel
theorem dX10_principal_72 : decode cX10_principal 72 = .ok (.aload_n 0, 1) := by decide +kernel
theorem dX10_principal_73 : decode cX10_principal 73 = .ok (.getfield 23, 3) := by decide +kernel
theorem dX10_principal_76 : decode cX10_principal 76 = .ok (.iload_n 1, 1) := by decide +kernel
theorem dX10_principal_77 : decode cX10_principal 77 = .ok (.iaload, 1) := by decide +kernel
theorem dX10_principal_78 : decode cX10_principal 78 = .ok (.imul, 1) := by decide +kernel
theorem dX10_principal_79 : decode cX10_principal 79 = .ok (.if_icmp .le 27, 3) := by decide +kernel
theorem dX10_principal_82 : decode cX10_principal 82 = .ok (.aload_n 0, 1) := by decide +kernel
theorem dX10_principal_83 : decode cX10_principal 83 = .ok (.getfield 23, 3) := by decide +kernel
theorem dX10_principal_86 : decode cX10_principal 86 = .ok (.iload_n 1, 1) := by decide +kernel
theorem dX10_principal_87 : decode cX10_principal 87 = .ok (.iaload, 1) := by decide +kernel
theorem dX10_principal_88 : decode cX10_principal 88 = .ok (.iconst 1, 1) := by decide +kernel
theorem dX10_principal_89 : decode cX10_principal 89 = .ok (.iadd, 1) := by decide +kernel
theorem dX10_principal_90 : decode cX10_principal 90 = .ok (.iload_n 2, 1) := by decide +kernel
theorem dX10_principal_91 : decode cX10_principal 91 = .ok (.isub, 1) := by decide +kernel
theorem dX10_principal_92 : decode cX10_principal 92 = .ok (.istore 6, 2) := by decide +kernel
theorem dX10_principal_94 : decode cX10_principal 94 = .ok (.iload 4, 2) := by decide +kernel
theorem dX10_principal_96 : decode cX10_principal 96 = .ok (.iload 6, 2) := by decide +kernel
theorem dX10_principal_98 : decode cX10_principal 98 = .ok (.iadd, 1) := by decide +kernel
theorem dX10_principal_99 : decode cX10_principal 99 = .ok (.iconst 1, 1) := by decide +kernel
theorem dX10_principal_100 : decode cX10_principal 100 = .ok (.isub, 1) := by decide +kernel
theorem dX10_principal_101 : decode cX10_principal 101 = .ok (.iload 6, 2) := by decide +kernel
theorem dX10_principal_103 : decode cX10_principal 103 = .ok (.idiv, 1) := by decide +kernel
theorem dX10_principal_104 : decode cX10_principal 104 = .ok (.istore 5, 2) := by decide +kernel
theorem dX10_principal_106 : decode cX10_principal 106 = .ok (.iload 5, 2) := by decide +kernel
theorem dX10_principal_108 : decode cX10_principal 108 = .ok (.ifCond .ge 7, 3) := by decide +kernel
theorem dX10_principal_111 : decode cX10_principal 111 = .ok (.iconst 0, 1) := by decide +kernel
theorem dX10_principal_112 : decode cX10_principal 112 = .ok (.goto 17, 3) := by decide +kernel
theorem dX10_principal_115 : decode cX10_principal 115 = .ok (.iload 5, 2) := by decide +kernel
theorem dX10_principal_117 : decode cX10_principal 117 = .ok (.iload 4, 2) := by decide +kernel
theorem dX10_principal_119 : decode cX10_principal 119 = .ok (.if_icmp .ge 8, 3) := by decide +kernel
theorem dX10_principal_122 : decode cX10_principal 122 = .ok (.iload 5, 2) := by decide +kernel
theorem dX10_principal_124 : decode cX10_principal 124 = .ok (.goto 5, 3) := by decide +kernel
theorem dX10_principal_127 : decode cX10_principal 127 = .ok (.iload 4, 2) := by decide +kernel
theorem dX10_principal_129 : decode cX10_principal 129 = .ok (.ireturn, 1) := by decide +kernel
theorem dX10_tell_0 : decode cX10_tell 0 = .ok (.iload_n 1, 1) := by decide +kernel
theorem dX10_tell_1 : decode cX10_tell 1 = .ok (.iconst 0, 1) := by decide +kernel
theorem dX10_tell_2 : decode cX10_tell 2 = .ok (.iconst 2, 1) := by decide +kernel
theorem dX10_tell_3 : decode cX10_tell 3 = .ok (.invokestatic 186, 3) := by decide +kernel
theorem dX10_tell_6 : decode cX10_tell 6 = .ok (.ifCond .eq 31, 3) := by decide +kernel
theorem dX10_tell_9 : decode cX10_tell 9 = .ok (.iload_n 2, 1) := by decide +kernel
theorem dX10_tell_10 : decode cX10_tell 10 = .ok (.iconst 0, 1) := by decide +kernel
theorem dX10_tell_11 : decode cX10_tell 11 = .ok (.iload_n 1, 1) := by decide +kernel
theorem dX10_tell_12 : decode cX10_tell 12 = .ok (.ifCond .ne 8, 3) := by decide +kernel
theorem dX10_tell_15 : decode cX10_tell 15 = .ok (.ldc 213, 2) := by decide +kernel
theorem dX10_tell_17 : decode cX10_tell 17 = .ok (.goto 14, 3) := by decide +kernel
theorem dX10_tell_20 : decode cX10_tell 20 = .ok (.iload_n 1, 1) := by decide +kernel
theorem dX10_tell_21 : decode cX10_tell 21 = .ok (.iconst 1, 1) := by decide +kernel
theorem dX10_tell_22 : decode cX10_tell 22 = .ok (.if_icmp .ne 8, 3) := by decide +kernel
theorem dX10_tell_25 : decode cX10_tell 25 = .ok (.bipush 100, 2) := by decide +kernel
theorem dX10_tell_27 : decode cX10_tell 27 = .ok (.goto 4, 3) := by decide +kernel
theorem dX10_tell_30 : decode cX10_tell 30 = .ok (.iconst 1, 1) := by decide +kernel
theorem dX10_tell_31 : decode cX10_tell 31 = .ok (.invokestatic 186, 3) := by decide +kernel
theorem dX10_tell_34 : decode cX10_tell 34 = .ok (.ifCond .ne 6, 3) := by decide +kernel
theorem dX10_tell_37 : decode cX10_tell 37 = .ok (.bipush (-2), 2) := by decide +kernel
theorem dX10_tell_39 : decode cX10_tell 39 = .ok (.ireturn, 1) := by decide +kernel
theorem dX10_tell_40 : decode cX10_tell 40 = .ok (.iload_n 1, 1) := by decide +kernel
theorem dX10_tell_41 : decode cX10_tell 41 = .ok (.ifCond .ne 10, 3) := by decide +kernel
theorem dX10_tell_44 : decode cX10_tell 44 = .ok (.aload_n 0, 1) := by decide +kernel
theorem dX10_tell_45 : decode cX10_tell 45 = .ok (.getfield 214, 3) := by decide +kernel
theorem dX10_tell_48 : decode cX10_tell 48 = .ok (.goto 19, 3) := by decide +kernel
theorem dX10_tell_51 : decode cX10_tell 51 = .ok (.iload_n 1, 1) := by decide +kernel
theorem dX10_tell_52 : decode cX10_tell 52 = .ok (.iconst 1, 1) := by decide +kernel
theorem dX10_tell_53 : decode cX10_tell 53 = .ok (.if_icmp .ne 10, 3) := by decide +kernel
theorem dX10_tell_56 : decode cX10_tell 56 = .ok (.aload_n 0, 1) := by decide +kernel
theorem dX10_tell_57 : decode cX10_tell 57 = .ok (.getfield 38, 3) := by decide +kernel
theorem dX10_tell_60 : decode cX10_tell 60 = .ok (.goto 7, 3) := by decide +kernel
theorem dX10_tell_63 : decode cX10_tell 63 = .ok (.aload_n 0, 1) := by decide +kernel
theorem dX10_tell_64 : decode cX10_tell 64 = .ok (.getfield 217, 3) := by decide +kernel
theorem dX10_tell_67 : decode cX10_tell 67 = .ok (.istore_n 3, 1) := by decide +kernel
theorem dX10_tell_68 : decode cX10_tell 68 = .ok (.iload_n 1, 1) := by decide +kernel
theorem dX10_tell_69 : decode cX10_tell 69 = .ok (.ifCond .ne 8, 3) := by decide +kernel
theorem dX10_tell_72 : decode cX10_tell 72 = .ok (.aload_n 0, 1) := by decide +kernel
theorem dX10_tell_73 : decode cX10_tell 73 = .ok (.iload_n 2, 1) := by decide +kernel
theorem dX10_tell_74 : decode cX10_tell 74 = .ok (.putfield 214, 3) := by decide +kernel
theorem dX10_tell_77 : decode cX10_tell 77 = .ok (.iload_n 1, 1) := by decide +kernel
theorem dX10_tell_78 : decode cX10_tell 78 = .ok (.iconst 1, 1) := by decide +kernel
theorem dX10_tell_79 : decode cX10_tell 79 = .ok (.if_icmp .ne 8, 3) := by decide +kernel
theorem dX10_tell_82 : decode cX10_tell 82 = .ok (.aload_n 0, 1) := by decide +kernel
theorem dX10_tell_83 : decode cX10_tell 83 = .ok (.iload_n 2, 1) := by decide +kernel
theorem dX10_tell_84 : decode cX10_tell 84 = .ok (.putfield 38, 3) := by decide +kernel
theorem dX10_tell_87 : decode cX10_tell 87 = .ok (.iload_n 1, 1) := by decide +kernel
theorem dX10_tell_88 : decode cX10_tell 88 = .ok (.iconst 2, 1) := by decide +kernel
theorem dX10_tell_89 : decode cX10_tell 89 = .ok (.if_icmp .ne 8, 3) := by decide +kernel
theorem dX10_tell_92 : decode cX10_tell 92 = .ok (.aload_n 0, 1) := by decide +kernel
theorem dX10_tell_93 : decode cX10_tell 93 = .ok (.iload_n 2, 1) := by decide +kernel
theorem dX10_tell_94 : decode cX10_tell 94 = .ok (.putfield 217, 3) := by decide +kernel
theorem dX10_tell_97 : decode cX10_tell 97 = .ok (.iload_n 3, 1) := by decide +kernel
theorem dX10_tell_98 : decode cX10_tell 98 = .ok (.ireturn, 1) := by decide +kernel
theorem dX10_buy_0 : decode cX10_buy 0 = .ok (.aload_n 0, 1) := by decide +kernel
theorem dX10_buy_1 : decode cX10_buy 1 = .ok (.iload_n 1, 1) := by decide +kernel
theorem dX10_buy_2 : decode cX10_buy 2 = .ok (.invokevirtual 198, 3) := by decide +kernel
theorem dX10_buy_5 : decode cX10_buy 5 = .ok (.ifCond .ne 6, 3) := by decide +kernel
theorem dX10_buy_8 : decode cX10_buy 8 = .ok (.bipush (-2), 2) := by decide +kernel
theorem dX10_buy_10 : decode cX10_buy 10 = .ok (.ireturn, 1) := by decide +kernel
theorem dX10_buy_11 : decode cX10_buy 11 = .ok (.aload_n 0, 1) := by decide +kernel
theorem dX10_buy_12 : decode cX10_buy 12 = .ok (.getfield 29, 3) := by decide +kernel
theorem dX10_buy_15 : decode cX10_buy 15 = .ok (.iload_n 1, 1) := by decide +kernel
theorem dX10_buy_16 : decode cX10_buy 16 = .ok (.iaload, 1) := by decide +kernel
theorem dX10_buy_17 : decode cX10_buy 17 = .ok (.ifCond .eq 16, 3) := by decide +kernel
theorem dX10_buy_20 : decode cX10_buy 20 = .ok (.aload_n 0, 1) := by decide +kernel
theorem dX10_buy_21 : decode cX10_buy 21 = .ok (.getfield 29, 3) := by decide +kernel
theorem dX10_buy_24 : decode cX10_buy 24 = .ok (.iload_n 1, 1) := by decide +kernel
theorem dX10_buy_25 : decode cX10_buy 25 = .ok (.iaload, 1) := by decide +kernel
theorem dX10_buy_26 : decode cX10_buy 26 = .ok (.iconst 1, 1) := by decide +kernel
theorem dX10_buy_27 : decode cX10_buy 27 = .ok (.if_icmp .eq 6, 3) := by decide +kernel
theorem dX10_buy_30 : decode cX10_buy 30 = .ok (.bipush (-3), 2) := by decide +kernel
theorem dX10_buy_32 : decode cX10_buy 32 = .ok (.ireturn, 1) := by decide +kernel
theorem dX10_buy_33 : decode cX10_buy 33 = .ok (.aload_n 0, 1) := by decide +kernel
theorem dX10_buy_34 : decode cX10_buy 34 = .ok (.getfield 29, 3) := by decide +kernel
theorem dX10_buy_37 : decode cX10_buy 37 = .ok (.iload_n 1, 1) := by decide +kernel
theorem dX10_buy_38 : decode cX10_buy 38 = .ok (.bipush 6, 2) := by decide +kernel
theorem dX10_buy_40 : decode cX10_buy 40 = .ok (.iastore, 1) := by decide +kernel
theorem dX10_buy_41 : decode cX10_buy 41 = .ok (.aload_n 0, 1) := by decide +kernel
theorem dX10_buy_42 : decode cX10_buy 42 = .ok (.getfield 17, 3) := by decide +kernel
theorem dX10_buy_45 : decode cX10_buy 45 = .ok (.iload_n 1, 1) := by decide +kernel
theorem dX10_buy_46 : decode cX10_buy 46 = .ok (.iaload, 1) := by decide +kernel
theorem dX10_buy_47 : decode cX10_buy 47 = .ok (.aload_n 0, 1) := by decide +kernel
theorem dX10_buy_48 : decode cX10_buy 48 = .ok (.getfield 26, 3) := by decide +kernel
theorem dX10_buy_51 : decode cX10_buy 51 = .ok (.iload_n 1, 1) := by decide +kernel
theorem dX10_buy_52 : decode cX10_buy 52 = .ok (.iaload, 1) := by decide +kernel
theorem dX10_buy_53 : decode cX10_buy 53 = .ok (.iadd, 1) := by decide +kernel
theorem dX10_buy_54 : decode cX10_buy 54 = .ok (.ireturn, 1) := by decide +kernel
theorem dX10_within_0 : decode cX10_within 0 = .ok (.iload_n 0, 1) := by decide +kernel
theorem dX10_within_1 : decode cX10_within 1 = .ok (.ifCond .ge 7, 3) := by decide +kernel
theorem dX10_within_4 : decode cX10_within 4 = .ok (.iconst 0, 1) := by decide +kernel
theorem dX10_within_5 : decode cX10_within 5 = .ok (.goto 17, 3) := by decide +kernel
theorem dX10_within_8 : decode cX10_within 8 = .ok (.iload_n 0, 1) := by decide +kernel
theorem dX10_within_9 : decode cX10_within 9 = .ok (.sipush 1000, 3) := by decide +kernel
theorem dX10_within_12 : decode cX10_within 12 = .ok (.if_icmp .le 9, 3) := by decide +kernel
theorem dX10_within_15 : decode cX10_within 15 = .ok (.sipush 1000, 3) := by decide +kernel
theorem dX10_within_18 : decode cX10_within 18 = .ok (.goto 4, 3) := by decide +kernel
theorem dX10_within_21 : decode cX10_within 21 = .ok (.iload_n 0, 1) := by decide +kernel
theorem dX10_within_22 : decode cX10_within 22 = .ok (.ireturn, 1) := by decide +kernel
theorem dX10_lot_0 : decode cX10_lot 0 = .ok (.aload_n 0, 1) := by decide +kernel
theorem dX10_lot_1 : decode cX10_lot 1 = .ok (.getfield 214, 3) := by decide +kernel
theorem dX10_lot_4 : decode cX10_lot 4 = .ok (.i2l, 1) := by decide +kernel
theorem dX10_lot_5 : decode cX10_lot 5 = .ok (.ldc2_w 220, 3) := by decide +kernel
theorem dX10_lot_8 : decode cX10_lot 8 = .ok (.iload_n 1, 1) := by decide +kernel
theorem dX10_lot_9 : decode cX10_lot 9 = .ok (.i2l, 1) := by decide +kernel
theorem dX10_lot_10 : decode cX10_lot 10 = .ok (.lmul, 1) := by decide +kernel
theorem dX10_lot_11 : decode cX10_lot 11 = .ok (.ladd, 1) := by decide +kernel
theorem dX10_lot_12 : decode cX10_lot 12 = .ok (.ldc2_w 222, 3) := by decide +kernel
theorem dX10_lot_15 : decode cX10_lot 15 = .ok (.iload_n 2, 1) := by decide +kernel
theorem dX10_lot_16 : decode cX10_lot 16 = .ok (.i2l, 1) := by decide +kernel
theorem dX10_lot_17 : decode cX10_lot 17 = .ok (.lmul, 1) := by decide +kernel
theorem dX10_lot_18 : decode cX10_lot 18 = .ok (.ladd, 1) := by decide +kernel
theorem dX10_lot_19 : decode cX10_lot 19 = .ok (.ldc2_w 224, 3) := by decide +kernel
theorem dX10_lot_22 : decode cX10_lot 22 = .ok (.lmul, 1) := by decide +kernel
theorem dX10_lot_23 : decode cX10_lot 23 = .ok (.ldc2_w 226, 3) := by decide +kernel
theorem dX10_lot_26 : decode cX10_lot 26 = .ok (.lrem, 1) := by decide +kernel
theorem dX10_lot_27 : decode cX10_lot 27 = .ok (.ldc2_w 228, 3) := by decide +kernel
theorem dX10_lot_30 : decode cX10_lot 30 = .ok (.lrem, 1) := by decide +kernel
theorem dX10_lot_31 : decode cX10_lot 31 = .ok (.l2i, 1) := by decide +kernel
theorem dX10_lot_32 : decode cX10_lot 32 = .ok (.ireturn, 1) := by decide +kernel
theorem dX10_paysOff_0 : decode cX10_paysOff 0 = .ok (.aload_n 0, 1) := by decide +kernel
theorem dX10_paysOff_1 : decode cX10_paysOff 1 = .ok (.getfield 41, 3) := by decide +kernel
theorem dX10_paysOff_4 : decode cX10_paysOff 4 = .ok (.iload_n 2, 1) := by decide +kernel
theorem dX10_paysOff_5 : decode cX10_paysOff 5 = .ok (.dup2, 1) := by decide +kernel
theorem dX10_paysOff_6 : decode cX10_paysOff 6 = .ok (.laload, 1) := by decide +kernel
theorem dX10_paysOff_7 : decode cX10_paysOff 7 = .ok (.iload_n 3, 1) := by decide +kernel
theorem dX10_paysOff_8 : decode cX10_paysOff 8 = .ok (.aload_n 0, 1) := by decide +kernel
theorem dX10_paysOff_9 : decode cX10_paysOff 9 = .ok (.getfield 26, 3) := by decide +kernel
theorem dX10_paysOff_12 : decode cX10_paysOff 12 = .ok (.iload_n 1, 1) := by decide +kernel
theorem dX10_paysOff_13 : decode cX10_paysOff 13 = .ok (.iaload, 1) := by decide +kernel
theorem dX10_paysOff_14 : decode cX10_paysOff 14 = .ok (.iadd, 1) := by decide +kernel
theorem dX10_paysOff_15 : decode cX10_paysOff 15 = .ok (.i2l, 1) := by decide +kernel
theorem dX10_paysOff_16 : decode cX10_paysOff 16 = .ok (.ladd, 1) := by decide +kernel
theorem dX10_paysOff_17 : decode cX10_paysOff 17 = .ok (.lastore, 1) := by decide +kernel
theorem dX10_paysOff_18 : decode cX10_paysOff 18 = .ok (.aload_n 0, 1) := by decide +kernel
theorem dX10_paysOff_19 : decode cX10_paysOff 19 = .ok (.getfield 45, 3) := by decide +kernel
theorem dX10_paysOff_22 : decode cX10_paysOff 22 = .ok (.iload_n 2, 1) := by decide +kernel
theorem dX10_paysOff_23 : decode cX10_paysOff 23 = .ok (.dup2, 1) := by decide +kernel
theorem dX10_paysOff_24 : decode cX10_paysOff 24 = .ok (.laload, 1) := by decide +kernel
theorem dX10_paysOff_25 : decode cX10_paysOff 25 = .ok (.aload_n 0, 1) := by decide +kernel
theorem dX10_paysOff_26 : decode cX10_paysOff 26 = .ok (.getfield 17, 3) := by decide +kernel
theorem dX10_paysOff_29 : decode cX10_paysOff 29 = .ok (.iload_n 1, 1) := by decide +kernel
theorem dX10_paysOff_30 : decode cX10_paysOff 30 = .ok (.iaload, 1) := by decide +kernel
theorem dX10_paysOff_31 : decode cX10_paysOff 31 = .ok (.i2l, 1) := by decide +kernel
theorem dX10_paysOff_32 : decode cX10_paysOff 32 = .ok (.ladd, 1) := by decide +kernel
theorem dX10_paysOff_33 : decode cX10_paysOff 33 = .ok (.lastore, 1) := by decide +kernel
theorem dX10_paysOff_34 : decode cX10_paysOff 34 = .ok (.aload_n 0, 1) := by decide +kernel
theorem dX10_paysOff_35 : decode cX10_paysOff 35 = .ok (.getfield 26, 3) := by decide +kernel
theorem dX10_paysOff_38 : decode cX10_paysOff 38 = .ok (.iload_n 1, 1) := by decide +kernel
theorem dX10_paysOff_39 : decode cX10_paysOff 39 = .ok (.iconst 0, 1) := by decide +kernel
theorem dX10_paysOff_40 : decode cX10_paysOff 40 = .ok (.iastore, 1) := by decide +kernel
theorem dX10_paysOff_41 : decode cX10_paysOff 41 = .ok (.aload_n 0, 1) := by decide +kernel
theorem dX10_paysOff_42 : decode cX10_paysOff 42 = .ok (.getfield 17, 3) := by decide +kernel
theorem dX10_paysOff_45 : decode cX10_paysOff 45 = .ok (.iload_n 1, 1) := by decide +kernel
theorem dX10_paysOff_46 : decode cX10_paysOff 46 = .ok (.iconst 0, 1) := by decide +kernel
theorem dX10_paysOff_47 : decode cX10_paysOff 47 = .ok (.iastore, 1) := by decide +kernel
theorem dX10_paysOff_48 : decode cX10_paysOff 48 = .ok (.aload_n 0, 1) := by decide +kernel
theorem dX10_paysOff_49 : decode cX10_paysOff 49 = .ok (.getfield 29, 3) := by decide +kernel
theorem dX10_paysOff_52 : decode cX10_paysOff 52 = .ok (.iload_n 1, 1) := by decide +kernel
theorem dX10_paysOff_53 : decode cX10_paysOff 53 = .ok (.iload 4, 2) := by decide +kernel
theorem dX10_paysOff_55 : decode cX10_paysOff 55 = .ok (.iastore, 1) := by decide +kernel
theorem dX10_paysOff_56 : decode cX10_paysOff 56 = .ok (.return_, 1) := by decide +kernel
theorem dX10_goes_0 : decode cX10_goes 0 = .ok (.aload_n 0, 1) := by decide +kernel
theorem dX10_goes_1 : decode cX10_goes 1 = .ok (.iload_n 1, 1) := by decide +kernel
theorem dX10_goes_2 : decode cX10_goes 2 = .ok (.iload_n 2, 1) := by decide +kernel
theorem dX10_goes_3 : decode cX10_goes 3 = .ok (.iconst 0, 1) := by decide +kernel
theorem dX10_goes_4 : decode cX10_goes 4 = .ok (.invokevirtual 230, 3) := by decide +kernel
theorem dX10_goes_7 : decode cX10_goes 7 = .ok (.invokestatic 234, 3) := by decide +kernel
theorem dX10_goes_10 : decode cX10_goes 10 = .ok (.istore_n 3, 1) := by decide +kernel
theorem dX10_goes_11 : decode cX10_goes 11 = .ok (.aload_n 0, 1) := by decide +kernel
theorem dX10_goes_12 : decode cX10_goes 12 = .ok (.iload_n 1, 1) := by decide +kernel
theorem dX10_goes_13 : decode cX10_goes 13 = .ok (.iload_n 2, 1) := by decide +kernel
theorem dX10_goes_14 : decode cX10_goes 14 = .ok (.iconst 1, 1) := by decide +kernel
theorem dX10_goes_15 : decode cX10_goes 15 = .ok (.invokevirtual 230, 3) := by decide +kernel
theorem dX10_goes_18 : decode cX10_goes 18 = .ok (.invokestatic 234, 3) := by decide +kernel
theorem dX10_goes_21 : decode cX10_goes 21 = .ok (.istore 4, 2) := by decide +kernel
theorem dX10_goes_23 : decode cX10_goes 23 = .ok (.aload_n 0, 1) := by decide +kernel
theorem dX10_goes_24 : decode cX10_goes 24 = .ok (.iload_n 1, 1) := by decide +kernel
theorem dX10_goes_25 : decode cX10_goes 25 = .ok (.iload_n 2, 1) := by decide +kernel
theorem dX10_goes_26 : decode cX10_goes 26 = .ok (.iconst 2, 1) := by decide +kernel
theorem dX10_goes_27 : decode cX10_goes 27 = .ok (.invokevirtual 230, 3) := by decide +kernel
theorem dX10_goes_30 : decode cX10_goes 30 = .ok (.invokestatic 234, 3) := by decide +kernel
theorem dX10_goes_33 : decode cX10_goes 33 = .ok (.istore 5, 2) := by decide +kernel
theorem dX10_goes_35 : decode cX10_goes 35 = .ok (.aload_n 0, 1) := by decide +kernel
theorem dX10_goes_36 : decode cX10_goes 36 = .ok (.iload_n 1, 1) := by decide +kernel
theorem dX10_goes_37 : decode cX10_goes 37 = .ok (.iload_n 2, 1) := by decide +kernel
theorem dX10_goes_38 : decode cX10_goes 38 = .ok (.invokevirtual 238, 3) := by decide +kernel
theorem dX10_goes_41 : decode cX10_goes 41 = .ok (.istore 6, 2) := by decide +kernel
theorem dX10_goes_43 : decode cX10_goes 43 = .ok (.aload_n 0, 1) := by decide +kernel
theorem dX10_goes_44 : decode cX10_goes 44 = .ok (.getfield 17, 3) := by decide +kernel
theorem dX10_goes_47 : decode cX10_goes 47 = .ok (.iload_n 1, 1) := by decide +kernel
theorem dX10_goes_48 : decode cX10_goes 48 = .ok (.iaload, 1) := by decide +kernel
theorem dX10_goes_49 : decode cX10_goes 49 = .ok (.aload_n 0, 1) := by decide +kernel
theorem dX10_goes_50 : decode cX10_goes 50 = .ok (.getfield 20, 3) := by decide +kernel
theorem dX10_goes_53 : decode cX10_goes 53 = .ok (.iload_n 1, 1) := by decide +kernel
theorem dX10_goes_54 : decode cX10_goes 54 = .ok (.iaload, 1) := by decide +kernel
theorem dX10_goes_55 : decode cX10_goes 55 = .ok (.invokestatic 202, 3) := by decide +kernel
theorem dX10_goes_58 : decode cX10_goes 58 = .ok (.istore 7, 2) := by decide +kernel
theorem dX10_goes_60 : decode cX10_goes 60 = .ok (.iload_n 2, 1) := by decide +kernel
theorem dX10_goes_61 : decode cX10_goes 61 = .ok (.aload_n 0, 1) := by decide +kernel
theorem dX10_goes_62 : decode cX10_goes 62 = .ok (.getfield 23, 3) := by decide +kernel
theorem dX10_goes_65 : decode cX10_goes 65 = .ok (.iload_n 1, 1) := by decide +kernel
theorem dX10_goes_66 : decode cX10_goes 66 = .ok (.iaload, 1) := by decide +kernel
theorem dX10_goes_67 : decode cX10_goes 67 = .ok (.if_icmp .ne 7, 3) := by decide +kernel
theorem dX10_goes_70 : decode cX10_goes 70 = .ok (.iconst 1, 1) := by decide +kernel
theorem dX10_goes_71 : decode cX10_goes 71 = .ok (.goto 4, 3) := by decide +kernel
theorem dX10_goes_74 : decode cX10_goes 74 = .ok (.iconst 0, 1) := by decide +kernel
theorem dX10_goes_75 : decode cX10_goes 75 = .ok (.istore 8, 2) := by decide +kernel
theorem dX10_goes_77 : decode cX10_goes 77 = .ok (.aload_n 0, 1) := by decide +kernel
theorem dX10_goes_78 : decode cX10_goes 78 = .ok (.getfield 13, 3) := by decide +kernel
theorem dX10_goes_81 : decode cX10_goes 81 = .ok (.iload_n 1, 1) := by decide +kernel
theorem dX10_goes_82 : decode cX10_goes 82 = .ok (.iaload, 1) := by decide +kernel
theorem dX10_goes_83 : decode cX10_goes 83 = .ok (.iconst 4, 1) := by decide +kernel
theorem dX10_goes_84 : decode cX10_goes 84 = .ok (.if_icmp .ne 19, 3) := by decide +kernel
theorem dX10_goes_87 : decode cX10_goes 87 = .ok (.iload_n 2, 1) := by decide +kernel
theorem dX10_goes_88 : decode cX10_goes 88 = .ok (.bipush 6, 2) := by decide +kernel
theorem dX10_goes_90 : decode cX10_goes 90 = .ok (.irem, 1) := by decide +kernel
theorem dX10_goes_91 : decode cX10_goes 91 = .ok (.ifCond .ne 12, 3) := by decide +kernel
theorem dX10_goes_94 : decode cX10_goes 94 = .ok (.iload 8, 2) := by decide +kernel
theorem dX10_goes_96 : decode cX10_goes 96 = .ok (.ifCond .ne 7, 3) := by decide +kernel
theorem dX10_goes_99 : decode cX10_goes 99 = .ok (.iconst 1, 1) := by decide +kernel
theorem dX10_goes_100 : decode cX10_goes 100 = .ok (.goto 4, 3) := by decide +kernel
theorem dX10_goes_103 : decode cX10_goes 103 = .ok (.iconst 0, 1) := by decide +kernel
theorem dX10_goes_104 : decode cX10_goes 104 = .ok (.istore 9, 2) := by decide +kernel
theorem dX10_goes_106 : decode cX10_goes 106 = .ok (.iload 6, 2) := by decide +kernel
theorem dX10_goes_108 : decode cX10_goes 108 = .ok (.iload_n 3, 1) := by decide +kernel
theorem dX10_goes_109 : decode cX10_goes 109 = .ok (.if_icmp .ge 25, 3) := by decide +kernel
theorem dX10_goes_112 : decode cX10_goes 112 = .ok (.aload_n 0, 1) := by decide +kernel
theorem dX10_goes_113 : decode cX10_goes 113 = .ok (.getfield 29, 3) := by decide +kernel
theorem dX10_goes_116 : decode cX10_goes 116 = .ok (.iload_n 1, 1) := by decide +kernel
theorem dX10_goes_117 : decode cX10_goes 117 = .ok (.iconst 3, 1) := by decide +kernel
theorem dX10_goes_118 : decode cX10_goes 118 = .ok (.iastore, 1) := by decide +kernel
theorem dX10_goes_119 : decode cX10_goes 119 = .ok (.aload_n 0, 1) := by decide +kernel
theorem dX10_goes_120 : decode cX10_goes 120 = .ok (.getfield 35, 3) := by decide +kernel
theorem dX10_goes_123 : decode cX10_goes 123 = .ok (.iload_n 1, 1) := by decide +kernel
theorem dX10_goes_124 : decode cX10_goes 124 = .ok (.iload_n 2, 1) := by decide +kernel
theorem dX10_goes_125 : decode cX10_goes 125 = .ok (.iastore, 1) := by decide +kernel
theorem dX10_goes_126 : decode cX10_goes 126 = .ok (.aload_n 0, 1) := by decide +kernel
theorem dX10_goes_127 : decode cX10_goes 127 = .ok (.getfield 26, 3) := by decide +kernel
theorem dX10_goes_130 : decode cX10_goes 130 = .ok (.iload_n 1, 1) := by decide +kernel
theorem dX10_goes_131 : decode cX10_goes 131 = .ok (.iconst 0, 1) := by decide +kernel
theorem dX10_goes_132 : decode cX10_goes 132 = .ok (.iastore, 1) := by decide +kernel
theorem dX10_goes_133 : decode cX10_goes 133 = .ok (.return_, 1) := by decide +kernel
theorem dX10_goes_134 : decode cX10_goes 134 = .ok (.iload 6, 2) := by decide +kernel
theorem dX10_goes_136 : decode cX10_goes 136 = .ok (.iload_n 3, 1) := by decide +kernel
theorem dX10_goes_137 : decode cX10_goes 137 = .ok (.iload 4, 2) := by decide +kernel
theorem dX10_goes_139 : decode cX10_goes 139 = .ok (.iadd, 1) := by decide +kernel
theorem dX10_goes_140 : decode cX10_goes 140 = .ok (.if_icmp .ge 70, 3) := by decide +kernel
theorem dX10_goes_143 : decode cX10_goes 143 = .ok (.iload 9, 2) := by decide +kernel
theorem dX10_goes_145 : decode cX10_goes 145 = .ok (.ifCond .ne 65, 3) := by decide +kernel
theorem dX10_goes_148 : decode cX10_goes 148 = .ok (.aload_n 0, 1) := by decide +kernel
theorem dX10_goes_149 : decode cX10_goes 149 = .ok (.getfield 29, 3) := by decide +kernel
theorem dX10_goes_152 : decode cX10_goes 152 = .ok (.iload_n 1, 1) := by decide +kernel
theorem dX10_goes_153 : decode cX10_goes 153 = .ok (.iconst 1, 1) := by decide +kernel
theorem dX10_goes_154 : decode cX10_goes 154 = .ok (.iastore, 1) := by decide +kernel
theorem dX10_goes_155 : decode cX10_goes 155 = .ok (.aload_n 0, 1) := by decide +kernel
theorem dX10_goes_156 : decode cX10_goes 156 = .ok (.getfield 26, 3) := by decide +kernel
theorem dX10_goes_159 : decode cX10_goes 159 = .ok (.iload_n 1, 1) := by decide +kernel
theorem dX10_goes_160 : decode cX10_goes 160 = .ok (.dup2, 1) := by decide +kernel
theorem dX10_goes_161 : decode cX10_goes 161 = .ok (.iaload, 1) := by decide +kernel
theorem dX10_goes_162 : decode cX10_goes 162 = .ok (.iload 7, 2) := by decide +kernel
theorem dX10_goes_164 : decode cX10_goes 164 = .ok (.iadd, 1) := by decide +kernel
theorem dX10_goes_165 : decode cX10_goes 165 = .ok (.iastore, 1) := by decide +kernel
theorem dX10_goes_166 : decode cX10_goes 166 = .ok (.aload_n 0, 1) := by decide +kernel
theorem dX10_goes_167 : decode cX10_goes 167 = .ok (.getfield 51, 3) := by decide +kernel
theorem dX10_goes_170 : decode cX10_goes 170 = .ok (.iload_n 2, 1) := by decide +kernel
theorem dX10_goes_171 : decode cX10_goes 171 = .ok (.dup2, 1) := by decide +kernel
theorem dX10_goes_172 : decode cX10_goes 172 = .ok (.laload, 1) := by decide +kernel
theorem dX10_goes_173 : decode cX10_goes 173 = .ok (.aload_n 0, 1) := by decide +kernel
theorem dX10_goes_174 : decode cX10_goes 174 = .ok (.getfield 217, 3) := by decide +kernel
theorem dX10_goes_177 : decode cX10_goes 177 = .ok (.iconst 1, 1) := by decide +kernel
theorem dX10_goes_178 : decode cX10_goes 178 = .ok (.if_icmp .ne 9, 3) := by decide +kernel
theorem dX10_goes_181 : decode cX10_goes 181 = .ok (.iload 7, 2) := by decide +kernel
theorem dX10_goes_183 : decode cX10_goes 183 = .ok (.i2l, 1) := by decide +kernel
theorem dX10_goes_184 : decode cX10_goes 184 = .ok (.goto 4, 3) := by decide +kernel
theorem dX10_goes_187 : decode cX10_goes 187 = .ok (.lconst 0, 1) := by decide +kernel
theorem dX10_goes_188 : decode cX10_goes 188 = .ok (.ladd, 1) := by decide +kernel
theorem dX10_goes_189 : decode cX10_goes 189 = .ok (.lastore, 1) := by decide +kernel
theorem dX10_goes_190 : decode cX10_goes 190 = .ok (.aload_n 0, 1) := by decide +kernel
theorem dX10_goes_191 : decode cX10_goes 191 = .ok (.getfield 23, 3) := by decide +kernel
theorem dX10_goes_194 : decode cX10_goes 194 = .ok (.iload_n 1, 1) := by decide +kernel
theorem dX10_goes_195 : decode cX10_goes 195 = .ok (.dup2, 1) := by decide +kernel
theorem dX10_goes_196 : decode cX10_goes 196 = .ok (.iaload, 1) := by decide +kernel
theorem dX10_goes_197 : decode cX10_goes 197 = .ok (.iload 8, 2) := by decide +kernel
theorem dX10_goes_199 : decode cX10_goes 199 = .ok (.ifCond .eq 7, 3) := by decide +kernel
theorem dX10_goes_202 : decode cX10_goes 202 = .ok (.iconst 1, 1) := by decide +kernel
theorem dX10_goes_203 : decode cX10_goes 203 = .ok (.goto 4, 3) := by decide +kernel
theorem dX10_goes_206 : decode cX10_goes 206 = .ok (.iconst 0, 1) := by decide +kernel
theorem dX10_goes_207 : decode cX10_goes 207 = .ok (.iadd, 1) := by decide +kernel
theorem dX10_goes_208 : decode cX10_goes 208 = .ok (.iastore, 1) := by decide +kernel
theorem dX10_goes_209 : decode cX10_goes 209 = .ok (.return_, 1) := by decide +kernel
theorem dX10_goes_210 : decode cX10_goes 210 = .ok (.iload 6, 2) := by decide +kernel
theorem dX10_goes_212 : decode cX10_goes 212 = .ok (.iload_n 3, 1) := by decide +kernel
theorem dX10_goes_213 : decode cX10_goes 213 = .ok (.iload 4, 2) := by decide +kernel
theorem dX10_goes_215 : decode cX10_goes 215 = .ok (.iadd, 1) := by decide +kernel
theorem dX10_goes_216 : decode cX10_goes 216 = .ok (.if_icmp .lt 34, 3) := by decide +kernel
theorem dX10_goes_219 : decode cX10_goes 219 = .ok (.iload 6, 2) := by decide +kernel
theorem dX10_goes_221 : decode cX10_goes 221 = .ok (.iload_n 3, 1) := by decide +kernel
theorem dX10_goes_222 : decode cX10_goes 222 = .ok (.iload 4, 2) := by decide +kernel
theorem dX10_goes_224 : decode cX10_goes 224 = .ok (.iadd, 1) := by decide +kernel
theorem dX10_goes_225 : decode cX10_goes 225 = .ok (.iload 5, 2) := by decide +kernel
theorem dX10_goes_227 : decode cX10_goes 227 = .ok (.iadd, 1) := by decide +kernel
theorem dX10_goes_228 : decode cX10_goes 228 = .ok (.if_icmp .ge 22, 3) := by decide +kernel
theorem dX10_goes_231 : decode cX10_goes 231 = .ok (.aload_n 0, 1) := by decide +kernel
theorem dX10_goes_232 : decode cX10_goes 232 = .ok (.iload_n 1, 1) := by decide +kernel
theorem dX10_goes_233 : decode cX10_goes 233 = .ok (.iload_n 2, 1) := by decide +kernel
theorem dX10_goes_234 : decode cX10_goes 234 = .ok (.iload 7, 2) := by decide +kernel
theorem dX10_goes_236 : decode cX10_goes 236 = .ok (.iload 8, 2) := by decide +kernel
theorem dX10_goes_238 : decode cX10_goes 238 = .ok (.ifCond .eq 7, 3) := by decide +kernel
theorem dX10_goes_241 : decode cX10_goes 241 = .ok (.iconst 5, 1) := by decide +kernel
theorem dX10_goes_242 : decode cX10_goes 242 = .ok (.goto 4, 3) := by decide +kernel
theorem dX10_goes_245 : decode cX10_goes 245 = .ok (.iconst 2, 1) := by decide +kernel
theorem dX10_goes_246 : decode cX10_goes 246 = .ok (.invokevirtual 241, 3) := by decide +kernel
theorem dX10_goes_249 : decode cX10_goes 249 = .ok (.return_, 1) := by decide +kernel
theorem dX10_goes_250 : decode cX10_goes 250 = .ok (.aload_n 0, 1) := by decide +kernel
theorem dX10_goes_251 : decode cX10_goes 251 = .ok (.getfield 41, 3) := by decide +kernel
theorem dX10_goes_254 : decode cX10_goes 254 = .ok (.iload_n 2, 1) := by decide +kernel
theorem dX10_goes_255 : decode cX10_goes 255 = .ok (.dup2, 1) := by decide +kernel
theorem dX10_goes_256 : decode cX10_goes 256 = .ok (.laload, 1) := by decide +kernel
theorem dX10_goes_257 : decode cX10_goes 257 = .ok (.aload_n 0, 1) := by decide +kernel
theorem dX10_goes_258 : decode cX10_goes 258 = .ok (.getfield 26, 3) := by decide +kernel
theorem dX10_goes_261 : decode cX10_goes 261 = .ok (.iload_n 1, 1) := by decide +kernel
theorem dX10_goes_262 : decode cX10_goes 262 = .ok (.iaload, 1) := by decide +kernel
theorem dX10_goes_263 : decode cX10_goes 263 = .ok (.i2l, 1) := by decide +kernel
theorem dX10_goes_264 : decode cX10_goes 264 = .ok (.ladd, 1) := by decide +kernel
theorem dX10_goes_265 : decode cX10_goes 265 = .ok (.lastore, 1) := by decide +kernel
theorem dX10_goes_266 : decode cX10_goes 266 = .ok (.aload_n 0, 1) := by decide +kernel
theorem dX10_goes_267 : decode cX10_goes 267 = .ok (.getfield 26, 3) := by decide +kernel
theorem dX10_goes_270 : decode cX10_goes 270 = .ok (.iload_n 1, 1) := by decide +kernel
theorem dX10_goes_271 : decode cX10_goes 271 = .ok (.iconst 0, 1) := by decide +kernel
theorem dX10_goes_272 : decode cX10_goes 272 = .ok (.iastore, 1) := by decide +kernel
theorem dX10_goes_273 : decode cX10_goes 273 = .ok (.aload_n 0, 1) := by decide +kernel
theorem dX10_goes_274 : decode cX10_goes 274 = .ok (.getfield 29, 3) := by decide +kernel
theorem dX10_goes_277 : decode cX10_goes 277 = .ok (.iload_n 1, 1) := by decide +kernel
theorem dX10_goes_278 : decode cX10_goes 278 = .ok (.iconst 0, 1) := by decide +kernel
theorem dX10_goes_279 : decode cX10_goes 279 = .ok (.iastore, 1) := by decide +kernel
theorem dX10_goes_280 : decode cX10_goes 280 = .ok (.iload 9, 2) := by decide +kernel
theorem dX10_goes_282 : decode cX10_goes 282 = .ok (.ifCond .eq 15, 3) := by decide +kernel
theorem dX10_goes_285 : decode cX10_goes 285 = .ok (.aload_n 0, 1) := by decide +kernel
theorem dX10_goes_286 : decode cX10_goes 286 = .ok (.getfield 17, 3) := by decide +kernel
theorem dX10_goes_289 : decode cX10_goes 289 = .ok (.iload_n 1, 1) := by decide +kernel
theorem dX10_goes_290 : decode cX10_goes 290 = .ok (.dup2, 1) := by decide +kernel
theorem dX10_goes_291 : decode cX10_goes 291 = .ok (.iaload, 1) := by decide +kernel
theorem dX10_goes_292 : decode cX10_goes 292 = .ok (.iload 7, 2) := by decide +kernel
theorem dX10_goes_294 : decode cX10_goes 294 = .ok (.iadd, 1) := by decide +kernel
theorem dX10_goes_295 : decode cX10_goes 295 = .ok (.iastore, 1) := by decide +kernel
theorem dX10_goes_296 : decode cX10_goes 296 = .ok (.return_, 1) := by decide +kernel
theorem dX10_goes_297 : decode cX10_goes 297 = .ok (.aload_n 0, 1) := by decide +kernel
theorem dX10_goes_298 : decode cX10_goes 298 = .ok (.iload_n 1, 1) := by decide +kernel
theorem dX10_goes_299 : decode cX10_goes 299 = .ok (.iload_n 2, 1) := by decide +kernel
theorem dX10_goes_300 : decode cX10_goes 300 = .ok (.iload 7, 2) := by decide +kernel
theorem dX10_goes_302 : decode cX10_goes 302 = .ok (.invokevirtual 245, 3) := by decide +kernel
theorem dX10_goes_305 : decode cX10_goes 305 = .ok (.istore 10, 2) := by decide +kernel
theorem dX10_goes_307 : decode cX10_goes 307 = .ok (.aload_n 0, 1) := by decide +kernel
theorem dX10_goes_308 : decode cX10_goes 308 = .ok (.getfield 41, 3) := by decide +kernel
theorem dX10_goes_311 : decode cX10_goes 311 = .ok (.iload_n 2, 1) := by decide +kernel
theorem dX10_goes_312 : decode cX10_goes 312 = .ok (.dup2, 1) := by decide +kernel
theorem dX10_goes_313 : decode cX10_goes 313 = .ok (.laload, 1) := by decide +kernel
theorem dX10_goes_314 : decode cX10_goes 314 = .ok (.iload 7, 2) := by decide +kernel
theorem dX10_goes_316 : decode cX10_goes 316 = .ok (.i2l, 1) := by decide +kernel
theorem dX10_goes_317 : decode cX10_goes 317 = .ok (.ladd, 1) := by decide +kernel
theorem dX10_goes_318 : decode cX10_goes 318 = .ok (.lastore, 1) := by decide +kernel
theorem dX10_goes_319 : decode cX10_goes 319 = .ok (.aload_n 0, 1) := by decide +kernel
theorem dX10_goes_320 : decode cX10_goes 320 = .ok (.getfield 45, 3) := by decide +kernel
theorem dX10_goes_323 : decode cX10_goes 323 = .ok (.iload_n 2, 1) := by decide +kernel
theorem dX10_goes_324 : decode cX10_goes 324 = .ok (.dup2, 1) := by decide +kernel
theorem dX10_goes_325 : decode cX10_goes 325 = .ok (.laload, 1) := by decide +kernel
theorem dX10_goes_326 : decode cX10_goes 326 = .ok (.iload 10, 2) := by decide +kernel
theorem dX10_goes_328 : decode cX10_goes 328 = .ok (.i2l, 1) := by decide +kernel
theorem dX10_goes_329 : decode cX10_goes 329 = .ok (.ladd, 1) := by decide +kernel
theorem dX10_goes_330 : decode cX10_goes 330 = .ok (.lastore, 1) := by decide +kernel
theorem dX10_goes_331 : decode cX10_goes 331 = .ok (.aload_n 0, 1) := by decide +kernel
theorem dX10_goes_332 : decode cX10_goes 332 = .ok (.getfield 17, 3) := by decide +kernel
theorem dX10_goes_335 : decode cX10_goes 335 = .ok (.iload_n 1, 1) := by decide +kernel
theorem dX10_goes_336 : decode cX10_goes 336 = .ok (.dup2, 1) := by decide +kernel
theorem dX10_goes_337 : decode cX10_goes 337 = .ok (.iaload, 1) := by decide +kernel
theorem dX10_goes_338 : decode cX10_goes 338 = .ok (.iload 10, 2) := by decide +kernel
theorem dX10_goes_340 : decode cX10_goes 340 = .ok (.isub, 1) := by decide +kernel
theorem dX10_goes_341 : decode cX10_goes 341 = .ok (.iastore, 1) := by decide +kernel
theorem dX10_goes_342 : decode cX10_goes 342 = .ok (.iload 8, 2) := by decide +kernel
theorem dX10_goes_344 : decode cX10_goes 344 = .ok (.ifCond .eq 10, 3) := by decide +kernel
theorem dX10_goes_347 : decode cX10_goes 347 = .ok (.aload_n 0, 1) := by decide +kernel
theorem dX10_goes_348 : decode cX10_goes 348 = .ok (.getfield 29, 3) := by decide +kernel
theorem dX10_goes_351 : decode cX10_goes 351 = .ok (.iload_n 1, 1) := by decide +kernel
theorem dX10_goes_352 : decode cX10_goes 352 = .ok (.iconst 5, 1) := by decide +kernel
theorem dX10_goes_353 : decode cX10_goes 353 = .ok (.iastore, 1) := by decide +kernel
theorem dX10_goes_354 : decode cX10_goes 354 = .ok (.return_, 1) := by decide +kernel
theorem dX10_collect_0 : decode cX10_collect 0 = .ok (.aload_n 0, 1) := by decide +kernel
theorem dX10_collect_1 : decode cX10_collect 1 = .ok (.getfield 41, 3) := by decide +kernel
theorem dX10_collect_4 : decode cX10_collect 4 = .ok (.iload_n 1, 1) := by decide +kernel
theorem dX10_collect_5 : decode cX10_collect 5 = .ok (.lconst 0, 1) := by decide +kernel
theorem dX10_collect_6 : decode cX10_collect 6 = .ok (.lastore, 1) := by decide +kernel
theorem dX10_collect_7 : decode cX10_collect 7 = .ok (.aload_n 0, 1) := by decide +kernel
theorem dX10_collect_8 : decode cX10_collect 8 = .ok (.getfield 45, 3) := by decide +kernel
theorem dX10_collect_11 : decode cX10_collect 11 = .ok (.iload_n 1, 1) := by decide +kernel
theorem dX10_collect_12 : decode cX10_collect 12 = .ok (.lconst 0, 1) := by decide +kernel
theorem dX10_collect_13 : decode cX10_collect 13 = .ok (.lastore, 1) := by decide +kernel
theorem dX10_collect_14 : decode cX10_collect 14 = .ok (.aload_n 0, 1) := by decide +kernel
theorem dX10_collect_15 : decode cX10_collect 15 = .ok (.getfield 48, 3) := by decide +kernel
theorem dX10_collect_18 : decode cX10_collect 18 = .ok (.iload_n 1, 1) := by decide +kernel
theorem dX10_collect_19 : decode cX10_collect 19 = .ok (.lconst 0, 1) := by decide +kernel
theorem dX10_collect_20 : decode cX10_collect 20 = .ok (.lastore, 1) := by decide +kernel
theorem dX10_collect_21 : decode cX10_collect 21 = .ok (.aload_n 0, 1) := by decide +kernel
theorem dX10_collect_22 : decode cX10_collect 22 = .ok (.getfield 51, 3) := by decide +kernel
theorem dX10_collect_25 : decode cX10_collect 25 = .ok (.iload_n 1, 1) := by decide +kernel
theorem dX10_collect_26 : decode cX10_collect 26 = .ok (.lconst 0, 1) := by decide +kernel
theorem dX10_collect_27 : decode cX10_collect 27 = .ok (.lastore, 1) := by decide +kernel
theorem dX10_collect_28 : decode cX10_collect 28 = .ok (.aload_n 0, 1) := by decide +kernel
theorem dX10_collect_29 : decode cX10_collect 29 = .ok (.getfield 63, 3) := by decide +kernel
theorem dX10_collect_32 : decode cX10_collect 32 = .ok (.iload_n 1, 1) := by decide +kernel
theorem dX10_collect_33 : decode cX10_collect 33 = .ok (.lconst 0, 1) := by decide +kernel
theorem dX10_collect_34 : decode cX10_collect 34 = .ok (.lastore, 1) := by decide +kernel
theorem dX10_collect_35 : decode cX10_collect 35 = .ok (.aload_n 0, 1) := by decide +kernel
theorem dX10_collect_36 : decode cX10_collect 36 = .ok (.getfield 57, 3) := by decide +kernel
theorem dX10_collect_39 : decode cX10_collect 39 = .ok (.iload_n 1, 1) := by decide +kernel
theorem dX10_collect_40 : decode cX10_collect 40 = .ok (.aload_n 0, 1) := by decide +kernel
theorem dX10_collect_41 : decode cX10_collect 41 = .ok (.invokevirtual 248, 3) := by decide +kernel
theorem dX10_collect_44 : decode cX10_collect 44 = .ok (.i2l, 1) := by decide +kernel
theorem dX10_collect_45 : decode cX10_collect 45 = .ok (.lastore, 1) := by decide +kernel
theorem dX10_collect_46 : decode cX10_collect 46 = .ok (.iconst 0, 1) := by decide +kernel
theorem dX10_collect_47 : decode cX10_collect 47 = .ok (.istore_n 2, 1) := by decide +kernel
theorem dX10_collect_48 : decode cX10_collect 48 = .ok (.iload_n 2, 1) := by decide +kernel
theorem dX10_collect_49 : decode cX10_collect 49 = .ok (.aload_n 0, 1) := by decide +kernel
theorem dX10_collect_50 : decode cX10_collect 50 = .ok (.getfield 183, 3) := by decide +kernel
theorem dX10_collect_53 : decode cX10_collect 53 = .ok (.if_icmp .ge 160, 3) := by decide +kernel
theorem dX10_collect_56 : decode cX10_collect 56 = .ok (.aload_n 0, 1) := by decide +kernel
theorem dX10_collect_57 : decode cX10_collect 57 = .ok (.getfield 29, 3) := by decide +kernel
theorem dX10_collect_60 : decode cX10_collect 60 = .ok (.iload_n 2, 1) := by decide +kernel
theorem dX10_collect_61 : decode cX10_collect 61 = .ok (.iaload, 1) := by decide +kernel
theorem dX10_collect_62 : decode cX10_collect 62 = .ok (.ifCond .eq 13, 3) := by decide +kernel
theorem dX10_collect_65 : decode cX10_collect 65 = .ok (.aload_n 0, 1) := by decide +kernel
theorem dX10_collect_66 : decode cX10_collect 66 = .ok (.getfield 29, 3) := by decide +kernel
theorem dX10_collect_69 : decode cX10_collect 69 = .ok (.iload_n 2, 1) := by decide +kernel
theorem dX10_collect_70 : decode cX10_collect 70 = .ok (.iaload, 1) := by decide +kernel
theorem dX10_collect_71 : decode cX10_collect 71 = .ok (.iconst 1, 1) := by decide +kernel
theorem dX10_collect_72 : decode cX10_collect 72 = .ok (.if_icmp .ne 7, 3) := by decide +kernel
theorem dX10_collect_75 : decode cX10_collect 75 = .ok (.iconst 1, 1) := by decide +kernel
theorem dX10_collect_76 : decode cX10_collect 76 = .ok (.goto 4, 3) := by decide +kernel
theorem dX10_collect_79 : decode cX10_collect 79 = .ok (.iconst 0, 1) := by decide +kernel
theorem dX10_collect_80 : decode cX10_collect 80 = .ok (.istore_n 3, 1) := by decide +kernel
theorem dX10_collect_81 : decode cX10_collect 81 = .ok (.iload_n 3, 1) := by decide +kernel
theorem dX10_collect_82 : decode cX10_collect 82 = .ok (.ifCond .eq 55, 3) := by decide +kernel
theorem dX10_collect_85 : decode cX10_collect 85 = .ok (.iload_n 1, 1) := by decide +kernel
theorem dX10_collect_86 : decode cX10_collect 86 = .ok (.bipush 13, 2) := by decide +kernel
theorem dX10_collect_88 : decode cX10_collect 88 = .ok (.if_icmp .ne 49, 3) := by decide +kernel
theorem dX10_collect_91 : decode cX10_collect 91 = .ok (.aload_n 0, 1) := by decide +kernel
theorem dX10_collect_92 : decode cX10_collect 92 = .ok (.getfield 13, 3) := by decide +kernel
theorem dX10_collect_95 : decode cX10_collect 95 = .ok (.iload_n 2, 1) := by decide +kernel
theorem dX10_collect_96 : decode cX10_collect 96 = .ok (.iaload, 1) := by decide +kernel
theorem dX10_collect_97 : decode cX10_collect 97 = .ok (.invokestatic 252, 3) := by decide +kernel
theorem dX10_collect_100 : decode cX10_collect 100 = .ok (.ifCond .eq 37, 3) := by decide +kernel
theorem dX10_collect_103 : decode cX10_collect 103 = .ok (.aload_n 0, 1) := by decide +kernel
theorem dX10_collect_104 : decode cX10_collect 104 = .ok (.getfield 20, 3) := by decide +kernel
theorem dX10_collect_107 : decode cX10_collect 107 = .ok (.iload_n 2, 1) := by decide +kernel
theorem dX10_collect_108 : decode cX10_collect 108 = .ok (.iconst 2, 1) := by decide +kernel
theorem dX10_collect_109 : decode cX10_collect 109 = .ok (.aload_n 0, 1) := by decide +kernel
theorem dX10_collect_110 : decode cX10_collect 110 = .ok (.getfield 20, 3) := by decide +kernel
theorem dX10_collect_113 : decode cX10_collect 113 = .ok (.iload_n 2, 1) := by decide +kernel
theorem dX10_collect_114 : decode cX10_collect 114 = .ok (.iaload, 1) := by decide +kernel
theorem dX10_collect_115 : decode cX10_collect 115 = .ok (.imul, 1) := by decide +kernel
theorem dX10_collect_116 : decode cX10_collect 116 = .ok (.sipush 200, 3) := by decide +kernel
theorem dX10_collect_119 : decode cX10_collect 119 = .ok (.if_icmp .le 9, 3) := by decide +kernel
theorem dX10_collect_122 : decode cX10_collect 122 = .ok (.sipush 200, 3) := by decide +kernel
theorem dX10_collect_125 : decode cX10_collect 125 = .ok (.goto 11, 3) := by decide +kernel
theorem dX10_collect_128 : decode cX10_collect 128 = .ok (.iconst 2, 1) := by decide +kernel
theorem dX10_collect_129 : decode cX10_collect 129 = .ok (.aload_n 0, 1) := by decide +kernel
theorem dX10_collect_130 : decode cX10_collect 130 = .ok (.getfield 20, 3) := by decide +kernel
theorem dX10_collect_133 : decode cX10_collect 133 = .ok (.iload_n 2, 1) := by decide +kernel
theorem dX10_collect_134 : decode cX10_collect 134 = .ok (.iaload, 1) := by decide +kernel
theorem dX10_collect_135 : decode cX10_collect 135 = .ok (.imul, 1) := by decide +kernel
theorem dX10_collect_136 : decode cX10_collect 136 = .ok (.iastore, 1) := by decide +kernel
theorem dX10_collect_137 : decode cX10_collect 137 = .ok (.aload_n 0, 1) := by decide +kernel
theorem dX10_collect_138 : decode cX10_collect 138 = .ok (.getfield 13, 3) := by decide +kernel
theorem dX10_collect_141 : decode cX10_collect 141 = .ok (.iload_n 2, 1) := by decide +kernel
theorem dX10_collect_142 : decode cX10_collect 142 = .ok (.iaload, 1) := by decide +kernel
theorem dX10_collect_143 : decode cX10_collect 143 = .ok (.invokestatic 210, 3) := by decide +kernel
theorem dX10_collect_146 : decode cX10_collect 146 = .ok (.ifCond .eq 61, 3) := by decide +kernel
theorem dX10_collect_149 : decode cX10_collect 149 = .ok (.iload_n 1, 1) := by decide +kernel
theorem dX10_collect_150 : decode cX10_collect 150 = .ok (.iconst 1, 1) := by decide +kernel
theorem dX10_collect_151 : decode cX10_collect 151 = .ok (.if_icmp .eq 25, 3) := by decide +kernel
theorem dX10_collect_154 : decode cX10_collect 154 = .ok (.iload_n 3, 1) := by decide +kernel
theorem dX10_collect_155 : decode cX10_collect 155 = .ok (.ifCond .eq 52, 3) := by decide +kernel
theorem dX10_collect_158 : decode cX10_collect 158 = .ok (.iload_n 1, 1) := by decide +kernel
theorem dX10_collect_159 : decode cX10_collect 159 = .ok (.bipush 13, 2) := by decide +kernel
theorem dX10_collect_161 : decode cX10_collect 161 = .ok (.if_icmp .ne 46, 3) := by decide +kernel
theorem dX10_collect_164 : decode cX10_collect 164 = .ok (.aload_n 0, 1) := by decide +kernel
theorem dX10_collect_165 : decode cX10_collect 165 = .ok (.getfield 13, 3) := by decide +kernel
theorem dX10_collect_168 : decode cX10_collect 168 = .ok (.iload_n 2, 1) := by decide +kernel
theorem dX10_collect_169 : decode cX10_collect 169 = .ok (.iaload, 1) := by decide +kernel
theorem dX10_collect_170 : decode cX10_collect 170 = .ok (.invokestatic 252, 3) := by decide +kernel
theorem dX10_collect_173 : decode cX10_collect 173 = .ok (.ifCond .eq 34, 3) := by decide +kernel
theorem dX10_collect_176 : decode cX10_collect 176 = .ok (.aload_n 0, 1) := by decide +kernel
theorem dX10_collect_177 : decode cX10_collect 177 = .ok (.getfield 32, 3) := by decide +kernel
theorem dX10_collect_180 : decode cX10_collect 180 = .ok (.iload_n 2, 1) := by decide +kernel
theorem dX10_collect_181 : decode cX10_collect 181 = .ok (.aload_n 0, 1) := by decide +kernel
theorem dX10_collect_182 : decode cX10_collect 182 = .ok (.getfield 17, 3) := by decide +kernel
theorem dX10_collect_185 : decode cX10_collect 185 = .ok (.iload_n 2, 1) := by decide +kernel
theorem dX10_collect_186 : decode cX10_collect 186 = .ok (.iaload, 1) := by decide +kernel
theorem dX10_collect_187 : decode cX10_collect 187 = .ok (.aload_n 0, 1) := by decide +kernel
theorem dX10_collect_188 : decode cX10_collect 188 = .ok (.getfield 20, 3) := by decide +kernel
theorem dX10_collect_191 : decode cX10_collect 191 = .ok (.iload_n 2, 1) := by decide +kernel
theorem dX10_collect_192 : decode cX10_collect 192 = .ok (.iaload, 1) := by decide +kernel
theorem dX10_collect_193 : decode cX10_collect 193 = .ok (.aload_n 0, 1) := by decide +kernel
theorem dX10_collect_194 : decode cX10_collect 194 = .ok (.getfield 23, 3) := by decide +kernel
theorem dX10_collect_197 : decode cX10_collect 197 = .ok (.iload_n 2, 1) := by decide +kernel
theorem dX10_collect_198 : decode cX10_collect 198 = .ok (.iaload, 1) := by decide +kernel
theorem dX10_collect_199 : decode cX10_collect 199 = .ok (.iconst 1, 1) := by decide +kernel
theorem dX10_collect_200 : decode cX10_collect 200 = .ok (.iadd, 1) := by decide +kernel
theorem dX10_collect_201 : decode cX10_collect 201 = .ok (.iload_n 1, 1) := by decide +kernel
theorem dX10_collect_202 : decode cX10_collect 202 = .ok (.isub, 1) := by decide +kernel
theorem dX10_collect_203 : decode cX10_collect 203 = .ok (.invokestatic 255, 3) := by decide +kernel
theorem dX10_collect_206 : decode cX10_collect 206 = .ok (.iastore, 1) := by decide +kernel
theorem dX10_collect_207 : decode cX10_collect 207 = .ok (.iinc 2 1, 3) := by decide +kernel
theorem dX10_collect_210 : decode cX10_collect 210 = .ok (.goto (-162), 3) := by decide +kernel
theorem dX10_collect_213 : decode cX10_collect 213 = .ok (.iconst 0, 1) := by decide +kernel
theorem dX10_collect_214 : decode cX10_collect 214 = .ok (.istore_n 2, 1) := by decide +kernel
theorem dX10_collect_215 : decode cX10_collect 215 = .ok (.iload_n 2, 1) := by decide +kernel
theorem dX10_collect_216 : decode cX10_collect 216 = .ok (.aload_n 0, 1) := by decide +kernel
theorem dX10_collect_217 : decode cX10_collect 217 = .ok (.getfield 183, 3) := by decide +kernel
theorem dX10_collect_220 : decode cX10_collect 220 = .ok (.if_icmp .ge 144, 3) := by decide +kernel
theorem dX10_collect_223 : decode cX10_collect 223 = .ok (.aload_n 0, 1) := by decide +kernel
theorem dX10_collect_224 : decode cX10_collect 224 = .ok (.getfield 29, 3) := by decide +kernel
theorem dX10_collect_227 : decode cX10_collect 227 = .ok (.iload_n 2, 1) := by decide +kernel
theorem dX10_collect_228 : decode cX10_collect 228 = .ok (.iaload, 1) := by decide +kernel
theorem dX10_collect_229 : decode cX10_collect 229 = .ok (.ifCond .eq 13, 3) := by decide +kernel
theorem dX10_collect_232 : decode cX10_collect 232 = .ok (.aload_n 0, 1) := by decide +kernel
theorem dX10_collect_233 : decode cX10_collect 233 = .ok (.getfield 29, 3) := by decide +kernel
theorem dX10_collect_236 : decode cX10_collect 236 = .ok (.iload_n 2, 1) := by decide +kernel
theorem dX10_collect_237 : decode cX10_collect 237 = .ok (.iaload, 1) := by decide +kernel
theorem dX10_collect_238 : decode cX10_collect 238 = .ok (.iconst 1, 1) := by decide +kernel
theorem dX10_collect_239 : decode cX10_collect 239 = .ok (.if_icmp .ne 12, 3) := by decide +kernel
theorem dX10_collect_242 : decode cX10_collect 242 = .ok (.aload_n 0, 1) := by decide +kernel
theorem dX10_collect_243 : decode cX10_collect 243 = .ok (.iload_n 2, 1) := by decide +kernel
theorem dX10_collect_244 : decode cX10_collect 244 = .ok (.iload_n 1, 1) := by decide +kernel
theorem dX10_collect_245 : decode cX10_collect 245 = .ok (.invokevirtual 258, 3) := by decide +kernel
theorem dX10_collect_248 : decode cX10_collect 248 = .ok (.goto 110, 3) := by decide +kernel
theorem dX10_collect_251 : decode cX10_collect 251 = .ok (.aload_n 0, 1) := by decide +kernel
theorem dX10_collect_252 : decode cX10_collect 252 = .ok (.getfield 29, 3) := by decide +kernel
theorem dX10_collect_255 : decode cX10_collect 255 = .ok (.iload_n 2, 1) := by decide +kernel
theorem dX10_collect_256 : decode cX10_collect 256 = .ok (.iaload, 1) := by decide +kernel
theorem dX10_collect_257 : decode cX10_collect 257 = .ok (.bipush 6, 2) := by decide +kernel
theorem dX10_collect_259 : decode cX10_collect 259 = .ok (.if_icmp .ne 15, 3) := by decide +kernel
theorem dX10_collect_262 : decode cX10_collect 262 = .ok (.aload_n 0, 1) := by decide +kernel
theorem dX10_collect_263 : decode cX10_collect 263 = .ok (.iload_n 2, 1) := by decide +kernel
theorem dX10_collect_264 : decode cX10_collect 264 = .ok (.iload_n 1, 1) := by decide +kernel
theorem dX10_collect_265 : decode cX10_collect 265 = .ok (.iconst 0, 1) := by decide +kernel
theorem dX10_collect_266 : decode cX10_collect 266 = .ok (.bipush 6, 2) := by decide +kernel
theorem dX10_collect_268 : decode cX10_collect 268 = .ok (.invokevirtual 241, 3) := by decide +kernel
theorem dX10_collect_271 : decode cX10_collect 271 = .ok (.goto 87, 3) := by decide +kernel
theorem dX10_collect_274 : decode cX10_collect 274 = .ok (.aload_n 0, 1) := by decide +kernel
theorem dX10_collect_275 : decode cX10_collect 275 = .ok (.getfield 29, 3) := by decide +kernel
theorem dX10_collect_278 : decode cX10_collect 278 = .ok (.iload_n 2, 1) := by decide +kernel
theorem dX10_collect_279 : decode cX10_collect 279 = .ok (.iaload, 1) := by decide +kernel
theorem dX10_collect_280 : decode cX10_collect 280 = .ok (.iconst 3, 1) := by decide +kernel
theorem dX10_collect_281 : decode cX10_collect 281 = .ok (.if_icmp .ne 77, 3) := by decide +kernel
theorem dX10_collect_284 : decode cX10_collect 284 = .ok (.aload_n 0, 1) := by decide +kernel
theorem dX10_collect_285 : decode cX10_collect 285 = .ok (.getfield 35, 3) := by decide +kernel
theorem dX10_collect_288 : decode cX10_collect 288 = .ok (.iload_n 2, 1) := by decide +kernel
theorem dX10_collect_289 : decode cX10_collect 289 = .ok (.iaload, 1) := by decide +kernel
theorem dX10_collect_290 : decode cX10_collect 290 = .ok (.iconst 3, 1) := by decide +kernel
theorem dX10_collect_291 : decode cX10_collect 291 = .ok (.iadd, 1) := by decide +kernel
theorem dX10_collect_292 : decode cX10_collect 292 = .ok (.iload_n 1, 1) := by decide +kernel
theorem dX10_collect_293 : decode cX10_collect 293 = .ok (.if_icmp .ne 65, 3) := by decide +kernel
theorem dX10_collect_296 : decode cX10_collect 296 = .ok (.aload_n 0, 1) := by decide +kernel
theorem dX10_collect_297 : decode cX10_collect 297 = .ok (.getfield 17, 3) := by decide +kernel
theorem dX10_collect_300 : decode cX10_collect 300 = .ok (.iload_n 2, 1) := by decide +kernel
theorem dX10_collect_301 : decode cX10_collect 301 = .ok (.iaload, 1) := by decide +kernel
theorem dX10_collect_302 : decode cX10_collect 302 = .ok (.i2l, 1) := by decide +kernel
theorem dX10_collect_303 : decode cX10_collect 303 = .ok (.aload_n 0, 1) := by decide +kernel
theorem dX10_collect_304 : decode cX10_collect 304 = .ok (.getfield 38, 3) := by decide +kernel
theorem dX10_collect_307 : decode cX10_collect 307 = .ok (.i2l, 1) := by decide +kernel
theorem dX10_collect_308 : decode cX10_collect 308 = .ok (.lmul, 1) := by decide +kernel
theorem dX10_collect_309 : decode cX10_collect 309 = .ok (.ldc2_w 262, 3) := by decide +kernel
theorem dX10_collect_312 : decode cX10_collect 312 = .ok (.ldiv, 1) := by decide +kernel
theorem dX10_collect_313 : decode cX10_collect 313 = .ok (.l2i, 1) := by decide +kernel
theorem dX10_collect_314 : decode cX10_collect 314 = .ok (.istore_n 3, 1) := by decide +kernel
theorem dX10_collect_315 : decode cX10_collect 315 = .ok (.aload_n 0, 1) := by decide +kernel
theorem dX10_collect_316 : decode cX10_collect 316 = .ok (.getfield 48, 3) := by decide +kernel
theorem dX10_collect_319 : decode cX10_collect 319 = .ok (.iload_n 1, 1) := by decide +kernel
theorem dX10_collect_320 : decode cX10_collect 320 = .ok (.dup2, 1) := by decide +kernel
theorem dX10_collect_321 : decode cX10_collect 321 = .ok (.laload, 1) := by decide +kernel
theorem dX10_collect_322 : decode cX10_collect 322 = .ok (.iload_n 3, 1) := by decide +kernel
theorem dX10_collect_323 : decode cX10_collect 323 = .ok (.i2l, 1) := by decide +kernel
theorem dX10_collect_324 : decode cX10_collect 324 = .ok (.ladd, 1) := by decide +kernel
theorem dX10_collect_325 : decode cX10_collect 325 = .ok (.lastore, 1) := by decide +kernel
theorem dX10_collect_326 : decode cX10_collect 326 = .ok (.aload_n 0, 1) := by decide +kernel
theorem dX10_collect_327 : decode cX10_collect 327 = .ok (.getfield 63, 3) := by decide +kernel
theorem dX10_collect_330 : decode cX10_collect 330 = .ok (.iload_n 1, 1) := by decide +kernel
theorem dX10_collect_331 : decode cX10_collect 331 = .ok (.dup2, 1) := by decide +kernel
theorem dX10_collect_332 : decode cX10_collect 332 = .ok (.laload, 1) := by decide +kernel
theorem dX10_collect_333 : decode cX10_collect 333 = .ok (.aload_n 0, 1) := by decide +kernel
theorem dX10_collect_334 : decode cX10_collect 334 = .ok (.getfield 17, 3) := by decide +kernel
theorem dX10_collect_337 : decode cX10_collect 337 = .ok (.iload_n 2, 1) := by decide +kernel
theorem dX10_collect_338 : decode cX10_collect 338 = .ok (.iaload, 1) := by decide +kernel
theorem dX10_collect_339 : decode cX10_collect 339 = .ok (.iload_n 3, 1) := by decide +kernel
theorem dX10_collect_340 : decode cX10_collect 340 = .ok (.isub, 1) := by decide +kernel
theorem dX10_collect_341 : decode cX10_collect 341 = .ok (.i2l, 1) := by decide +kernel
theorem dX10_collect_342 : decode cX10_collect 342 = .ok (.ladd, 1) := by decide +kernel
theorem dX10_collect_343 : decode cX10_collect 343 = .ok (.lastore, 1) := by decide +kernel
theorem dX10_collect_344 : decode cX10_collect 344 = .ok (.aload_n 0, 1) := by decide +kernel
theorem dX10_collect_345 : decode cX10_collect 345 = .ok (.getfield 17, 3) := by decide +kernel
theorem dX10_collect_348 : decode cX10_collect 348 = .ok (.iload_n 2, 1) := by decide +kernel
theorem dX10_collect_349 : decode cX10_collect 349 = .ok (.iconst 0, 1) := by decide +kernel
theorem dX10_collect_350 : decode cX10_collect 350 = .ok (.iastore, 1) := by decide +kernel
theorem dX10_collect_351 : decode cX10_collect 351 = .ok (.aload_n 0, 1) := by decide +kernel
theorem dX10_collect_352 : decode cX10_collect 352 = .ok (.getfield 29, 3) := by decide +kernel
theorem dX10_collect_355 : decode cX10_collect 355 = .ok (.iload_n 2, 1) := by decide +kernel
theorem dX10_collect_356 : decode cX10_collect 356 = .ok (.iconst 4, 1) := by decide +kernel
theorem dX10_collect_357 : decode cX10_collect 357 = .ok (.iastore, 1) := by decide +kernel
theorem dX10_collect_358 : decode cX10_collect 358 = .ok (.iinc 2 1, 3) := by decide +kernel
theorem dX10_collect_361 : decode cX10_collect 361 = .ok (.goto (-146), 3) := by decide +kernel
theorem dX10_collect_364 : decode cX10_collect 364 = .ok (.aload_n 0, 1) := by decide +kernel
theorem dX10_collect_365 : decode cX10_collect 365 = .ok (.getfield 66, 3) := by decide +kernel
theorem dX10_collect_368 : decode cX10_collect 368 = .ok (.iload_n 1, 1) := by decide +kernel
theorem dX10_collect_369 : decode cX10_collect 369 = .ok (.iconst 0, 1) := by decide +kernel
theorem dX10_collect_370 : decode cX10_collect 370 = .ok (.iastore, 1) := by decide +kernel
theorem dX10_collect_371 : decode cX10_collect 371 = .ok (.iconst 0, 1) := by decide +kernel
theorem dX10_collect_372 : decode cX10_collect 372 = .ok (.istore_n 2, 1) := by decide +kernel
theorem dX10_collect_373 : decode cX10_collect 373 = .ok (.iload_n 2, 1) := by decide +kernel
theorem dX10_collect_374 : decode cX10_collect 374 = .ok (.aload_n 0, 1) := by decide +kernel
theorem dX10_collect_375 : decode cX10_collect 375 = .ok (.getfield 183, 3) := by decide +kernel
theorem dX10_collect_378 : decode cX10_collect 378 = .ok (.if_icmp .ge 33, 3) := by decide +kernel
theorem dX10_collect_381 : decode cX10_collect 381 = .ok (.aload_n 0, 1) := by decide +kernel
theorem dX10_collect_382 : decode cX10_collect 382 = .ok (.getfield 66, 3) := by decide +kernel
theorem dX10_collect_385 : decode cX10_collect 385 = .ok (.iload_n 1, 1) := by decide +kernel
theorem dX10_collect_386 : decode cX10_collect 386 = .ok (.dup2, 1) := by decide +kernel
theorem dX10_collect_387 : decode cX10_collect 387 = .ok (.iaload, 1) := by decide +kernel
theorem dX10_collect_388 : decode cX10_collect 388 = .ok (.aload_n 0, 1) := by decide +kernel
theorem dX10_collect_389 : decode cX10_collect 389 = .ok (.getfield 29, 3) := by decide +kernel
theorem dX10_collect_392 : decode cX10_collect 392 = .ok (.iload_n 2, 1) := by decide +kernel
theorem dX10_collect_393 : decode cX10_collect 393 = .ok (.iaload, 1) := by decide +kernel
theorem dX10_collect_394 : decode cX10_collect 394 = .ok (.iconst 1, 1) := by decide +kernel
theorem dX10_collect_395 : decode cX10_collect 395 = .ok (.if_icmp .ne 7, 3) := by decide +kernel
theorem dX10_collect_398 : decode cX10_collect 398 = .ok (.iconst 1, 1) := by decide +kernel
theorem dX10_collect_399 : decode cX10_collect 399 = .ok (.goto 4, 3) := by decide +kernel
theorem dX10_collect_402 : decode cX10_collect 402 = .ok (.iconst 0, 1) := by decide +kernel
theorem dX10_collect_403 : decode cX10_collect 403 = .ok (.iadd, 1) := by decide +kernel
theorem dX10_collect_404 : decode cX10_collect 404 = .ok (.iastore, 1) := by decide +kernel
theorem dX10_collect_405 : decode cX10_collect 405 = .ok (.iinc 2 1, 3) := by decide +kernel
theorem dX10_collect_408 : decode cX10_collect 408 = .ok (.goto (-35), 3) := by decide +kernel
theorem dX10_collect_411 : decode cX10_collect 411 = .ok (.aload_n 0, 1) := by decide +kernel
theorem dX10_collect_412 : decode cX10_collect 412 = .ok (.dup, 1) := by decide +kernel
theorem dX10_collect_413 : decode cX10_collect 413 = .ok (.getfield 264, 3) := by decide +kernel
theorem dX10_collect_416 : decode cX10_collect 416 = .ok (.aload_n 0, 1) := by decide +kernel
theorem dX10_collect_417 : decode cX10_collect 417 = .ok (.getfield 51, 3) := by decide +kernel
theorem dX10_collect_420 : decode cX10_collect 420 = .ok (.iload_n 1, 1) := by decide +kernel
theorem dX10_collect_421 : decode cX10_collect 421 = .ok (.laload, 1) := by decide +kernel
theorem dX10_collect_422 : decode cX10_collect 422 = .ok (.l2i, 1) := by decide +kernel
theorem dX10_collect_423 : decode cX10_collect 423 = .ok (.iadd, 1) := by decide +kernel
theorem dX10_collect_424 : decode cX10_collect 424 = .ok (.putfield 264, 3) := by decide +kernel
theorem dX10_collect_427 : decode cX10_collect 427 = .ok (.aload_n 0, 1) := by decide +kernel
theorem dX10_collect_428 : decode cX10_collect 428 = .ok (.getfield 54, 3) := by decide +kernel
theorem dX10_collect_431 : decode cX10_collect 431 = .ok (.iload_n 1, 1) := by decide +kernel
theorem dX10_collect_432 : decode cX10_collect 432 = .ok (.aload_n 0, 1) := by decide +kernel
theorem dX10_collect_433 : decode cX10_collect 433 = .ok (.getfield 41, 3) := by decide +kernel
theorem dX10_collect_436 : decode cX10_collect 436 = .ok (.iload_n 1, 1) := by decide +kernel
theorem dX10_collect_437 : decode cX10_collect 437 = .ok (.laload, 1) := by decide +kernel
theorem dX10_collect_438 : decode cX10_collect 438 = .ok (.aload_n 0, 1) := by decide +kernel
theorem dX10_collect_439 : decode cX10_collect 439 = .ok (.getfield 264, 3) := by decide +kernel
theorem dX10_collect_442 : decode cX10_collect 442 = .ok (.i2l, 1) := by decide +kernel
theorem dX10_collect_443 : decode cX10_collect 443 = .ok (.lcmp, 1) := by decide +kernel
theorem dX10_collect_444 : decode cX10_collect 444 = .ok (.ifCond .ge 12, 3) := by decide +kernel
theorem dX10_collect_447 : decode cX10_collect 447 = .ok (.aload_n 0, 1) := by decide +kernel
theorem dX10_collect_448 : decode cX10_collect 448 = .ok (.getfield 41, 3) := by decide +kernel
theorem dX10_collect_451 : decode cX10_collect 451 = .ok (.iload_n 1, 1) := by decide +kernel
theorem dX10_collect_452 : decode cX10_collect 452 = .ok (.laload, 1) := by decide +kernel
theorem dX10_collect_453 : decode cX10_collect 453 = .ok (.goto 8, 3) := by decide +kernel
theorem dX10_collect_456 : decode cX10_collect 456 = .ok (.aload_n 0, 1) := by decide +kernel
theorem dX10_collect_457 : decode cX10_collect 457 = .ok (.getfield 264, 3) := by decide +kernel
theorem dX10_collect_460 : decode cX10_collect 460 = .ok (.i2l, 1) := by decide +kernel
theorem dX10_collect_461 : decode cX10_collect 461 = .ok (.lastore, 1) := by decide +kernel
theorem dX10_collect_462 : decode cX10_collect 462 = .ok (.aload_n 0, 1) := by decide +kernel
theorem dX10_collect_463 : decode cX10_collect 463 = .ok (.dup, 1) := by decide +kernel
theorem dX10_collect_464 : decode cX10_collect 464 = .ok (.getfield 264, 3) := by decide +kernel
theorem dX10_collect_467 : decode cX10_collect 467 = .ok (.aload_n 0, 1) := by decide +kernel
theorem dX10_collect_468 : decode cX10_collect 468 = .ok (.getfield 54, 3) := by decide +kernel
theorem dX10_collect_471 : decode cX10_collect 471 = .ok (.iload_n 1, 1) := by decide +kernel
theorem dX10_collect_472 : decode cX10_collect 472 = .ok (.laload, 1) := by decide +kernel
theorem dX10_collect_473 : decode cX10_collect 473 = .ok (.l2i, 1) := by decide +kernel
theorem dX10_collect_474 : decode cX10_collect 474 = .ok (.isub, 1) := by decide +kernel
theorem dX10_collect_475 : decode cX10_collect 475 = .ok (.putfield 264, 3) := by decide +kernel
theorem dX10_collect_478 : decode cX10_collect 478 = .ok (.aload_n 0, 1) := by decide +kernel
theorem dX10_collect_479 : decode cX10_collect 479 = .ok (.getfield 60, 3) := by decide +kernel
theorem dX10_collect_482 : decode cX10_collect 482 = .ok (.iload_n 1, 1) := by decide +kernel
theorem dX10_collect_483 : decode cX10_collect 483 = .ok (.aload_n 0, 1) := by decide +kernel
theorem dX10_collect_484 : decode cX10_collect 484 = .ok (.invokevirtual 248, 3) := by decide +kernel
theorem dX10_collect_487 : decode cX10_collect 487 = .ok (.i2l, 1) := by decide +kernel
theorem dX10_collect_488 : decode cX10_collect 488 = .ok (.lastore, 1) := by decide +kernel
theorem dX10_collect_489 : decode cX10_collect 489 = .ok (.return_, 1) := by decide +kernel
theorem dX10_feed_0 : decode cX10_feed 0 = .ok (.iload_n 1, 1) := by decide +kernel
theorem dX10_feed_1 : decode cX10_feed 1 = .ok (.iconst 1, 1) := by decide +kernel
theorem dX10_feed_2 : decode cX10_feed 2 = .ok (.bipush 8, 2) := by decide +kernel
theorem dX10_feed_4 : decode cX10_feed 4 = .ok (.invokestatic 186, 3) := by decide +kernel
theorem dX10_feed_7 : decode cX10_feed 7 = .ok (.ifCond .ne 6, 3) := by decide +kernel
theorem dX10_feed_10 : decode cX10_feed 10 = .ok (.bipush (-2), 2) := by decide +kernel
theorem dX10_feed_12 : decode cX10_feed 12 = .ok (.ireturn, 1) := by decide +kernel
theorem dX10_feed_13 : decode cX10_feed 13 = .ok (.aload_n 0, 1) := by decide +kernel
theorem dX10_feed_14 : decode cX10_feed 14 = .ok (.getfield 267, 3) := by decide +kernel
theorem dX10_feed_17 : decode cX10_feed 17 = .ok (.iload_n 1, 1) := by decide +kernel
theorem dX10_feed_18 : decode cX10_feed 18 = .ok (.iadd, 1) := by decide +kernel
theorem dX10_feed_19 : decode cX10_feed 19 = .ok (.sipush 160, 3) := by decide +kernel
theorem dX10_feed_22 : decode cX10_feed 22 = .ok (.if_icmp .le 6, 3) := by decide +kernel
theorem dX10_feed_25 : decode cX10_feed 25 = .ok (.bipush (-4), 2) := by decide +kernel
theorem dX10_feed_27 : decode cX10_feed 27 = .ok (.ireturn, 1) := by decide +kernel
theorem dX10_feed_28 : decode cX10_feed 28 = .ok (.iconst 0, 1) := by decide +kernel
theorem dX10_feed_29 : decode cX10_feed 29 = .ok (.istore 4, 2) := by decide +kernel
theorem dX10_feed_31 : decode cX10_feed 31 = .ok (.iload 4, 2) := by decide +kernel
theorem dX10_feed_33 : decode cX10_feed 33 = .ok (.iload_n 1, 1) := by decide +kernel
theorem dX10_feed_34 : decode cX10_feed 34 = .ok (.if_icmp .ge 40, 3) := by decide +kernel
theorem dX10_feed_37 : decode cX10_feed 37 = .ok (.aload_n 0, 1) := by decide +kernel
theorem dX10_feed_38 : decode cX10_feed 38 = .ok (.getfield 75, 3) := by decide +kernel
theorem dX10_feed_41 : decode cX10_feed 41 = .ok (.aload_n 0, 1) := by decide +kernel
theorem dX10_feed_42 : decode cX10_feed 42 = .ok (.getfield 267, 3) := by decide +kernel
theorem dX10_feed_45 : decode cX10_feed 45 = .ok (.lload_n 2, 1) := by decide +kernel
theorem dX10_feed_46 : decode cX10_feed 46 = .ok (.bipush 8, 2) := by decide +kernel
theorem dX10_feed_48 : decode cX10_feed 48 = .ok (.iload 4, 2) := by decide +kernel
theorem dX10_feed_50 : decode cX10_feed 50 = .ok (.imul, 1) := by decide +kernel
theorem dX10_feed_51 : decode cX10_feed 51 = .ok (.lshr, 1) := by decide +kernel
theorem dX10_feed_52 : decode cX10_feed 52 = .ok (.ldc2_w 181, 3) := by decide +kernel
theorem dX10_feed_55 : decode cX10_feed 55 = .ok (.land, 1) := by decide +kernel
theorem dX10_feed_56 : decode cX10_feed 56 = .ok (.l2i, 1) := by decide +kernel
theorem dX10_feed_57 : decode cX10_feed 57 = .ok (.iastore, 1) := by decide +kernel
theorem dX10_feed_58 : decode cX10_feed 58 = .ok (.aload_n 0, 1) := by decide +kernel
theorem dX10_feed_59 : decode cX10_feed 59 = .ok (.dup, 1) := by decide +kernel
theorem dX10_feed_60 : decode cX10_feed 60 = .ok (.getfield 267, 3) := by decide +kernel
theorem dX10_feed_63 : decode cX10_feed 63 = .ok (.iconst 1, 1) := by decide +kernel
theorem dX10_feed_64 : decode cX10_feed 64 = .ok (.iadd, 1) := by decide +kernel
theorem dX10_feed_65 : decode cX10_feed 65 = .ok (.putfield 267, 3) := by decide +kernel
theorem dX10_feed_68 : decode cX10_feed 68 = .ok (.iinc 4 1, 3) := by decide +kernel
theorem dX10_feed_71 : decode cX10_feed 71 = .ok (.goto (-40), 3) := by decide +kernel
theorem dX10_feed_74 : decode cX10_feed 74 = .ok (.aload_n 0, 1) := by decide +kernel
theorem dX10_feed_75 : decode cX10_feed 75 = .ok (.getfield 267, 3) := by decide +kernel
theorem dX10_feed_78 : decode cX10_feed 78 = .ok (.ireturn, 1) := by decide +kernel
theorem dX10_byteAt_0 : decode cX10_byteAt 0 = .ok (.iload_n 1, 1) := by decide +kernel
theorem dX10_byteAt_1 : decode cX10_byteAt 1 = .ok (.aload_n 0, 1) := by decide +kernel
theorem dX10_byteAt_2 : decode cX10_byteAt 2 = .ok (.getfield 270, 3) := by decide +kernel
theorem dX10_byteAt_5 : decode cX10_byteAt 5 = .ok (.if_icmp .ge 17, 3) := by decide +kernel
theorem dX10_byteAt_8 : decode cX10_byteAt 8 = .ok (.aload_n 0, 1) := by decide +kernel
theorem dX10_byteAt_9 : decode cX10_byteAt 9 = .ok (.getfield 69, 3) := by decide +kernel
theorem dX10_byteAt_12 : decode cX10_byteAt 12 = .ok (.aload_n 0, 1) := by decide +kernel
theorem dX10_byteAt_13 : decode cX10_byteAt 13 = .ok (.getfield 273, 3) := by decide +kernel
theorem dX10_byteAt_16 : decode cX10_byteAt 16 = .ok (.iload_n 1, 1) := by decide +kernel
theorem dX10_byteAt_17 : decode cX10_byteAt 17 = .ok (.iadd, 1) := by decide +kernel
theorem dX10_byteAt_18 : decode cX10_byteAt 18 = .ok (.iaload, 1) := by decide +kernel
theorem dX10_byteAt_19 : decode cX10_byteAt 19 = .ok (.goto 4, 3) := by decide +kernel
theorem dX10_byteAt_22 : decode cX10_byteAt 22 = .ok (.iconst (-1), 1) := by decide +kernel
theorem dX10_byteAt_23 : decode cX10_byteAt 23 = .ok (.ireturn, 1) := by decide +kernel
theorem dX10_next_0 : decode cX10_next 0 = .ok (.aload_n 0, 1) := by decide +kernel
theorem dX10_next_1 : decode cX10_next 1 = .ok (.aload_n 0, 1) := by decide +kernel
theorem dX10_next_2 : decode cX10_next 2 = .ok (.getfield 276, 3) := by decide +kernel
theorem dX10_next_5 : decode cX10_next 5 = .ok (.invokevirtual 279, 3) := by decide +kernel
theorem dX10_next_8 : decode cX10_next 8 = .ok (.bipush 32, 2) := by decide +kernel
theorem dX10_next_10 : decode cX10_next 10 = .ok (.if_icmp .eq 16, 3) := by decide +kernel
theorem dX10_next_13 : decode cX10_next 13 = .ok (.aload_n 0, 1) := by decide +kernel
theorem dX10_next_14 : decode cX10_next 14 = .ok (.aload_n 0, 1) := by decide +kernel
theorem dX10_next_15 : decode cX10_next 15 = .ok (.getfield 276, 3) := by decide +kernel
theorem dX10_next_18 : decode cX10_next 18 = .ok (.invokevirtual 279, 3) := by decide +kernel
theorem dX10_next_21 : decode cX10_next 21 = .ok (.bipush 10, 2) := by decide +kernel
theorem dX10_next_23 : decode cX10_next 23 = .ok (.if_icmp .ne 16, 3) := by decide +kernel
theorem dX10_next_26 : decode cX10_next 26 = .ok (.aload_n 0, 1) := by decide +kernel
theorem dX10_next_27 : decode cX10_next 27 = .ok (.dup, 1) := by decide +kernel
theorem dX10_next_28 : decode cX10_next 28 = .ok (.getfield 276, 3) := by decide +kernel
theorem dX10_next_31 : decode cX10_next 31 = .ok (.iconst 1, 1) := by decide +kernel
theorem dX10_next_32 : decode cX10_next 32 = .ok (.iadd, 1) := by decide +kernel
theorem dX10_next_33 : decode cX10_next 33 = .ok (.putfield 276, 3) := by decide +kernel
theorem dX10_next_36 : decode cX10_next 36 = .ok (.goto (-36), 3) := by decide +kernel
theorem dX10_next_39 : decode cX10_next 39 = .ok (.aload_n 0, 1) := by decide +kernel
theorem dX10_next_40 : decode cX10_next 40 = .ok (.aload_n 0, 1) := by decide +kernel
theorem dX10_next_41 : decode cX10_next 41 = .ok (.getfield 276, 3) := by decide +kernel
theorem dX10_next_44 : decode cX10_next 44 = .ok (.putfield 282, 3) := by decide +kernel
theorem dX10_next_47 : decode cX10_next 47 = .ok (.aload_n 0, 1) := by decide +kernel
theorem dX10_next_48 : decode cX10_next 48 = .ok (.aload_n 0, 1) := by decide +kernel
theorem dX10_next_49 : decode cX10_next 49 = .ok (.getfield 276, 3) := by decide +kernel
theorem dX10_next_52 : decode cX10_next 52 = .ok (.invokevirtual 279, 3) := by decide +kernel
theorem dX10_next_55 : decode cX10_next 55 = .ok (.istore_n 1, 1) := by decide +kernel
theorem dX10_next_56 : decode cX10_next 56 = .ok (.aload_n 0, 1) := by decide +kernel
theorem dX10_next_57 : decode cX10_next 57 = .ok (.iconst 4, 1) := by decide +kernel
theorem dX10_next_58 : decode cX10_next 58 = .ok (.putfield 285, 3) := by decide +kernel
theorem dX10_next_61 : decode cX10_next 61 = .ok (.iload_n 1, 1) := by decide +kernel
theorem dX10_next_62 : decode cX10_next 62 = .ok (.ifCond .ge 19, 3) := by decide +kernel
theorem dX10_next_65 : decode cX10_next 65 = .ok (.aload_n 0, 1) := by decide +kernel
theorem dX10_next_66 : decode cX10_next 66 = .ok (.iconst 0, 1) := by decide +kernel
theorem dX10_next_67 : decode cX10_next 67 = .ok (.putfield 285, 3) := by decide +kernel
theorem dX10_next_70 : decode cX10_next 70 = .ok (.aload_n 0, 1) := by decide +kernel
theorem dX10_next_71 : decode cX10_next 71 = .ok (.aload_n 0, 1) := by decide +kernel
theorem dX10_next_72 : decode cX10_next 72 = .ok (.getfield 270, 3) := by decide +kernel
theorem dX10_next_75 : decode cX10_next 75 = .ok (.putfield 282, 3) := by decide +kernel
theorem dX10_next_78 : decode cX10_next 78 = .ok (.goto 282, 3) := by decide +kernel
theorem dX10_next_81 : decode cX10_next 81 = .ok (.iload_n 1, 1) := by decide +kernel
theorem dX10_next_82 : decode cX10_next 82 = .ok (.bipush 97, 2) := by decide +kernel
theorem dX10_next_84 : decode cX10_next 84 = .ok (.bipush 122, 2) := by decide +kernel
theorem dX10_next_86 : decode cX10_next 86 = .ok (.invokestatic 186, 3) := by decide +kernel
theorem dX10_next_89 : decode cX10_next 89 = .ok (.ifCond .eq 90, 3) := by decide +kernel
theorem dX10_next_92 : decode cX10_next 92 = .ok (.aload_n 0, 1) := by decide +kernel
theorem dX10_next_93 : decode cX10_next 93 = .ok (.iconst 1, 1) := by decide +kernel
theorem dX10_next_94 : decode cX10_next 94 = .ok (.putfield 285, 3) := by decide +kernel
theorem dX10_next_97 : decode cX10_next 97 = .ok (.aload_n 0, 1) := by decide +kernel
theorem dX10_next_98 : decode cX10_next 98 = .ok (.lconst 0, 1) := by decide +kernel
theorem dX10_next_99 : decode cX10_next 99 = .ok (.putfield 288, 3) := by decide +kernel
theorem dX10_next_102 : decode cX10_next 102 = .ok (.iconst 0, 1) := by decide +kernel
theorem dX10_next_103 : decode cX10_next 103 = .ok (.istore_n 2, 1) := by decide +kernel
theorem dX10_next_104 : decode cX10_next 104 = .ok (.aload_n 0, 1) := by decide +kernel
theorem dX10_next_105 : decode cX10_next 105 = .ok (.aload_n 0, 1) := by decide +kernel
theorem dX10_next_106 : decode cX10_next 106 = .ok (.getfield 276, 3) := by decide +kernel
theorem dX10_next_109 : decode cX10_next 109 = .ok (.invokevirtual 279, 3) := by decide +kernel
theorem dX10_next_112 : decode cX10_next 112 = .ok (.bipush 97, 2) := by decide +kernel
theorem dX10_next_114 : decode cX10_next 114 = .ok (.bipush 122, 2) := by decide +kernel
theorem dX10_next_116 : decode cX10_next 116 = .ok (.invokestatic 186, 3) := by decide +kernel
theorem dX10_next_119 : decode cX10_next 119 = .ok (.ifCond .eq 57, 3) := by decide +kernel
theorem dX10_next_122 : decode cX10_next 122 = .ok (.aload_n 0, 1) := by decide +kernel
theorem dX10_next_123 : decode cX10_next 123 = .ok (.iload_n 2, 1) := by decide +kernel
theorem dX10_next_124 : decode cX10_next 124 = .ok (.bipush 7, 2) := by decide +kernel
theorem dX10_next_126 : decode cX10_next 126 = .ok (.if_icmp .ge 28, 3) := by decide +kernel
theorem dX10_next_129 : decode cX10_next 129 = .ok (.ldc2_w 292, 3) := by decide +kernel
theorem dX10_next_132 : decode cX10_next 132 = .ok (.aload_n 0, 1) := by decide +kernel
theorem dX10_next_133 : decode cX10_next 133 = .ok (.getfield 288, 3) := by decide +kernel
theorem dX10_next_136 : decode cX10_next 136 = .ok (.lmul, 1) := by decide +kernel
theorem dX10_next_137 : decode cX10_next 137 = .ok (.aload_n 0, 1) := by decide +kernel
theorem dX10_next_138 : decode cX10_next 138 = .ok (.aload_n 0, 1) := by decide +kernel
theorem dX10_next_139 : decode cX10_next 139 = .ok (.getfield 276, 3) := by decide +kernel
theorem dX10_next_142 : decode cX10_next 142 = .ok (.invokevirtual 279, 3) := by decide +kernel
theorem dX10_next_145 : decode cX10_next 145 = .ok (.i2l, 1) := by decide +kernel
theorem dX10_next_146 : decode cX10_next 146 = .ok (.ladd, 1) := by decide +kernel
theorem dX10_next_147 : decode cX10_next 147 = .ok (.ldc2_w 294, 3) := by decide +kernel
theorem dX10_next_150 : decode cX10_next 150 = .ok (.lsub, 1) := by decide +kernel
theorem dX10_next_151 : decode cX10_next 151 = .ok (.goto 6, 3) := by decide +kernel
theorem dX10_next_154 : decode cX10_next 154 = .ok (.ldc2_w 296, 3) := by decide +kernel
theorem dX10_next_157 : decode cX10_next 157 = .ok (.putfield 288, 3) := by decide +kernel
theorem dX10_next_160 : decode cX10_next 160 = .ok (.iinc 2 1, 3) := by decide +kernel
theorem dX10_next_163 : decode cX10_next 163 = .ok (.aload_n 0, 1) := by decide +kernel
theorem dX10_next_164 : decode cX10_next 164 = .ok (.dup, 1) := by decide +kernel
theorem dX10_next_165 : decode cX10_next 165 = .ok (.getfield 276, 3) := by decide +kernel
theorem dX10_next_168 : decode cX10_next 168 = .ok (.iconst 1, 1) := by decide +kernel
theorem dX10_next_169 : decode cX10_next 169 = .ok (.iadd, 1) := by decide +kernel
theorem dX10_next_170 : decode cX10_next 170 = .ok (.putfield 276, 3) := by decide +kernel
theorem dX10_next_173 : decode cX10_next 173 = .ok (.goto (-69), 3) := by decide +kernel
theorem dX10_next_176 : decode cX10_next 176 = .ok (.goto 184, 3) := by decide +kernel
theorem dX10_next_179 : decode cX10_next 179 = .ok (.iload_n 1, 1) := by decide +kernel
theorem dX10_next_180 : decode cX10_next 180 = .ok (.bipush 48, 2) := by decide +kernel
theorem dX10_next_182 : decode cX10_next 182 = .ok (.bipush 57, 2) := by decide +kernel
theorem dX10_next_184 : decode cX10_next 184 = .ok (.invokestatic 186, 3) := by decide +kernel
theorem dX10_next_187 : decode cX10_next 187 = .ok (.ifCond .eq 104, 3) := by decide +kernel
theorem dX10_next_190 : decode cX10_next 190 = .ok (.aload_n 0, 1) := by decide +kernel
theorem dX10_next_191 : decode cX10_next 191 = .ok (.iconst 2, 1) := by decide +kernel
theorem dX10_next_192 : decode cX10_next 192 = .ok (.putfield 285, 3) := by decide +kernel
theorem dX10_next_195 : decode cX10_next 195 = .ok (.aload_n 0, 1) := by decide +kernel
theorem dX10_next_196 : decode cX10_next 196 = .ok (.lconst 0, 1) := by decide +kernel
theorem dX10_next_197 : decode cX10_next 197 = .ok (.putfield 288, 3) := by decide +kernel
theorem dX10_next_200 : decode cX10_next 200 = .ok (.iconst 0, 1) := by decide +kernel
theorem dX10_next_201 : decode cX10_next 201 = .ok (.istore_n 2, 1) := by decide +kernel
theorem dX10_next_202 : decode cX10_next 202 = .ok (.aload_n 0, 1) := by decide +kernel
theorem dX10_next_203 : decode cX10_next 203 = .ok (.aload_n 0, 1) := by decide +kernel
theorem dX10_next_204 : decode cX10_next 204 = .ok (.getfield 276, 3) := by decide +kernel
theorem dX10_next_207 : decode cX10_next 207 = .ok (.invokevirtual 279, 3) := by decide +kernel
theorem dX10_next_210 : decode cX10_next 210 = .ok (.bipush 48, 2) := by decide +kernel
theorem dX10_next_212 : decode cX10_next 212 = .ok (.bipush 57, 2) := by decide +kernel
theorem dX10_next_214 : decode cX10_next 214 = .ok (.invokestatic 186, 3) := by decide +kernel
theorem dX10_next_217 : decode cX10_next 217 = .ok (.ifCond .eq 57, 3) := by decide +kernel
theorem dX10_next_220 : decode cX10_next 220 = .ok (.aload_n 0, 1) := by decide +kernel
theorem dX10_next_221 : decode cX10_next 221 = .ok (.iload_n 2, 1) := by decide +kernel
theorem dX10_next_222 : decode cX10_next 222 = .ok (.iconst 4, 1) := by decide +kernel
theorem dX10_next_223 : decode cX10_next 223 = .ok (.if_icmp .ge 28, 3) := by decide +kernel
theorem dX10_next_226 : decode cX10_next 226 = .ok (.ldc2_w 298, 3) := by decide +kernel
theorem dX10_next_229 : decode cX10_next 229 = .ok (.aload_n 0, 1) := by decide +kernel
theorem dX10_next_230 : decode cX10_next 230 = .ok (.getfield 288, 3) := by decide +kernel
theorem dX10_next_233 : decode cX10_next 233 = .ok (.lmul, 1) := by decide +kernel
theorem dX10_next_234 : decode cX10_next 234 = .ok (.aload_n 0, 1) := by decide +kernel
theorem dX10_next_235 : decode cX10_next 235 = .ok (.aload_n 0, 1) := by decide +kernel
theorem dX10_next_236 : decode cX10_next 236 = .ok (.getfield 276, 3) := by decide +kernel
theorem dX10_next_239 : decode cX10_next 239 = .ok (.invokevirtual 279, 3) := by decide +kernel
theorem dX10_next_242 : decode cX10_next 242 = .ok (.i2l, 1) := by decide +kernel
theorem dX10_next_243 : decode cX10_next 243 = .ok (.ladd, 1) := by decide +kernel
theorem dX10_next_244 : decode cX10_next 244 = .ok (.ldc2_w 300, 3) := by decide +kernel
theorem dX10_next_247 : decode cX10_next 247 = .ok (.lsub, 1) := by decide +kernel
theorem dX10_next_248 : decode cX10_next 248 = .ok (.goto 7, 3) := by decide +kernel
theorem dX10_next_251 : decode cX10_next 251 = .ok (.aload_n 0, 1) := by decide +kernel
theorem dX10_next_252 : decode cX10_next 252 = .ok (.getfield 288, 3) := by decide +kernel
theorem dX10_next_255 : decode cX10_next 255 = .ok (.putfield 288, 3) := by decide +kernel
theorem dX10_next_258 : decode cX10_next 258 = .ok (.iinc 2 1, 3) := by decide +kernel
theorem dX10_next_261 : decode cX10_next 261 = .ok (.aload_n 0, 1) := by decide +kernel
theorem dX10_next_262 : decode cX10_next 262 = .ok (.dup, 1) := by decide +kernel
theorem dX10_next_263 : decode cX10_next 263 = .ok (.getfield 276, 3) := by decide +kernel
theorem dX10_next_266 : decode cX10_next 266 = .ok (.iconst 1, 1) := by decide +kernel
theorem dX10_next_267 : decode cX10_next 267 = .ok (.iadd, 1) := by decide +kernel
theorem dX10_next_268 : decode cX10_next 268 = .ok (.putfield 276, 3) := by decide +kernel
theorem dX10_next_271 : decode cX10_next 271 = .ok (.goto (-69), 3) := by decide +kernel
theorem dX10_next_274 : decode cX10_next 274 = .ok (.aload_n 0, 1) := by decide +kernel
theorem dX10_next_275 : decode cX10_next 275 = .ok (.iload_n 2, 1) := by decide +kernel
theorem dX10_next_276 : decode cX10_next 276 = .ok (.iconst 4, 1) := by decide +kernel
theorem dX10_next_277 : decode cX10_next 277 = .ok (.if_icmp .le 7, 3) := by decide +kernel
theorem dX10_next_280 : decode cX10_next 280 = .ok (.iconst 4, 1) := by decide +kernel
theorem dX10_next_281 : decode cX10_next 281 = .ok (.goto 4, 3) := by decide +kernel
theorem dX10_next_284 : decode cX10_next 284 = .ok (.iconst 2, 1) := by decide +kernel
theorem dX10_next_285 : decode cX10_next 285 = .ok (.putfield 285, 3) := by decide +kernel
theorem dX10_next_288 : decode cX10_next 288 = .ok (.goto 72, 3) := by decide +kernel
theorem dX10_next_291 : decode cX10_next 291 = .ok (.iload_n 1, 1) := by decide +kernel
theorem dX10_next_292 : decode cX10_next 292 = .ok (.bipush 40, 2) := by decide +kernel
theorem dX10_next_294 : decode cX10_next 294 = .ok (.if_icmp .eq 45, 3) := by decide +kernel
theorem dX10_next_297 : decode cX10_next 297 = .ok (.iload_n 1, 1) := by decide +kernel
theorem dX10_next_298 : decode cX10_next 298 = .ok (.bipush 41, 2) := by decide +kernel
theorem dX10_next_300 : decode cX10_next 300 = .ok (.if_icmp .eq 39, 3) := by decide +kernel
theorem dX10_next_303 : decode cX10_next 303 = .ok (.iload_n 1, 1) := by decide +kernel
theorem dX10_next_304 : decode cX10_next 304 = .ok (.bipush 59, 2) := by decide +kernel
theorem dX10_next_306 : decode cX10_next 306 = .ok (.if_icmp .eq 33, 3) := by decide +kernel
theorem dX10_next_309 : decode cX10_next 309 = .ok (.iload_n 1, 1) := by decide +kernel
theorem dX10_next_310 : decode cX10_next 310 = .ok (.bipush 43, 2) := by decide +kernel
theorem dX10_next_312 : decode cX10_next 312 = .ok (.if_icmp .eq 27, 3) := by decide +kernel
theorem dX10_next_315 : decode cX10_next 315 = .ok (.iload_n 1, 1) := by decide +kernel
theorem dX10_next_316 : decode cX10_next 316 = .ok (.bipush 45, 2) := by decide +kernel
theorem dX10_next_318 : decode cX10_next 318 = .ok (.if_icmp .eq 21, 3) := by decide +kernel
theorem dX10_next_321 : decode cX10_next 321 = .ok (.iload_n 1, 1) := by decide +kernel
theorem dX10_next_322 : decode cX10_next 322 = .ok (.bipush 42, 2) := by decide +kernel
theorem dX10_next_324 : decode cX10_next 324 = .ok (.if_icmp .eq 15, 3) := by decide +kernel
theorem dX10_next_327 : decode cX10_next 327 = .ok (.iload_n 1, 1) := by decide +kernel
theorem dX10_next_328 : decode cX10_next 328 = .ok (.bipush 60, 2) := by decide +kernel
theorem dX10_next_330 : decode cX10_next 330 = .ok (.if_icmp .eq 9, 3) := by decide +kernel
theorem dX10_next_333 : decode cX10_next 333 = .ok (.iload_n 1, 1) := by decide +kernel
theorem dX10_next_334 : decode cX10_next 334 = .ok (.bipush 61, 2) := by decide +kernel
theorem dX10_next_336 : decode cX10_next 336 = .ok (.if_icmp .ne 24, 3) := by decide +kernel
theorem dX10_next_339 : decode cX10_next 339 = .ok (.aload_n 0, 1) := by decide +kernel
theorem dX10_next_340 : decode cX10_next 340 = .ok (.iconst 3, 1) := by decide +kernel
theorem dX10_next_341 : decode cX10_next 341 = .ok (.putfield 285, 3) := by decide +kernel
theorem dX10_next_344 : decode cX10_next 344 = .ok (.aload_n 0, 1) := by decide +kernel
theorem dX10_next_345 : decode cX10_next 345 = .ok (.iload_n 1, 1) := by decide +kernel
theorem dX10_next_346 : decode cX10_next 346 = .ok (.i2l, 1) := by decide +kernel
theorem dX10_next_347 : decode cX10_next 347 = .ok (.putfield 288, 3) := by decide +kernel
theorem dX10_next_350 : decode cX10_next 350 = .ok (.aload_n 0, 1) := by decide +kernel
theorem dX10_next_351 : decode cX10_next 351 = .ok (.dup, 1) := by decide +kernel
theorem dX10_next_352 : decode cX10_next 352 = .ok (.getfield 276, 3) := by decide +kernel
theorem dX10_next_355 : decode cX10_next 355 = .ok (.iconst 1, 1) := by decide +kernel
theorem dX10_next_356 : decode cX10_next 356 = .ok (.iadd, 1) := by decide +kernel
theorem dX10_next_357 : decode cX10_next 357 = .ok (.putfield 276, 3) := by decide +kernel
theorem dX10_next_360 : decode cX10_next 360 = .ok (.return_, 1) := by decide +kernel
theorem dX10_fail_0 : decode cX10_fail 0 = .ok (.aload_n 0, 1) := by decide +kernel
theorem dX10_fail_1 : decode cX10_fail 1 = .ok (.getfield 302, 3) := by decide +kernel
theorem dX10_fail_4 : decode cX10_fail 4 = .ok (.ifCond .ne 16, 3) := by decide +kernel
theorem dX10_fail_7 : decode cX10_fail 7 = .ok (.aload_n 0, 1) := by decide +kernel
theorem dX10_fail_8 : decode cX10_fail 8 = .ok (.iconst 1, 1) := by decide +kernel
theorem dX10_fail_9 : decode cX10_fail 9 = .ok (.putfield 302, 3) := by decide +kernel
theorem dX10_fail_12 : decode cX10_fail 12 = .ok (.aload_n 0, 1) := by decide +kernel
theorem dX10_fail_13 : decode cX10_fail 13 = .ok (.aload_n 0, 1) := by decide +kernel
theorem dX10_fail_14 : decode cX10_fail 14 = .ok (.getfield 282, 3) := by decide +kernel
theorem dX10_fail_17 : decode cX10_fail 17 = .ok (.putfield 306, 3) := by decide +kernel
theorem dX10_fail_20 : decode cX10_fail 20 = .ok (.return_, 1) := by decide +kernel
theorem dX10_isWord_0 : decode cX10_isWord 0 = .ok (.aload_n 0, 1) := by decide +kernel
theorem dX10_isWord_1 : decode cX10_isWord 1 = .ok (.getfield 302, 3) := by decide +kernel
theorem dX10_isWord_4 : decode cX10_isWord 4 = .ok (.ifCond .ne 24, 3) := by decide +kernel
theorem dX10_isWord_7 : decode cX10_isWord 7 = .ok (.aload_n 0, 1) := by decide +kernel
theorem dX10_isWord_8 : decode cX10_isWord 8 = .ok (.getfield 285, 3) := by decide +kernel
theorem dX10_isWord_11 : decode cX10_isWord 11 = .ok (.iconst 1, 1) := by decide +kernel
theorem dX10_isWord_12 : decode cX10_isWord 12 = .ok (.if_icmp .ne 16, 3) := by decide +kernel
theorem dX10_isWord_15 : decode cX10_isWord 15 = .ok (.aload_n 0, 1) := by decide +kernel
theorem dX10_isWord_16 : decode cX10_isWord 16 = .ok (.getfield 288, 3) := by decide +kernel
theorem dX10_isWord_19 : decode cX10_isWord 19 = .ok (.lload_n 1, 1) := by decide +kernel
theorem dX10_isWord_20 : decode cX10_isWord 20 = .ok (.lcmp, 1) := by decide +kernel
theorem dX10_isWord_21 : decode cX10_isWord 21 = .ok (.ifCond .ne 7, 3) := by decide +kernel
theorem dX10_isWord_24 : decode cX10_isWord 24 = .ok (.iconst 1, 1) := by decide +kernel
theorem dX10_isWord_25 : decode cX10_isWord 25 = .ok (.goto 4, 3) := by decide +kernel
theorem dX10_isWord_28 : decode cX10_isWord 28 = .ok (.iconst 0, 1) := by decide +kernel
theorem dX10_isWord_29 : decode cX10_isWord 29 = .ok (.ireturn, 1) := by decide +kernel
theorem dX10_isSign_0 : decode cX10_isSign 0 = .ok (.aload_n 0, 1) := by decide +kernel
theorem dX10_isSign_1 : decode cX10_isSign 1 = .ok (.getfield 302, 3) := by decide +kernel
theorem dX10_isSign_4 : decode cX10_isSign 4 = .ok (.ifCond .ne 25, 3) := by decide +kernel
theorem dX10_isSign_7 : decode cX10_isSign 7 = .ok (.aload_n 0, 1) := by decide +kernel
theorem dX10_isSign_8 : decode cX10_isSign 8 = .ok (.getfield 285, 3) := by decide +kernel
theorem dX10_isSign_11 : decode cX10_isSign 11 = .ok (.iconst 3, 1) := by decide +kernel
theorem dX10_isSign_12 : decode cX10_isSign 12 = .ok (.if_icmp .ne 17, 3) := by decide +kernel
theorem dX10_isSign_15 : decode cX10_isSign 15 = .ok (.aload_n 0, 1) := by decide +kernel
theorem dX10_isSign_16 : decode cX10_isSign 16 = .ok (.getfield 288, 3) := by decide +kernel
theorem dX10_isSign_19 : decode cX10_isSign 19 = .ok (.iload_n 1, 1) := by decide +kernel
theorem dX10_isSign_20 : decode cX10_isSign 20 = .ok (.i2l, 1) := by decide +kernel
theorem dX10_isSign_21 : decode cX10_isSign 21 = .ok (.lcmp, 1) := by decide +kernel
theorem dX10_isSign_22 : decode cX10_isSign 22 = .ok (.ifCond .ne 7, 3) := by decide +kernel
theorem dX10_isSign_25 : decode cX10_isSign 25 = .ok (.iconst 1, 1) := by decide +kernel
theorem dX10_isSign_26 : decode cX10_isSign 26 = .ok (.goto 4, 3) := by decide +kernel
theorem dX10_isSign_29 : decode cX10_isSign 29 = .ok (.iconst 0, 1) := by decide +kernel
theorem dX10_isSign_30 : decode cX10_isSign 30 = .ok (.ireturn, 1) := by decide +kernel
theorem dX10_opens_0 : decode cX10_opens 0 = .ok (.aload_n 0, 1) := by decide +kernel
theorem dX10_opens_1 : decode cX10_opens 1 = .ok (.getfield 309, 3) := by decide +kernel
theorem dX10_opens_4 : decode cX10_opens 4 = .ok (.iconst 5, 1) := by decide +kernel
theorem dX10_opens_5 : decode cX10_opens 5 = .ok (.if_icmp .ne 9, 3) := by decide +kernel
theorem dX10_opens_8 : decode cX10_opens 8 = .ok (.aload_n 0, 1) := by decide +kernel
theorem dX10_opens_9 : decode cX10_opens 9 = .ok (.invokevirtual 312, 3) := by decide +kernel
theorem dX10_opens_12 : decode cX10_opens 12 = .ok (.iconst 0, 1) := by decide +kernel
theorem dX10_opens_13 : decode cX10_opens 13 = .ok (.ireturn, 1) := by decide +kernel
theorem dX10_opens_14 : decode cX10_opens 14 = .ok (.aload_n 0, 1) := by decide +kernel
theorem dX10_opens_15 : decode cX10_opens 15 = .ok (.dup, 1) := by decide +kernel
theorem dX10_opens_16 : decode cX10_opens 16 = .ok (.getfield 309, 3) := by decide +kernel
theorem dX10_opens_19 : decode cX10_opens 19 = .ok (.iconst 1, 1) := by decide +kernel
theorem dX10_opens_20 : decode cX10_opens 20 = .ok (.iadd, 1) := by decide +kernel
theorem dX10_opens_21 : decode cX10_opens 21 = .ok (.putfield 309, 3) := by decide +kernel
theorem dX10_opens_24 : decode cX10_opens 24 = .ok (.aload_n 0, 1) := by decide +kernel
theorem dX10_opens_25 : decode cX10_opens 25 = .ok (.invokevirtual 315, 3) := by decide +kernel
theorem dX10_opens_28 : decode cX10_opens 28 = .ok (.iconst 1, 1) := by decide +kernel
theorem dX10_opens_29 : decode cX10_opens 29 = .ok (.ireturn, 1) := by decide +kernel
theorem dX10_name_0 : decode cX10_name 0 = .ok (.aload_n 0, 1) := by decide +kernel
theorem dX10_name_1 : decode cX10_name 1 = .ok (.ldc2_w 318, 3) := by decide +kernel
theorem dX10_name_4 : decode cX10_name 4 = .ok (.invokevirtual 320, 3) := by decide +kernel
theorem dX10_name_7 : decode cX10_name 7 = .ok (.ifCond .eq 8, 3) := by decide +kernel
theorem dX10_name_10 : decode cX10_name 10 = .ok (.aload_n 0, 1) := by decide +kernel
theorem dX10_name_11 : decode cX10_name 11 = .ok (.getfield 324, 3) := by decide +kernel
theorem dX10_name_14 : decode cX10_name 14 = .ok (.ireturn, 1) := by decide +kernel
theorem dX10_name_15 : decode cX10_name 15 = .ok (.aload_n 0, 1) := by decide +kernel
theorem dX10_name_16 : decode cX10_name 16 = .ok (.ldc2_w 327, 3) := by decide +kernel
theorem dX10_name_19 : decode cX10_name 19 = .ok (.invokevirtual 320, 3) := by decide +kernel
theorem dX10_name_22 : decode cX10_name 22 = .ok (.ifCond .eq 8, 3) := by decide +kernel
theorem dX10_name_25 : decode cX10_name 25 = .ok (.aload_n 0, 1) := by decide +kernel
theorem dX10_name_26 : decode cX10_name 26 = .ok (.getfield 329, 3) := by decide +kernel
theorem dX10_name_29 : decode cX10_name 29 = .ok (.ireturn, 1) := by decide +kernel
theorem dX10_name_30 : decode cX10_name 30 = .ok (.aload_n 0, 1) := by decide +kernel
theorem dX10_name_31 : decode cX10_name 31 = .ok (.ldc2_w 332, 3) := by decide +kernel
theorem dX10_name_34 : decode cX10_name 34 = .ok (.invokevirtual 320, 3) := by decide +kernel
theorem dX10_name_37 : decode cX10_name 37 = .ok (.ifCond .eq 8, 3) := by decide +kernel
theorem dX10_name_40 : decode cX10_name 40 = .ok (.aload_n 0, 1) := by decide +kernel
theorem dX10_name_41 : decode cX10_name 41 = .ok (.getfield 334, 3) := by decide +kernel
theorem dX10_name_44 : decode cX10_name 44 = .ok (.ireturn, 1) := by decide +kernel
theorem dX10_name_45 : decode cX10_name 45 = .ok (.aload_n 0, 1) := by decide +kernel
theorem dX10_name_46 : decode cX10_name 46 = .ok (.ldc2_w 337, 3) := by decide +kernel
theorem dX10_name_49 : decode cX10_name 49 = .ok (.invokevirtual 320, 3) := by decide +kernel
theorem dX10_name_52 : decode cX10_name 52 = .ok (.ifCond .eq 8, 3) := by decide +kernel
theorem dX10_name_55 : decode cX10_name 55 = .ok (.aload_n 0, 1) := by decide +kernel
theorem dX10_name_56 : decode cX10_name 56 = .ok (.getfield 339, 3) := by decide +kernel
theorem dX10_name_59 : decode cX10_name 59 = .ok (.ireturn, 1) := by decide +kernel
theorem dX10_name_60 : decode cX10_name 60 = .ok (.aload_n 0, 1) := by decide +kernel
theorem dX10_name_61 : decode cX10_name 61 = .ok (.ldc2_w 342, 3) := by decide +kernel
theorem dX10_name_64 : decode cX10_name 64 = .ok (.invokevirtual 320, 3) := by decide +kernel
theorem dX10_name_67 : decode cX10_name 67 = .ok (.ifCond .eq 8, 3) := by decide +kernel
theorem dX10_name_70 : decode cX10_name 70 = .ok (.aload_n 0, 1) := by decide +kernel
theorem dX10_name_71 : decode cX10_name 71 = .ok (.getfield 344, 3) := by decide +kernel
theorem dX10_name_74 : decode cX10_name 74 = .ok (.ireturn, 1) := by decide +kernel
theorem dX10_name_75 : decode cX10_name 75 = .ok (.aload_n 0, 1) := by decide +kernel
theorem dX10_name_76 : decode cX10_name 76 = .ok (.ldc2_w 347, 3) := by decide +kernel
theorem dX10_name_79 : decode cX10_name 79 = .ok (.invokevirtual 320, 3) := by decide +kernel
theorem dX10_name_82 : decode cX10_name 82 = .ok (.ifCond .eq 8, 3) := by decide +kernel
theorem dX10_name_85 : decode cX10_name 85 = .ok (.aload_n 0, 1) := by decide +kernel
theorem dX10_name_86 : decode cX10_name 86 = .ok (.getfield 349, 3) := by decide +kernel
theorem dX10_name_89 : decode cX10_name 89 = .ok (.ireturn, 1) := by decide +kernel
theorem dX10_name_90 : decode cX10_name 90 = .ok (.aload_n 0, 1) := by decide +kernel
theorem dX10_name_91 : decode cX10_name 91 = .ok (.invokevirtual 312, 3) := by decide +kernel
theorem dX10_name_94 : decode cX10_name 94 = .ok (.iconst 0, 1) := by decide +kernel
theorem dX10_name_95 : decode cX10_name 95 = .ok (.ireturn, 1) := by decide +kernel
theorem dX10_one_0 : decode cX10_one 0 = .ok (.iconst 0, 1) := by decide +kernel
theorem dX10_one_1 : decode cX10_one 1 = .ok (.istore_n 1, 1) := by decide +kernel
theorem dX10_one_2 : decode cX10_one 2 = .ok (.aload_n 0, 1) := by decide +kernel
theorem dX10_one_3 : decode cX10_one 3 = .ok (.bipush 45, 2) := by decide +kernel
theorem dX10_one_5 : decode cX10_one 5 = .ok (.invokevirtual 352, 3) := by decide +kernel
theorem dX10_one_8 : decode cX10_one 8 = .ok (.ifCond .eq 29, 3) := by decide +kernel
theorem dX10_one_11 : decode cX10_one 11 = .ok (.aload_n 0, 1) := by decide +kernel
theorem dX10_one_12 : decode cX10_one 12 = .ok (.invokevirtual 355, 3) := by decide +kernel
theorem dX10_one_15 : decode cX10_one 15 = .ok (.ifCond .eq 146, 3) := by decide +kernel
theorem dX10_one_18 : decode cX10_one 18 = .ok (.aload_n 0, 1) := by decide +kernel
theorem dX10_one_19 : decode cX10_one 19 = .ok (.invokevirtual 359, 3) := by decide +kernel
theorem dX10_one_22 : decode cX10_one 22 = .ok (.ineg, 1) := by decide +kernel
theorem dX10_one_23 : decode cX10_one 23 = .ok (.istore_n 1, 1) := by decide +kernel
theorem dX10_one_24 : decode cX10_one 24 = .ok (.aload_n 0, 1) := by decide +kernel
theorem dX10_one_25 : decode cX10_one 25 = .ok (.dup, 1) := by decide +kernel
theorem dX10_one_26 : decode cX10_one 26 = .ok (.getfield 309, 3) := by decide +kernel
theorem dX10_one_29 : decode cX10_one 29 = .ok (.iconst 1, 1) := by decide +kernel
theorem dX10_one_30 : decode cX10_one 30 = .ok (.isub, 1) := by decide +kernel
theorem dX10_one_31 : decode cX10_one 31 = .ok (.putfield 309, 3) := by decide +kernel
theorem dX10_one_34 : decode cX10_one 34 = .ok (.goto 127, 3) := by decide +kernel
theorem dX10_one_37 : decode cX10_one 37 = .ok (.aload_n 0, 1) := by decide +kernel
theorem dX10_one_38 : decode cX10_one 38 = .ok (.bipush 40, 2) := by decide +kernel
theorem dX10_one_40 : decode cX10_one 40 = .ok (.invokevirtual 352, 3) := by decide +kernel
theorem dX10_one_43 : decode cX10_one 43 = .ok (.ifCond .eq 52, 3) := by decide +kernel
theorem dX10_one_46 : decode cX10_one 46 = .ok (.aload_n 0, 1) := by decide +kernel
theorem dX10_one_47 : decode cX10_one 47 = .ok (.invokevirtual 355, 3) := by decide +kernel
theorem dX10_one_50 : decode cX10_one 50 = .ok (.ifCond .eq 111, 3) := by decide +kernel
theorem dX10_one_53 : decode cX10_one 53 = .ok (.aload_n 0, 1) := by decide +kernel
theorem dX10_one_54 : decode cX10_one 54 = .ok (.invokevirtual 362, 3) := by decide +kernel
theorem dX10_one_57 : decode cX10_one 57 = .ok (.istore_n 1, 1) := by decide +kernel
theorem dX10_one_58 : decode cX10_one 58 = .ok (.aload_n 0, 1) := by decide +kernel
theorem dX10_one_59 : decode cX10_one 59 = .ok (.bipush 41, 2) := by decide +kernel
theorem dX10_one_61 : decode cX10_one 61 = .ok (.invokevirtual 352, 3) := by decide +kernel
theorem dX10_one_64 : decode cX10_one 64 = .ok (.ifCond .ne 7, 3) := by decide +kernel
theorem dX10_one_67 : decode cX10_one 67 = .ok (.aload_n 0, 1) := by decide +kernel
theorem dX10_one_68 : decode cX10_one 68 = .ok (.invokevirtual 312, 3) := by decide +kernel
theorem dX10_one_71 : decode cX10_one 71 = .ok (.aload_n 0, 1) := by decide +kernel
theorem dX10_one_72 : decode cX10_one 72 = .ok (.dup, 1) := by decide +kernel
theorem dX10_one_73 : decode cX10_one 73 = .ok (.getfield 309, 3) := by decide +kernel
theorem dX10_one_76 : decode cX10_one 76 = .ok (.iconst 1, 1) := by decide +kernel
theorem dX10_one_77 : decode cX10_one 77 = .ok (.isub, 1) := by decide +kernel
theorem dX10_one_78 : decode cX10_one 78 = .ok (.putfield 309, 3) := by decide +kernel
theorem dX10_one_81 : decode cX10_one 81 = .ok (.aload_n 0, 1) := by decide +kernel
theorem dX10_one_82 : decode cX10_one 82 = .ok (.getfield 302, 3) := by decide +kernel
theorem dX10_one_85 : decode cX10_one 85 = .ok (.ifCond .ne 76, 3) := by decide +kernel
theorem dX10_one_88 : decode cX10_one 88 = .ok (.aload_n 0, 1) := by decide +kernel
theorem dX10_one_89 : decode cX10_one 89 = .ok (.invokevirtual 315, 3) := by decide +kernel
theorem dX10_one_92 : decode cX10_one 92 = .ok (.goto 69, 3) := by decide +kernel
theorem dX10_one_95 : decode cX10_one 95 = .ok (.aload_n 0, 1) := by decide +kernel
theorem dX10_one_96 : decode cX10_one 96 = .ok (.getfield 302, 3) := by decide +kernel
theorem dX10_one_99 : decode cX10_one 99 = .ok (.ifCond .ne 24, 3) := by decide +kernel
theorem dX10_one_102 : decode cX10_one 102 = .ok (.aload_n 0, 1) := by decide +kernel
theorem dX10_one_103 : decode cX10_one 103 = .ok (.getfield 285, 3) := by decide +kernel
theorem dX10_one_106 : decode cX10_one 106 = .ok (.iconst 2, 1) := by decide +kernel
theorem dX10_one_107 : decode cX10_one 107 = .ok (.if_icmp .ne 16, 3) := by decide +kernel
theorem dX10_one_110 : decode cX10_one 110 = .ok (.aload_n 0, 1) := by decide +kernel
theorem dX10_one_111 : decode cX10_one 111 = .ok (.getfield 288, 3) := by decide +kernel
theorem dX10_one_114 : decode cX10_one 114 = .ok (.l2i, 1) := by decide +kernel
theorem dX10_one_115 : decode cX10_one 115 = .ok (.istore_n 1, 1) := by decide +kernel
theorem dX10_one_116 : decode cX10_one 116 = .ok (.aload_n 0, 1) := by decide +kernel
theorem dX10_one_117 : decode cX10_one 117 = .ok (.invokevirtual 315, 3) := by decide +kernel
theorem dX10_one_120 : decode cX10_one 120 = .ok (.goto 41, 3) := by decide +kernel
theorem dX10_one_123 : decode cX10_one 123 = .ok (.aload_n 0, 1) := by decide +kernel
theorem dX10_one_124 : decode cX10_one 124 = .ok (.getfield 302, 3) := by decide +kernel
theorem dX10_one_127 : decode cX10_one 127 = .ok (.ifCond .ne 30, 3) := by decide +kernel
theorem dX10_one_130 : decode cX10_one 130 = .ok (.aload_n 0, 1) := by decide +kernel
theorem dX10_one_131 : decode cX10_one 131 = .ok (.getfield 285, 3) := by decide +kernel
theorem dX10_one_134 : decode cX10_one 134 = .ok (.iconst 1, 1) := by decide +kernel
theorem dX10_one_135 : decode cX10_one 135 = .ok (.if_icmp .ne 22, 3) := by decide +kernel
theorem dX10_one_138 : decode cX10_one 138 = .ok (.aload_n 0, 1) := by decide +kernel
theorem dX10_one_139 : decode cX10_one 139 = .ok (.invokevirtual 365, 3) := by decide +kernel
theorem dX10_one_142 : decode cX10_one 142 = .ok (.istore_n 1, 1) := by decide +kernel
theorem dX10_one_143 : decode cX10_one 143 = .ok (.aload_n 0, 1) := by decide +kernel
theorem dX10_one_144 : decode cX10_one 144 = .ok (.getfield 302, 3) := by decide +kernel
theorem dX10_one_147 : decode cX10_one 147 = .ok (.ifCond .ne 14, 3) := by decide +kernel
theorem dX10_one_150 : decode cX10_one 150 = .ok (.aload_n 0, 1) := by decide +kernel
theorem dX10_one_151 : decode cX10_one 151 = .ok (.invokevirtual 315, 3) := by decide +kernel
theorem dX10_one_154 : decode cX10_one 154 = .ok (.goto 7, 3) := by decide +kernel
theorem dX10_one_157 : decode cX10_one 157 = .ok (.aload_n 0, 1) := by decide +kernel
theorem dX10_one_158 : decode cX10_one 158 = .ok (.invokevirtual 312, 3) := by decide +kernel
theorem dX10_one_161 : decode cX10_one 161 = .ok (.iload_n 1, 1) := by decide +kernel
theorem dX10_one_162 : decode cX10_one 162 = .ok (.ireturn, 1) := by decide +kernel
theorem dX10_term_0 : decode cX10_term 0 = .ok (.aload_n 0, 1) := by decide +kernel
theorem dX10_term_1 : decode cX10_term 1 = .ok (.invokevirtual 359, 3) := by decide +kernel
theorem dX10_term_4 : decode cX10_term 4 = .ok (.istore_n 1, 1) := by decide +kernel
theorem dX10_term_5 : decode cX10_term 5 = .ok (.aload_n 0, 1) := by decide +kernel
theorem dX10_term_6 : decode cX10_term 6 = .ok (.bipush 42, 2) := by decide +kernel
theorem dX10_term_8 : decode cX10_term 8 = .ok (.invokevirtual 352, 3) := by decide +kernel
theorem dX10_term_11 : decode cX10_term 11 = .ok (.ifCond .eq 17, 3) := by decide +kernel
theorem dX10_term_14 : decode cX10_term 14 = .ok (.aload_n 0, 1) := by decide +kernel
theorem dX10_term_15 : decode cX10_term 15 = .ok (.invokevirtual 315, 3) := by decide +kernel
theorem dX10_term_18 : decode cX10_term 18 = .ok (.iload_n 1, 1) := by decide +kernel
theorem dX10_term_19 : decode cX10_term 19 = .ok (.aload_n 0, 1) := by decide +kernel
theorem dX10_term_20 : decode cX10_term 20 = .ok (.invokevirtual 359, 3) := by decide +kernel
theorem dX10_term_23 : decode cX10_term 23 = .ok (.imul, 1) := by decide +kernel
theorem dX10_term_24 : decode cX10_term 24 = .ok (.istore_n 1, 1) := by decide +kernel
theorem dX10_term_25 : decode cX10_term 25 = .ok (.goto (-20), 3) := by decide +kernel
theorem dX10_term_28 : decode cX10_term 28 = .ok (.iload_n 1, 1) := by decide +kernel
theorem dX10_term_29 : decode cX10_term 29 = .ok (.ireturn, 1) := by decide +kernel
theorem dX10_added_0 : decode cX10_added 0 = .ok (.aload_n 0, 1) := by decide +kernel
theorem dX10_added_1 : decode cX10_added 1 = .ok (.invokevirtual 368, 3) := by decide +kernel
theorem dX10_added_4 : decode cX10_added 4 = .ok (.istore_n 1, 1) := by decide +kernel
theorem dX10_added_5 : decode cX10_added 5 = .ok (.aload_n 0, 1) := by decide +kernel
theorem dX10_added_6 : decode cX10_added 6 = .ok (.bipush 43, 2) := by decide +kernel
theorem dX10_added_8 : decode cX10_added 8 = .ok (.invokevirtual 352, 3) := by decide +kernel
theorem dX10_added_11 : decode cX10_added 11 = .ok (.ifCond .ne 12, 3) := by decide +kernel
theorem dX10_added_14 : decode cX10_added 14 = .ok (.aload_n 0, 1) := by decide +kernel
theorem dX10_added_15 : decode cX10_added 15 = .ok (.bipush 45, 2) := by decide +kernel
theorem dX10_added_17 : decode cX10_added 17 = .ok (.invokevirtual 352, 3) := by decide +kernel
theorem dX10_added_20 : decode cX10_added 20 = .ok (.ifCond .eq 46, 3) := by decide +kernel
theorem dX10_added_23 : decode cX10_added 23 = .ok (.aload_n 0, 1) := by decide +kernel
theorem dX10_added_24 : decode cX10_added 24 = .ok (.getfield 288, 3) := by decide +kernel
theorem dX10_added_27 : decode cX10_added 27 = .ok (.ldc2_w 371, 3) := by decide +kernel
theorem dX10_added_30 : decode cX10_added 30 = .ok (.lcmp, 1) := by decide +kernel
theorem dX10_added_31 : decode cX10_added 31 = .ok (.ifCond .ne 7, 3) := by decide +kernel
theorem dX10_added_34 : decode cX10_added 34 = .ok (.iconst 1, 1) := by decide +kernel
theorem dX10_added_35 : decode cX10_added 35 = .ok (.goto 4, 3) := by decide +kernel
theorem dX10_added_38 : decode cX10_added 38 = .ok (.iconst 0, 1) := by decide +kernel
theorem dX10_added_39 : decode cX10_added 39 = .ok (.istore_n 2, 1) := by decide +kernel
theorem dX10_added_40 : decode cX10_added 40 = .ok (.aload_n 0, 1) := by decide +kernel
theorem dX10_added_41 : decode cX10_added 41 = .ok (.invokevirtual 315, 3) := by decide +kernel
theorem dX10_added_44 : decode cX10_added 44 = .ok (.aload_n 0, 1) := by decide +kernel
theorem dX10_added_45 : decode cX10_added 45 = .ok (.invokevirtual 368, 3) := by decide +kernel
theorem dX10_added_48 : decode cX10_added 48 = .ok (.istore_n 3, 1) := by decide +kernel
theorem dX10_added_49 : decode cX10_added 49 = .ok (.iload_n 2, 1) := by decide +kernel
theorem dX10_added_50 : decode cX10_added 50 = .ok (.ifCond .eq 9, 3) := by decide +kernel
theorem dX10_added_53 : decode cX10_added 53 = .ok (.iload_n 1, 1) := by decide +kernel
theorem dX10_added_54 : decode cX10_added 54 = .ok (.iload_n 3, 1) := by decide +kernel
theorem dX10_added_55 : decode cX10_added 55 = .ok (.iadd, 1) := by decide +kernel
theorem dX10_added_56 : decode cX10_added 56 = .ok (.goto 6, 3) := by decide +kernel
theorem dX10_added_59 : decode cX10_added 59 = .ok (.iload_n 1, 1) := by decide +kernel
theorem dX10_added_60 : decode cX10_added 60 = .ok (.iload_n 3, 1) := by decide +kernel
theorem dX10_added_61 : decode cX10_added 61 = .ok (.isub, 1) := by decide +kernel
theorem dX10_added_62 : decode cX10_added 62 = .ok (.istore_n 1, 1) := by decide +kernel
theorem dX10_added_63 : decode cX10_added 63 = .ok (.goto (-58), 3) := by decide +kernel
theorem dX10_added_66 : decode cX10_added 66 = .ok (.iload_n 1, 1) := by decide +kernel
theorem dX10_added_67 : decode cX10_added 67 = .ok (.ireturn, 1) := by decide +kernel
theorem dX10_not_0 : decode cX10_not 0 = .ok (.aload_n 0, 1) := by decide +kernel
theorem dX10_not_1 : decode cX10_not 1 = .ok (.ldc2_w 373, 3) := by decide +kernel
theorem dX10_not_4 : decode cX10_not 4 = .ok (.invokevirtual 320, 3) := by decide +kernel
theorem dX10_not_7 : decode cX10_not 7 = .ok (.ifCond .eq 37, 3) := by decide +kernel
theorem dX10_not_10 : decode cX10_not 10 = .ok (.aload_n 0, 1) := by decide +kernel
theorem dX10_not_11 : decode cX10_not 11 = .ok (.invokevirtual 355, 3) := by decide +kernel
theorem dX10_not_14 : decode cX10_not 14 = .ok (.ifCond .ne 5, 3) := by decide +kernel
theorem dX10_not_17 : decode cX10_not 17 = .ok (.iconst 0, 1) := by decide +kernel
theorem dX10_not_18 : decode cX10_not 18 = .ok (.ireturn, 1) := by decide +kernel
theorem dX10_not_19 : decode cX10_not 19 = .ok (.aload_n 0, 1) := by decide +kernel
theorem dX10_not_20 : decode cX10_not 20 = .ok (.invokevirtual 375, 3) := by decide +kernel
theorem dX10_not_23 : decode cX10_not 23 = .ok (.istore_n 1, 1) := by decide +kernel
theorem dX10_not_24 : decode cX10_not 24 = .ok (.aload_n 0, 1) := by decide +kernel
theorem dX10_not_25 : decode cX10_not 25 = .ok (.dup, 1) := by decide +kernel
theorem dX10_not_26 : decode cX10_not 26 = .ok (.getfield 309, 3) := by decide +kernel
theorem dX10_not_29 : decode cX10_not 29 = .ok (.iconst 1, 1) := by decide +kernel
theorem dX10_not_30 : decode cX10_not 30 = .ok (.isub, 1) := by decide +kernel
theorem dX10_not_31 : decode cX10_not 31 = .ok (.putfield 309, 3) := by decide +kernel
theorem dX10_not_34 : decode cX10_not 34 = .ok (.iload_n 1, 1) := by decide +kernel
theorem dX10_not_35 : decode cX10_not 35 = .ok (.ifCond .ne 7, 3) := by decide +kernel
theorem dX10_not_38 : decode cX10_not 38 = .ok (.iconst 1, 1) := by decide +kernel
theorem dX10_not_39 : decode cX10_not 39 = .ok (.goto 4, 3) := by decide +kernel
theorem dX10_not_42 : decode cX10_not 42 = .ok (.iconst 0, 1) := by decide +kernel
theorem dX10_not_43 : decode cX10_not 43 = .ok (.ireturn, 1) := by decide +kernel
theorem dX10_not_44 : decode cX10_not 44 = .ok (.aload_n 0, 1) := by decide +kernel
theorem dX10_not_45 : decode cX10_not 45 = .ok (.invokevirtual 378, 3) := by decide +kernel
theorem dX10_not_48 : decode cX10_not 48 = .ok (.istore_n 1, 1) := by decide +kernel
theorem dX10_not_49 : decode cX10_not 49 = .ok (.aload_n 0, 1) := by decide +kernel
theorem dX10_not_50 : decode cX10_not 50 = .ok (.bipush 60, 2) := by decide +kernel
theorem dX10_not_52 : decode cX10_not 52 = .ok (.invokevirtual 352, 3) := by decide +kernel
theorem dX10_not_55 : decode cX10_not 55 = .ok (.ifCond .ne 14, 3) := by decide +kernel
theorem dX10_not_58 : decode cX10_not 58 = .ok (.aload_n 0, 1) := by decide +kernel
theorem dX10_not_59 : decode cX10_not 59 = .ok (.bipush 61, 2) := by decide +kernel
theorem dX10_not_61 : decode cX10_not 61 = .ok (.invokevirtual 352, 3) := by decide +kernel
theorem dX10_not_64 : decode cX10_not 64 = .ok (.ifCond .ne 5, 3) := by decide +kernel
theorem dX10_not_67 : decode cX10_not 67 = .ok (.iload_n 1, 1) := by decide +kernel
theorem dX10_not_68 : decode cX10_not 68 = .ok (.ireturn, 1) := by decide +kernel
theorem dX10_not_69 : decode cX10_not 69 = .ok (.aload_n 0, 1) := by decide +kernel
theorem dX10_not_70 : decode cX10_not 70 = .ok (.getfield 288, 3) := by decide +kernel
theorem dX10_not_73 : decode cX10_not 73 = .ok (.ldc2_w 381, 3) := by decide +kernel
theorem dX10_not_76 : decode cX10_not 76 = .ok (.lcmp, 1) := by decide +kernel
theorem dX10_not_77 : decode cX10_not 77 = .ok (.ifCond .ne 7, 3) := by decide +kernel
theorem dX10_not_80 : decode cX10_not 80 = .ok (.iconst 1, 1) := by decide +kernel
theorem dX10_not_81 : decode cX10_not 81 = .ok (.goto 4, 3) := by decide +kernel
theorem dX10_not_84 : decode cX10_not 84 = .ok (.iconst 0, 1) := by decide +kernel
theorem dX10_not_85 : decode cX10_not 85 = .ok (.istore_n 2, 1) := by decide +kernel
theorem dX10_not_86 : decode cX10_not 86 = .ok (.aload_n 0, 1) := by decide +kernel
theorem dX10_not_87 : decode cX10_not 87 = .ok (.invokevirtual 315, 3) := by decide +kernel
theorem dX10_not_90 : decode cX10_not 90 = .ok (.aload_n 0, 1) := by decide +kernel
theorem dX10_not_91 : decode cX10_not 91 = .ok (.invokevirtual 378, 3) := by decide +kernel
theorem dX10_not_94 : decode cX10_not 94 = .ok (.istore_n 3, 1) := by decide +kernel
theorem dX10_not_95 : decode cX10_not 95 = .ok (.iload_n 2, 1) := by decide +kernel
theorem dX10_not_96 : decode cX10_not 96 = .ok (.ifCond .eq 11, 3) := by decide +kernel
theorem dX10_not_99 : decode cX10_not 99 = .ok (.iload_n 1, 1) := by decide +kernel
theorem dX10_not_100 : decode cX10_not 100 = .ok (.iload_n 3, 1) := by decide +kernel
theorem dX10_not_101 : decode cX10_not 101 = .ok (.if_icmp .ge 15, 3) := by decide +kernel
theorem dX10_not_104 : decode cX10_not 104 = .ok (.goto 8, 3) := by decide +kernel
theorem dX10_not_107 : decode cX10_not 107 = .ok (.iload_n 1, 1) := by decide +kernel
theorem dX10_not_108 : decode cX10_not 108 = .ok (.iload_n 3, 1) := by decide +kernel
theorem dX10_not_109 : decode cX10_not 109 = .ok (.if_icmp .ne 7, 3) := by decide +kernel
theorem dX10_not_112 : decode cX10_not 112 = .ok (.iconst 1, 1) := by decide +kernel
theorem dX10_not_113 : decode cX10_not 113 = .ok (.goto 4, 3) := by decide +kernel
theorem dX10_not_116 : decode cX10_not 116 = .ok (.iconst 0, 1) := by decide +kernel
theorem dX10_not_117 : decode cX10_not 117 = .ok (.ireturn, 1) := by decide +kernel
theorem dX10_both_0 : decode cX10_both 0 = .ok (.aload_n 0, 1) := by decide +kernel
theorem dX10_both_1 : decode cX10_both 1 = .ok (.invokevirtual 375, 3) := by decide +kernel
theorem dX10_both_4 : decode cX10_both 4 = .ok (.istore_n 1, 1) := by decide +kernel
theorem dX10_both_5 : decode cX10_both 5 = .ok (.aload_n 0, 1) := by decide +kernel
theorem dX10_both_6 : decode cX10_both 6 = .ok (.ldc2_w 383, 3) := by decide +kernel
theorem dX10_both_9 : decode cX10_both 9 = .ok (.invokevirtual 320, 3) := by decide +kernel
theorem dX10_both_12 : decode cX10_both 12 = .ok (.ifCond .eq 29, 3) := by decide +kernel
theorem dX10_both_15 : decode cX10_both 15 = .ok (.aload_n 0, 1) := by decide +kernel
theorem dX10_both_16 : decode cX10_both 16 = .ok (.invokevirtual 315, 3) := by decide +kernel
theorem dX10_both_19 : decode cX10_both 19 = .ok (.aload_n 0, 1) := by decide +kernel
theorem dX10_both_20 : decode cX10_both 20 = .ok (.invokevirtual 375, 3) := by decide +kernel
theorem dX10_both_23 : decode cX10_both 23 = .ok (.istore_n 2, 1) := by decide +kernel
theorem dX10_both_24 : decode cX10_both 24 = .ok (.iload_n 1, 1) := by decide +kernel
theorem dX10_both_25 : decode cX10_both 25 = .ok (.ifCond .eq 11, 3) := by decide +kernel
theorem dX10_both_28 : decode cX10_both 28 = .ok (.iload_n 2, 1) := by decide +kernel
theorem dX10_both_29 : decode cX10_both 29 = .ok (.ifCond .eq 7, 3) := by decide +kernel
theorem dX10_both_32 : decode cX10_both 32 = .ok (.iconst 1, 1) := by decide +kernel
theorem dX10_both_33 : decode cX10_both 33 = .ok (.goto 4, 3) := by decide +kernel
theorem dX10_both_36 : decode cX10_both 36 = .ok (.iconst 0, 1) := by decide +kernel
theorem dX10_both_37 : decode cX10_both 37 = .ok (.istore_n 1, 1) := by decide +kernel
theorem dX10_both_38 : decode cX10_both 38 = .ok (.goto (-33), 3) := by decide +kernel
theorem dX10_both_41 : decode cX10_both 41 = .ok (.iload_n 1, 1) := by decide +kernel
theorem dX10_both_42 : decode cX10_both 42 = .ok (.ireturn, 1) := by decide +kernel
theorem dX10_either_0 : decode cX10_either 0 = .ok (.aload_n 0, 1) := by decide +kernel
theorem dX10_either_1 : decode cX10_either 1 = .ok (.invokevirtual 385, 3) := by decide +kernel
theorem dX10_either_4 : decode cX10_either 4 = .ok (.istore_n 1, 1) := by decide +kernel
theorem dX10_either_5 : decode cX10_either 5 = .ok (.aload_n 0, 1) := by decide +kernel
theorem dX10_either_6 : decode cX10_either 6 = .ok (.ldc2_w 388, 3) := by decide +kernel
theorem dX10_either_9 : decode cX10_either 9 = .ok (.invokevirtual 320, 3) := by decide +kernel
theorem dX10_either_12 : decode cX10_either 12 = .ok (.ifCond .eq 29, 3) := by decide +kernel
theorem dX10_either_15 : decode cX10_either 15 = .ok (.aload_n 0, 1) := by decide +kernel
theorem dX10_either_16 : decode cX10_either 16 = .ok (.invokevirtual 315, 3) := by decide +kernel
theorem dX10_either_19 : decode cX10_either 19 = .ok (.aload_n 0, 1) := by decide +kernel
theorem dX10_either_20 : decode cX10_either 20 = .ok (.invokevirtual 385, 3) := by decide +kernel
theorem dX10_either_23 : decode cX10_either 23 = .ok (.istore_n 2, 1) := by decide +kernel
theorem dX10_either_24 : decode cX10_either 24 = .ok (.iload_n 1, 1) := by decide +kernel
theorem dX10_either_25 : decode cX10_either 25 = .ok (.ifCond .ne 7, 3) := by decide +kernel
theorem dX10_either_28 : decode cX10_either 28 = .ok (.iload_n 2, 1) := by decide +kernel
theorem dX10_either_29 : decode cX10_either 29 = .ok (.ifCond .eq 7, 3) := by decide +kernel
theorem dX10_either_32 : decode cX10_either 32 = .ok (.iconst 1, 1) := by decide +kernel
theorem dX10_either_33 : decode cX10_either 33 = .ok (.goto 4, 3) := by decide +kernel
theorem dX10_either_36 : decode cX10_either 36 = .ok (.iconst 0, 1) := by decide +kernel
theorem dX10_either_37 : decode cX10_either 37 = .ok (.istore_n 1, 1) := by decide +kernel
theorem dX10_either_38 : decode cX10_either 38 = .ok (.goto (-33), 3) := by decide +kernel
theorem dX10_either_41 : decode cX10_either 41 = .ok (.iload_n 1, 1) := by decide +kernel
theorem dX10_either_42 : decode cX10_either 42 = .ok (.ireturn, 1) := by decide +kernel
theorem dX10_part_0 : decode cX10_part 0 = .ok (.aload_n 0, 1) := by decide +kernel
theorem dX10_part_1 : decode cX10_part 1 = .ok (.lload_n 1, 1) := by decide +kernel
theorem dX10_part_2 : decode cX10_part 2 = .ok (.invokevirtual 320, 3) := by decide +kernel
theorem dX10_part_5 : decode cX10_part 5 = .ok (.ifCond .ne 7, 3) := by decide +kernel
theorem dX10_part_8 : decode cX10_part 8 = .ok (.aload_n 0, 1) := by decide +kernel
theorem dX10_part_9 : decode cX10_part 9 = .ok (.invokevirtual 312, 3) := by decide +kernel
theorem dX10_part_12 : decode cX10_part 12 = .ok (.aload_n 0, 1) := by decide +kernel
theorem dX10_part_13 : decode cX10_part 13 = .ok (.getfield 302, 3) := by decide +kernel
theorem dX10_part_16 : decode cX10_part 16 = .ok (.ifCond .ne 7, 3) := by decide +kernel
theorem dX10_part_19 : decode cX10_part 19 = .ok (.aload_n 0, 1) := by decide +kernel
theorem dX10_part_20 : decode cX10_part 20 = .ok (.invokevirtual 315, 3) := by decide +kernel
theorem dX10_part_23 : decode cX10_part 23 = .ok (.aload_n 0, 1) := by decide +kernel
theorem dX10_part_24 : decode cX10_part 24 = .ok (.getfield 302, 3) := by decide +kernel
theorem dX10_part_27 : decode cX10_part 27 = .ok (.ifCond .eq 7, 3) := by decide +kernel
theorem dX10_part_30 : decode cX10_part 30 = .ok (.iconst 0, 1) := by decide +kernel
theorem dX10_part_31 : decode cX10_part 31 = .ok (.goto 7, 3) := by decide +kernel
theorem dX10_part_34 : decode cX10_part 34 = .ok (.aload_n 0, 1) := by decide +kernel
theorem dX10_part_35 : decode cX10_part 35 = .ok (.invokevirtual 362, 3) := by decide +kernel
theorem dX10_part_38 : decode cX10_part 38 = .ok (.istore_n 3, 1) := by decide +kernel
theorem dX10_part_39 : decode cX10_part 39 = .ok (.aload_n 0, 1) := by decide +kernel
theorem dX10_part_40 : decode cX10_part 40 = .ok (.bipush 59, 2) := by decide +kernel
theorem dX10_part_42 : decode cX10_part 42 = .ok (.invokevirtual 352, 3) := by decide +kernel
theorem dX10_part_45 : decode cX10_part 45 = .ok (.ifCond .ne 7, 3) := by decide +kernel
theorem dX10_part_48 : decode cX10_part 48 = .ok (.aload_n 0, 1) := by decide +kernel
theorem dX10_part_49 : decode cX10_part 49 = .ok (.invokevirtual 312, 3) := by decide +kernel
theorem dX10_part_52 : decode cX10_part 52 = .ok (.aload_n 0, 1) := by decide +kernel
theorem dX10_part_53 : decode cX10_part 53 = .ok (.getfield 302, 3) := by decide +kernel
theorem dX10_part_56 : decode cX10_part 56 = .ok (.ifCond .ne 7, 3) := by decide +kernel
theorem dX10_part_59 : decode cX10_part 59 = .ok (.aload_n 0, 1) := by decide +kernel
theorem dX10_part_60 : decode cX10_part 60 = .ok (.invokevirtual 315, 3) := by decide +kernel
theorem dX10_part_63 : decode cX10_part 63 = .ok (.iload_n 3, 1) := by decide +kernel
theorem dX10_part_64 : decode cX10_part 64 = .ok (.ireturn, 1) := by decide +kernel
theorem dX10_read_0 : decode cX10_read 0 = .ok (.aload_n 0, 1) := by decide +kernel
theorem dX10_read_1 : decode cX10_read 1 = .ok (.sipush 160, 3) := by decide +kernel
theorem dX10_read_4 : decode cX10_read 4 = .ok (.iload_n 1, 1) := by decide +kernel
theorem dX10_read_5 : decode cX10_read 5 = .ok (.imul, 1) := by decide +kernel
theorem dX10_read_6 : decode cX10_read 6 = .ok (.putfield 273, 3) := by decide +kernel
theorem dX10_read_9 : decode cX10_read 9 = .ok (.aload_n 0, 1) := by decide +kernel
theorem dX10_read_10 : decode cX10_read 10 = .ok (.aload_n 0, 1) := by decide +kernel
theorem dX10_read_11 : decode cX10_read 11 = .ok (.getfield 72, 3) := by decide +kernel
theorem dX10_read_14 : decode cX10_read 14 = .ok (.iload_n 1, 1) := by decide +kernel
theorem dX10_read_15 : decode cX10_read 15 = .ok (.iaload, 1) := by decide +kernel
theorem dX10_read_16 : decode cX10_read 16 = .ok (.putfield 270, 3) := by decide +kernel
theorem dX10_read_19 : decode cX10_read 19 = .ok (.aload_n 0, 1) := by decide +kernel
theorem dX10_read_20 : decode cX10_read 20 = .ok (.iconst 0, 1) := by decide +kernel
theorem dX10_read_21 : decode cX10_read 21 = .ok (.putfield 276, 3) := by decide +kernel
theorem dX10_read_24 : decode cX10_read 24 = .ok (.aload_n 0, 1) := by decide +kernel
theorem dX10_read_25 : decode cX10_read 25 = .ok (.iconst 0, 1) := by decide +kernel
theorem dX10_read_26 : decode cX10_read 26 = .ok (.putfield 309, 3) := by decide +kernel
theorem dX10_read_29 : decode cX10_read 29 = .ok (.aload_n 0, 1) := by decide +kernel
theorem dX10_read_30 : decode cX10_read 30 = .ok (.iconst 0, 1) := by decide +kernel
theorem dX10_read_31 : decode cX10_read 31 = .ok (.putfield 302, 3) := by decide +kernel
theorem dX10_read_34 : decode cX10_read 34 = .ok (.aload_n 0, 1) := by decide +kernel
theorem dX10_read_35 : decode cX10_read 35 = .ok (.invokevirtual 315, 3) := by decide +kernel
theorem dX10_read_38 : decode cX10_read 38 = .ok (.aload_n 0, 1) := by decide +kernel
theorem dX10_read_39 : decode cX10_read 39 = .ok (.ldc2_w 390, 3) := by decide +kernel
theorem dX10_read_42 : decode cX10_read 42 = .ok (.invokevirtual 392, 3) := by decide +kernel
theorem dX10_read_45 : decode cX10_read 45 = .ok (.istore_n 3, 1) := by decide +kernel
theorem dX10_read_46 : decode cX10_read 46 = .ok (.aload_n 0, 1) := by decide +kernel
theorem dX10_read_47 : decode cX10_read 47 = .ok (.getfield 302, 3) := by decide +kernel
theorem dX10_read_50 : decode cX10_read 50 = .ok (.ifCond .eq 7, 3) := by decide +kernel
theorem dX10_read_53 : decode cX10_read 53 = .ok (.iconst 0, 1) := by decide +kernel
theorem dX10_read_54 : decode cX10_read 54 = .ok (.goto 10, 3) := by decide +kernel
theorem dX10_read_57 : decode cX10_read 57 = .ok (.aload_n 0, 1) := by decide +kernel
theorem dX10_read_58 : decode cX10_read 58 = .ok (.ldc2_w 396, 3) := by decide +kernel
theorem dX10_read_61 : decode cX10_read 61 = .ok (.invokevirtual 392, 3) := by decide +kernel
theorem dX10_read_64 : decode cX10_read 64 = .ok (.istore 4, 2) := by decide +kernel
theorem dX10_read_66 : decode cX10_read 66 = .ok (.aload_n 0, 1) := by decide +kernel
theorem dX10_read_67 : decode cX10_read 67 = .ok (.getfield 302, 3) := by decide +kernel
theorem dX10_read_70 : decode cX10_read 70 = .ok (.ifCond .eq 7, 3) := by decide +kernel
theorem dX10_read_73 : decode cX10_read 73 = .ok (.iconst 0, 1) := by decide +kernel
theorem dX10_read_74 : decode cX10_read 74 = .ok (.goto 10, 3) := by decide +kernel
theorem dX10_read_77 : decode cX10_read 77 = .ok (.aload_n 0, 1) := by decide +kernel
theorem dX10_read_78 : decode cX10_read 78 = .ok (.ldc2_w 398, 3) := by decide +kernel
theorem dX10_read_81 : decode cX10_read 81 = .ok (.invokevirtual 392, 3) := by decide +kernel
theorem dX10_read_84 : decode cX10_read 84 = .ok (.istore 5, 2) := by decide +kernel
theorem dX10_read_86 : decode cX10_read 86 = .ok (.aload_n 0, 1) := by decide +kernel
theorem dX10_read_87 : decode cX10_read 87 = .ok (.getfield 302, 3) := by decide +kernel
theorem dX10_read_90 : decode cX10_read 90 = .ok (.ifCond .ne 14, 3) := by decide +kernel
theorem dX10_read_93 : decode cX10_read 93 = .ok (.aload_n 0, 1) := by decide +kernel
theorem dX10_read_94 : decode cX10_read 94 = .ok (.getfield 285, 3) := by decide +kernel
theorem dX10_read_97 : decode cX10_read 97 = .ok (.ifCond .eq 7, 3) := by decide +kernel
theorem dX10_read_100 : decode cX10_read 100 = .ok (.aload_n 0, 1) := by decide +kernel
theorem dX10_read_101 : decode cX10_read 101 = .ok (.invokevirtual 312, 3) := by decide +kernel
theorem dX10_read_104 : decode cX10_read 104 = .ok (.iload_n 2, 1) := by decide +kernel
theorem dX10_read_105 : decode cX10_read 105 = .ok (.ifCond .ne 7, 3) := by decide +kernel
theorem dX10_read_108 : decode cX10_read 108 = .ok (.iload_n 3, 1) := by decide +kernel
theorem dX10_read_109 : decode cX10_read 109 = .ok (.goto 15, 3) := by decide +kernel
theorem dX10_read_112 : decode cX10_read 112 = .ok (.iload_n 2, 1) := by decide +kernel
theorem dX10_read_113 : decode cX10_read 113 = .ok (.iconst 1, 1) := by decide +kernel
theorem dX10_read_114 : decode cX10_read 114 = .ok (.if_icmp .ne 8, 3) := by decide +kernel
theorem dX10_read_117 : decode cX10_read 117 = .ok (.iload 4, 2) := by decide +kernel
theorem dX10_read_119 : decode cX10_read 119 = .ok (.goto 5, 3) := by decide +kernel
theorem dX10_read_122 : decode cX10_read 122 = .ok (.iload 5, 2) := by decide +kernel
theorem dX10_read_124 : decode cX10_read 124 = .ok (.ireturn, 1) := by decide +kernel
theorem dX10_saysOf_0 : decode cX10_saysOf 0 = .ok (.aload_n 0, 1) := by decide +kernel
theorem dX10_saysOf_1 : decode cX10_saysOf 1 = .ok (.iload_n 2, 1) := by decide +kernel
theorem dX10_saysOf_2 : decode cX10_saysOf 2 = .ok (.putfield 324, 3) := by decide +kernel
theorem dX10_saysOf_5 : decode cX10_saysOf 5 = .ok (.aload_n 0, 1) := by decide +kernel
theorem dX10_saysOf_6 : decode cX10_saysOf 6 = .ok (.aload_n 0, 1) := by decide +kernel
theorem dX10_saysOf_7 : decode cX10_saysOf 7 = .ok (.getfield 20, 3) := by decide +kernel
theorem dX10_saysOf_10 : decode cX10_saysOf 10 = .ok (.iload_n 1, 1) := by decide +kernel
theorem dX10_saysOf_11 : decode cX10_saysOf 11 = .ok (.iaload, 1) := by decide +kernel
theorem dX10_saysOf_12 : decode cX10_saysOf 12 = .ok (.putfield 329, 3) := by decide +kernel
theorem dX10_saysOf_15 : decode cX10_saysOf 15 = .ok (.aload_n 0, 1) := by decide +kernel
theorem dX10_saysOf_16 : decode cX10_saysOf 16 = .ok (.aload_n 0, 1) := by decide +kernel
theorem dX10_saysOf_17 : decode cX10_saysOf 17 = .ok (.getfield 23, 3) := by decide +kernel
theorem dX10_saysOf_20 : decode cX10_saysOf 20 = .ok (.iload_n 1, 1) := by decide +kernel
theorem dX10_saysOf_21 : decode cX10_saysOf 21 = .ok (.iaload, 1) := by decide +kernel
theorem dX10_saysOf_22 : decode cX10_saysOf 22 = .ok (.iconst 1, 1) := by decide +kernel
theorem dX10_saysOf_23 : decode cX10_saysOf 23 = .ok (.iadd, 1) := by decide +kernel
theorem dX10_saysOf_24 : decode cX10_saysOf 24 = .ok (.iload_n 2, 1) := by decide +kernel
theorem dX10_saysOf_25 : decode cX10_saysOf 25 = .ok (.isub, 1) := by decide +kernel
theorem dX10_saysOf_26 : decode cX10_saysOf 26 = .ok (.putfield 334, 3) := by decide +kernel
theorem dX10_saysOf_29 : decode cX10_saysOf 29 = .ok (.aload_n 0, 1) := by decide +kernel
theorem dX10_saysOf_30 : decode cX10_saysOf 30 = .ok (.aload_n 0, 1) := by decide +kernel
theorem dX10_saysOf_31 : decode cX10_saysOf 31 = .ok (.getfield 26, 3) := by decide +kernel
theorem dX10_saysOf_34 : decode cX10_saysOf 34 = .ok (.iload_n 1, 1) := by decide +kernel
theorem dX10_saysOf_35 : decode cX10_saysOf 35 = .ok (.iaload, 1) := by decide +kernel
theorem dX10_saysOf_36 : decode cX10_saysOf 36 = .ok (.putfield 339, 3) := by decide +kernel
theorem dX10_saysOf_39 : decode cX10_saysOf 39 = .ok (.aload_n 0, 1) := by decide +kernel
theorem dX10_saysOf_40 : decode cX10_saysOf 40 = .ok (.aload_n 0, 1) := by decide +kernel
theorem dX10_saysOf_41 : decode cX10_saysOf 41 = .ok (.getfield 17, 3) := by decide +kernel
theorem dX10_saysOf_44 : decode cX10_saysOf 44 = .ok (.iload_n 1, 1) := by decide +kernel
theorem dX10_saysOf_45 : decode cX10_saysOf 45 = .ok (.iaload, 1) := by decide +kernel
theorem dX10_saysOf_46 : decode cX10_saysOf 46 = .ok (.putfield 344, 3) := by decide +kernel
theorem dX10_saysOf_49 : decode cX10_saysOf 49 = .ok (.aload_n 0, 1) := by decide +kernel
theorem dX10_saysOf_50 : decode cX10_saysOf 50 = .ok (.aload_n 0, 1) := by decide +kernel
theorem dX10_saysOf_51 : decode cX10_saysOf 51 = .ok (.getfield 13, 3) := by decide +kernel
theorem dX10_saysOf_54 : decode cX10_saysOf 54 = .ok (.iload_n 1, 1) := by decide +kernel
theorem dX10_saysOf_55 : decode cX10_saysOf 55 = .ok (.iaload, 1) := by decide +kernel
theorem dX10_saysOf_56 : decode cX10_saysOf 56 = .ok (.putfield 349, 3) := by decide +kernel
theorem dX10_saysOf_59 : decode cX10_saysOf 59 = .ok (.aload_n 0, 1) := by decide +kernel
theorem dX10_saysOf_60 : decode cX10_saysOf 60 = .ok (.aload_n 0, 1) := by decide +kernel
theorem dX10_saysOf_61 : decode cX10_saysOf 61 = .ok (.getfield 400, 3) := by decide +kernel
theorem dX10_saysOf_64 : decode cX10_saysOf 64 = .ok (.iload_n 3, 1) := by decide +kernel
theorem dX10_saysOf_65 : decode cX10_saysOf 65 = .ok (.invokevirtual 403, 3) := by decide +kernel
theorem dX10_saysOf_68 : decode cX10_saysOf 68 = .ok (.ireturn, 1) := by decide +kernel
theorem dX10_text_0 : decode cX10_text 0 = .ok (.aload_n 0, 1) := by decide +kernel
theorem dX10_text_1 : decode cX10_text 1 = .ok (.getfield 175, 3) := by decide +kernel
theorem dX10_text_4 : decode cX10_text 4 = .ok (.bipush 6, 2) := by decide +kernel
theorem dX10_text_6 : decode cX10_text 6 = .ok (.if_icmp .ne 6, 3) := by decide +kernel
theorem dX10_text_9 : decode cX10_text 9 = .ok (.bipush (-4), 2) := by decide +kernel
theorem dX10_text_11 : decode cX10_text 11 = .ok (.ireturn, 1) := by decide +kernel
theorem dX10_text_12 : decode cX10_text 12 = .ok (.iconst 0, 1) := by decide +kernel
theorem dX10_text_13 : decode cX10_text 13 = .ok (.istore_n 1, 1) := by decide +kernel
theorem dX10_text_14 : decode cX10_text 14 = .ok (.iload_n 1, 1) := by decide +kernel
theorem dX10_text_15 : decode cX10_text 15 = .ok (.aload_n 0, 1) := by decide +kernel
theorem dX10_text_16 : decode cX10_text 16 = .ok (.getfield 267, 3) := by decide +kernel
theorem dX10_text_19 : decode cX10_text 19 = .ok (.if_icmp .ge 30, 3) := by decide +kernel
theorem dX10_text_22 : decode cX10_text 22 = .ok (.aload_n 0, 1) := by decide +kernel
theorem dX10_text_23 : decode cX10_text 23 = .ok (.getfield 69, 3) := by decide +kernel
theorem dX10_text_26 : decode cX10_text 26 = .ok (.sipush 160, 3) := by decide +kernel
theorem dX10_text_29 : decode cX10_text 29 = .ok (.aload_n 0, 1) := by decide +kernel
theorem dX10_text_30 : decode cX10_text 30 = .ok (.getfield 175, 3) := by decide +kernel
theorem dX10_text_33 : decode cX10_text 33 = .ok (.imul, 1) := by decide +kernel
theorem dX10_text_34 : decode cX10_text 34 = .ok (.iload_n 1, 1) := by decide +kernel
theorem dX10_text_35 : decode cX10_text 35 = .ok (.iadd, 1) := by decide +kernel
theorem dX10_text_36 : decode cX10_text 36 = .ok (.aload_n 0, 1) := by decide +kernel
theorem dX10_text_37 : decode cX10_text 37 = .ok (.getfield 75, 3) := by decide +kernel
theorem dX10_text_40 : decode cX10_text 40 = .ok (.iload_n 1, 1) := by decide +kernel
theorem dX10_text_41 : decode cX10_text 41 = .ok (.iaload, 1) := by decide +kernel
theorem dX10_text_42 : decode cX10_text 42 = .ok (.iastore, 1) := by decide +kernel
theorem dX10_text_43 : decode cX10_text 43 = .ok (.iinc 1 1, 3) := by decide +kernel
theorem dX10_text_46 : decode cX10_text 46 = .ok (.goto (-32), 3) := by decide +kernel
theorem dX10_text_49 : decode cX10_text 49 = .ok (.aload_n 0, 1) := by decide +kernel
theorem dX10_text_50 : decode cX10_text 50 = .ok (.getfield 72, 3) := by decide +kernel
theorem dX10_text_53 : decode cX10_text 53 = .ok (.aload_n 0, 1) := by decide +kernel
theorem dX10_text_54 : decode cX10_text 54 = .ok (.getfield 175, 3) := by decide +kernel
theorem dX10_text_57 : decode cX10_text 57 = .ok (.aload_n 0, 1) := by decide +kernel
theorem dX10_text_58 : decode cX10_text 58 = .ok (.getfield 267, 3) := by decide +kernel
theorem dX10_text_61 : decode cX10_text 61 = .ok (.iastore, 1) := by decide +kernel
theorem dX10_text_62 : decode cX10_text 62 = .ok (.aload_n 0, 1) := by decide +kernel
theorem dX10_text_63 : decode cX10_text 63 = .ok (.iconst 0, 1) := by decide +kernel
theorem dX10_text_64 : decode cX10_text 64 = .ok (.putfield 267, 3) := by decide +kernel
theorem dX10_text_67 : decode cX10_text 67 = .ok (.aload_n 0, 1) := by decide +kernel
theorem dX10_text_68 : decode cX10_text 68 = .ok (.aload_n 0, 1) := by decide +kernel
theorem dX10_text_69 : decode cX10_text 69 = .ok (.getfield 175, 3) := by decide +kernel
theorem dX10_text_72 : decode cX10_text 72 = .ok (.iconst 0, 1) := by decide +kernel
theorem dX10_text_73 : decode cX10_text 73 = .ok (.invokevirtual 403, 3) := by decide +kernel
theorem dX10_text_76 : decode cX10_text 76 = .ok (.istore_n 1, 1) := by decide +kernel
theorem dX10_text_77 : decode cX10_text 77 = .ok (.aload_n 0, 1) := by decide +kernel
theorem dX10_text_78 : decode cX10_text 78 = .ok (.getfield 302, 3) := by decide +kernel
theorem dX10_text_81 : decode cX10_text 81 = .ok (.ifCond .eq 11, 3) := by decide +kernel
theorem dX10_text_84 : decode cX10_text 84 = .ok (.bipush (-100), 2) := by decide +kernel
theorem dX10_text_86 : decode cX10_text 86 = .ok (.aload_n 0, 1) := by decide +kernel
theorem dX10_text_87 : decode cX10_text 87 = .ok (.getfield 306, 3) := by decide +kernel
theorem dX10_text_90 : decode cX10_text 90 = .ok (.isub, 1) := by decide +kernel
theorem dX10_text_91 : decode cX10_text 91 = .ok (.ireturn, 1) := by decide +kernel
theorem dX10_text_92 : decode cX10_text 92 = .ok (.aload_n 0, 1) := by decide +kernel
theorem dX10_text_93 : decode cX10_text 93 = .ok (.dup, 1) := by decide +kernel
theorem dX10_text_94 : decode cX10_text 94 = .ok (.getfield 175, 3) := by decide +kernel
theorem dX10_text_97 : decode cX10_text 97 = .ok (.iconst 1, 1) := by decide +kernel
theorem dX10_text_98 : decode cX10_text 98 = .ok (.iadd, 1) := by decide +kernel
theorem dX10_text_99 : decode cX10_text 99 = .ok (.putfield 175, 3) := by decide +kernel
theorem dX10_text_102 : decode cX10_text 102 = .ok (.aload_n 0, 1) := by decide +kernel
theorem dX10_text_103 : decode cX10_text 103 = .ok (.getfield 175, 3) := by decide +kernel
theorem dX10_text_106 : decode cX10_text 106 = .ok (.iconst 1, 1) := by decide +kernel
theorem dX10_text_107 : decode cX10_text 107 = .ok (.isub, 1) := by decide +kernel
theorem dX10_text_108 : decode cX10_text 108 = .ok (.ireturn, 1) := by decide +kernel
theorem dX10_force_0 : decode cX10_force 0 = .ok (.iload_n 1, 1) := by decide +kernel
theorem dX10_force_1 : decode cX10_force 1 = .ok (.iconst 0, 1) := by decide +kernel
theorem dX10_force_2 : decode cX10_force 2 = .ok (.aload_n 0, 1) := by decide +kernel
theorem dX10_force_3 : decode cX10_force 3 = .ok (.getfield 175, 3) := by decide +kernel
theorem dX10_force_6 : decode cX10_force 6 = .ok (.iconst 1, 1) := by decide +kernel
theorem dX10_force_7 : decode cX10_force 7 = .ok (.isub, 1) := by decide +kernel
theorem dX10_force_8 : decode cX10_force 8 = .ok (.invokestatic 186, 3) := by decide +kernel
theorem dX10_force_11 : decode cX10_force 11 = .ok (.ifCond .ne 6, 3) := by decide +kernel
theorem dX10_force_14 : decode cX10_force 14 = .ok (.bipush (-2), 2) := by decide +kernel
theorem dX10_force_16 : decode cX10_force 16 = .ok (.ireturn, 1) := by decide +kernel
theorem dX10_force_17 : decode cX10_force 17 = .ok (.aload_n 0, 1) := by decide +kernel
theorem dX10_force_18 : decode cX10_force 18 = .ok (.getfield 400, 3) := by decide +kernel
theorem dX10_force_21 : decode cX10_force 21 = .ok (.istore_n 2, 1) := by decide +kernel
theorem dX10_force_22 : decode cX10_force 22 = .ok (.aload_n 0, 1) := by decide +kernel
theorem dX10_force_23 : decode cX10_force 23 = .ok (.iload_n 1, 1) := by decide +kernel
theorem dX10_force_24 : decode cX10_force 24 = .ok (.putfield 400, 3) := by decide +kernel
theorem dX10_force_27 : decode cX10_force 27 = .ok (.iload_n 2, 1) := by decide +kernel
theorem dX10_force_28 : decode cX10_force 28 = .ok (.ireturn, 1) := by decide +kernel
theorem dX10_says_0 : decode cX10_says 0 = .ok (.aload_n 0, 1) := by decide +kernel
theorem dX10_says_1 : decode cX10_says 1 = .ok (.iload_n 1, 1) := by decide +kernel
theorem dX10_says_2 : decode cX10_says 2 = .ok (.invokevirtual 198, 3) := by decide +kernel
theorem dX10_says_5 : decode cX10_says 5 = .ok (.ifCond .eq 37, 3) := by decide +kernel
theorem dX10_says_8 : decode cX10_says 8 = .ok (.iload_n 2, 1) := by decide +kernel
theorem dX10_says_9 : decode cX10_says 9 = .ok (.iconst 0, 1) := by decide +kernel
theorem dX10_says_10 : decode cX10_says 10 = .ok (.iconst 2, 1) := by decide +kernel
theorem dX10_says_11 : decode cX10_says 11 = .ok (.invokestatic 186, 3) := by decide +kernel
theorem dX10_says_14 : decode cX10_says 14 = .ok (.ifCond .eq 28, 3) := by decide +kernel
theorem dX10_says_17 : decode cX10_says 17 = .ok (.aload_n 0, 1) := by decide +kernel
theorem dX10_says_18 : decode cX10_says 18 = .ok (.getfield 195, 3) := by decide +kernel
theorem dX10_says_21 : decode cX10_says 21 = .ok (.bipush 60, 2) := by decide +kernel
theorem dX10_says_23 : decode cX10_says 23 = .ok (.if_icmp .ge 19, 3) := by decide +kernel
theorem dX10_says_26 : decode cX10_says 26 = .ok (.aload_n 0, 1) := by decide +kernel
theorem dX10_says_27 : decode cX10_says 27 = .ok (.iload_n 1, 1) := by decide +kernel
theorem dX10_says_28 : decode cX10_says 28 = .ok (.aload_n 0, 1) := by decide +kernel
theorem dX10_says_29 : decode cX10_says 29 = .ok (.getfield 195, 3) := by decide +kernel
theorem dX10_says_32 : decode cX10_says 32 = .ok (.iconst 1, 1) := by decide +kernel
theorem dX10_says_33 : decode cX10_says 33 = .ok (.iadd, 1) := by decide +kernel
theorem dX10_says_34 : decode cX10_says 34 = .ok (.iload_n 2, 1) := by decide +kernel
theorem dX10_says_35 : decode cX10_says 35 = .ok (.invokevirtual 230, 3) := by decide +kernel
theorem dX10_says_38 : decode cX10_says 38 = .ok (.i2l, 1) := by decide +kernel
theorem dX10_says_39 : decode cX10_says 39 = .ok (.goto 6, 3) := by decide +kernel
theorem dX10_says_42 : decode cX10_says 42 = .ok (.ldc2_w 406, 3) := by decide +kernel
theorem dX10_says_45 : decode cX10_says 45 = .ok (.lreturn, 1) := by decide +kernel
theorem dX10_numberHere_0 : decode cX10_numberHere 0 = .ok (.aload_n 0, 1) := by decide +kernel
theorem dX10_numberHere_1 : decode cX10_numberHere 1 = .ok (.getfield 302, 3) := by decide +kernel
theorem dX10_numberHere_4 : decode cX10_numberHere 4 = .ok (.ifCond .ne 11, 3) := by decide +kernel
theorem dX10_numberHere_7 : decode cX10_numberHere 7 = .ok (.aload_n 0, 1) := by decide +kernel
theorem dX10_numberHere_8 : decode cX10_numberHere 8 = .ok (.getfield 285, 3) := by decide +kernel
theorem dX10_numberHere_11 : decode cX10_numberHere 11 = .ok (.iconst 2, 1) := by decide +kernel
theorem dX10_numberHere_12 : decode cX10_numberHere 12 = .ok (.if_icmp .eq 9, 3) := by decide +kernel
theorem dX10_numberHere_15 : decode cX10_numberHere 15 = .ok (.aload_n 0, 1) := by decide +kernel
theorem dX10_numberHere_16 : decode cX10_numberHere 16 = .ok (.invokevirtual 312, 3) := by decide +kernel
theorem dX10_numberHere_19 : decode cX10_numberHere 19 = .ok (.iconst (-1), 1) := by decide +kernel
theorem dX10_numberHere_20 : decode cX10_numberHere 20 = .ok (.ireturn, 1) := by decide +kernel
theorem dX10_numberHere_21 : decode cX10_numberHere 21 = .ok (.aload_n 0, 1) := by decide +kernel
theorem dX10_numberHere_22 : decode cX10_numberHere 22 = .ok (.getfield 288, 3) := by decide +kernel
theorem dX10_numberHere_25 : decode cX10_numberHere 25 = .ok (.l2i, 1) := by decide +kernel
theorem dX10_numberHere_26 : decode cX10_numberHere 26 = .ok (.istore_n 1, 1) := by decide +kernel
theorem dX10_numberHere_27 : decode cX10_numberHere 27 = .ok (.aload_n 0, 1) := by decide +kernel
theorem dX10_numberHere_28 : decode cX10_numberHere 28 = .ok (.invokevirtual 315, 3) := by decide +kernel
theorem dX10_numberHere_31 : decode cX10_numberHere 31 = .ok (.iload_n 1, 1) := by decide +kernel
theorem dX10_numberHere_32 : decode cX10_numberHere 32 = .ok (.ireturn, 1) := by decide +kernel
theorem dX10_paperHere_0 : decode cX10_paperHere 0 = .ok (.aload_n 0, 1) := by decide +kernel
theorem dX10_paperHere_1 : decode cX10_paperHere 1 = .ok (.getfield 302, 3) := by decide +kernel
theorem dX10_paperHere_4 : decode cX10_paperHere 4 = .ok (.ifCond .ne 31, 3) := by decide +kernel
theorem dX10_paperHere_7 : decode cX10_paperHere 7 = .ok (.aload_n 0, 1) := by decide +kernel
theorem dX10_paperHere_8 : decode cX10_paperHere 8 = .ok (.getfield 285, 3) := by decide +kernel
theorem dX10_paperHere_11 : decode cX10_paperHere 11 = .ok (.iconst 1, 1) := by decide +kernel
theorem dX10_paperHere_12 : decode cX10_paperHere 12 = .ok (.if_icmp .ne 23, 3) := by decide +kernel
theorem dX10_paperHere_15 : decode cX10_paperHere 15 = .ok (.aload_n 0, 1) := by decide +kernel
theorem dX10_paperHere_16 : decode cX10_paperHere 16 = .ok (.getfield 288, 3) := by decide +kernel
theorem dX10_paperHere_19 : decode cX10_paperHere 19 = .ok (.lconst 1, 1) := by decide +kernel
theorem dX10_paperHere_20 : decode cX10_paperHere 20 = .ok (.lcmp, 1) := by decide +kernel
theorem dX10_paperHere_21 : decode cX10_paperHere 21 = .ok (.ifCond .lt 14, 3) := by decide +kernel
theorem dX10_paperHere_24 : decode cX10_paperHere 24 = .ok (.aload_n 0, 1) := by decide +kernel
theorem dX10_paperHere_25 : decode cX10_paperHere 25 = .ok (.getfield 288, 3) := by decide +kernel
theorem dX10_paperHere_28 : decode cX10_paperHere 28 = .ok (.ldc2_w 408, 3) := by decide +kernel
theorem dX10_paperHere_31 : decode cX10_paperHere 31 = .ok (.lcmp, 1) := by decide +kernel
theorem dX10_paperHere_32 : decode cX10_paperHere 32 = .ok (.ifCond .le 9, 3) := by decide +kernel
theorem dX10_paperHere_35 : decode cX10_paperHere 35 = .ok (.aload_n 0, 1) := by decide +kernel
theorem dX10_paperHere_36 : decode cX10_paperHere 36 = .ok (.invokevirtual 312, 3) := by decide +kernel
theorem dX10_paperHere_39 : decode cX10_paperHere 39 = .ok (.iconst (-1), 1) := by decide +kernel
theorem dX10_paperHere_40 : decode cX10_paperHere 40 = .ok (.ireturn, 1) := by decide +kernel
theorem dX10_paperHere_41 : decode cX10_paperHere 41 = .ok (.aload_n 0, 1) := by decide +kernel
theorem dX10_paperHere_42 : decode cX10_paperHere 42 = .ok (.getfield 288, 3) := by decide +kernel
theorem dX10_paperHere_45 : decode cX10_paperHere 45 = .ok (.l2i, 1) := by decide +kernel
theorem dX10_paperHere_46 : decode cX10_paperHere 46 = .ok (.iconst 1, 1) := by decide +kernel
theorem dX10_paperHere_47 : decode cX10_paperHere 47 = .ok (.isub, 1) := by decide +kernel
theorem dX10_paperHere_48 : decode cX10_paperHere 48 = .ok (.istore_n 1, 1) := by decide +kernel
theorem dX10_paperHere_49 : decode cX10_paperHere 49 = .ok (.aload_n 0, 1) := by decide +kernel
theorem dX10_paperHere_50 : decode cX10_paperHere 50 = .ok (.invokevirtual 315, 3) := by decide +kernel
theorem dX10_paperHere_53 : decode cX10_paperHere 53 = .ok (.iload_n 1, 1) := by decide +kernel
theorem dX10_paperHere_54 : decode cX10_paperHere 54 = .ok (.ireturn, 1) := by decide +kernel
theorem dX10_fieldHere_0 : decode cX10_fieldHere 0 = .ok (.aload_n 0, 1) := by decide +kernel
theorem dX10_fieldHere_1 : decode cX10_fieldHere 1 = .ok (.ldc2_w 318, 3) := by decide +kernel
theorem dX10_fieldHere_4 : decode cX10_fieldHere 4 = .ok (.invokevirtual 320, 3) := by decide +kernel
theorem dX10_fieldHere_7 : decode cX10_fieldHere 7 = .ok (.ifCond .eq 7, 3) := by decide +kernel
theorem dX10_fieldHere_10 : decode cX10_fieldHere 10 = .ok (.iconst 0, 1) := by decide +kernel
theorem dX10_fieldHere_11 : decode cX10_fieldHere 11 = .ok (.goto 60, 3) := by decide +kernel
theorem dX10_fieldHere_14 : decode cX10_fieldHere 14 = .ok (.aload_n 0, 1) := by decide +kernel
theorem dX10_fieldHere_15 : decode cX10_fieldHere 15 = .ok (.ldc2_w 396, 3) := by decide +kernel
theorem dX10_fieldHere_18 : decode cX10_fieldHere 18 = .ok (.invokevirtual 320, 3) := by decide +kernel
theorem dX10_fieldHere_21 : decode cX10_fieldHere 21 = .ok (.ifCond .eq 7, 3) := by decide +kernel
theorem dX10_fieldHere_24 : decode cX10_fieldHere 24 = .ok (.iconst 1, 1) := by decide +kernel
theorem dX10_fieldHere_25 : decode cX10_fieldHere 25 = .ok (.goto 46, 3) := by decide +kernel
theorem dX10_fieldHere_28 : decode cX10_fieldHere 28 = .ok (.aload_n 0, 1) := by decide +kernel
theorem dX10_fieldHere_29 : decode cX10_fieldHere 29 = .ok (.ldc2_w 410, 3) := by decide +kernel
theorem dX10_fieldHere_32 : decode cX10_fieldHere 32 = .ok (.invokevirtual 320, 3) := by decide +kernel
theorem dX10_fieldHere_35 : decode cX10_fieldHere 35 = .ok (.ifCond .eq 7, 3) := by decide +kernel
theorem dX10_fieldHere_38 : decode cX10_fieldHere 38 = .ok (.iconst 2, 1) := by decide +kernel
theorem dX10_fieldHere_39 : decode cX10_fieldHere 39 = .ok (.goto 32, 3) := by decide +kernel
theorem dX10_fieldHere_42 : decode cX10_fieldHere 42 = .ok (.aload_n 0, 1) := by decide +kernel
theorem dX10_fieldHere_43 : decode cX10_fieldHere 43 = .ok (.ldc2_w 412, 3) := by decide +kernel
theorem dX10_fieldHere_46 : decode cX10_fieldHere 46 = .ok (.invokevirtual 320, 3) := by decide +kernel
theorem dX10_fieldHere_49 : decode cX10_fieldHere 49 = .ok (.ifCond .eq 7, 3) := by decide +kernel
theorem dX10_fieldHere_52 : decode cX10_fieldHere 52 = .ok (.iconst 3, 1) := by decide +kernel
theorem dX10_fieldHere_53 : decode cX10_fieldHere 53 = .ok (.goto 18, 3) := by decide +kernel
theorem dX10_fieldHere_56 : decode cX10_fieldHere 56 = .ok (.aload_n 0, 1) := by decide +kernel
theorem dX10_fieldHere_57 : decode cX10_fieldHere 57 = .ok (.ldc2_w 414, 3) := by decide +kernel
theorem dX10_fieldHere_60 : decode cX10_fieldHere 60 = .ok (.invokevirtual 320, 3) := by decide +kernel
theorem dX10_fieldHere_63 : decode cX10_fieldHere 63 = .ok (.ifCond .eq 7, 3) := by decide +kernel
theorem dX10_fieldHere_66 : decode cX10_fieldHere 66 = .ok (.iconst 4, 1) := by decide +kernel
theorem dX10_fieldHere_67 : decode cX10_fieldHere 67 = .ok (.goto 4, 3) := by decide +kernel
theorem dX10_fieldHere_70 : decode cX10_fieldHere 70 = .ok (.iconst (-1), 1) := by decide +kernel
theorem dX10_fieldHere_71 : decode cX10_fieldHere 71 = .ok (.istore_n 1, 1) := by decide +kernel
theorem dX10_fieldHere_72 : decode cX10_fieldHere 72 = .ok (.iload_n 1, 1) := by decide +kernel
theorem dX10_fieldHere_73 : decode cX10_fieldHere 73 = .ok (.iconst (-1), 1) := by decide +kernel
theorem dX10_fieldHere_74 : decode cX10_fieldHere 74 = .ok (.if_icmp .ne 10, 3) := by decide +kernel
theorem dX10_fieldHere_77 : decode cX10_fieldHere 77 = .ok (.aload_n 0, 1) := by decide +kernel
theorem dX10_fieldHere_78 : decode cX10_fieldHere 78 = .ok (.invokevirtual 312, 3) := by decide +kernel
theorem dX10_fieldHere_81 : decode cX10_fieldHere 81 = .ok (.goto 7, 3) := by decide +kernel
theorem dX10_fieldHere_84 : decode cX10_fieldHere 84 = .ok (.aload_n 0, 1) := by decide +kernel
theorem dX10_fieldHere_85 : decode cX10_fieldHere 85 = .ok (.invokevirtual 315, 3) := by decide +kernel
theorem dX10_fieldHere_88 : decode cX10_fieldHere 88 = .ok (.iload_n 1, 1) := by decide +kernel
theorem dX10_fieldHere_89 : decode cX10_fieldHere 89 = .ok (.ireturn, 1) := by decide +kernel
theorem dX10_readStep_0 : decode cX10_readStep 0 = .ok (.aload_n 0, 1) := by decide +kernel
theorem dX10_readStep_1 : decode cX10_readStep 1 = .ok (.ldc2_w 416, 3) := by decide +kernel
theorem dX10_readStep_4 : decode cX10_readStep 4 = .ok (.invokevirtual 320, 3) := by decide +kernel
theorem dX10_readStep_7 : decode cX10_readStep 7 = .ok (.ifCond .eq 7, 3) := by decide +kernel
theorem dX10_readStep_10 : decode cX10_readStep 10 = .ok (.iconst 0, 1) := by decide +kernel
theorem dX10_readStep_11 : decode cX10_readStep 11 = .ok (.goto 60, 3) := by decide +kernel
theorem dX10_readStep_14 : decode cX10_readStep 14 = .ok (.aload_n 0, 1) := by decide +kernel
theorem dX10_readStep_15 : decode cX10_readStep 15 = .ok (.ldc2_w 418, 3) := by decide +kernel
theorem dX10_readStep_18 : decode cX10_readStep 18 = .ok (.invokevirtual 320, 3) := by decide +kernel
theorem dX10_readStep_21 : decode cX10_readStep 21 = .ok (.ifCond .eq 7, 3) := by decide +kernel
theorem dX10_readStep_24 : decode cX10_readStep 24 = .ok (.iconst 1, 1) := by decide +kernel
theorem dX10_readStep_25 : decode cX10_readStep 25 = .ok (.goto 46, 3) := by decide +kernel
theorem dX10_readStep_28 : decode cX10_readStep 28 = .ok (.aload_n 0, 1) := by decide +kernel
theorem dX10_readStep_29 : decode cX10_readStep 29 = .ok (.ldc2_w 420, 3) := by decide +kernel
theorem dX10_readStep_32 : decode cX10_readStep 32 = .ok (.invokevirtual 320, 3) := by decide +kernel
theorem dX10_readStep_35 : decode cX10_readStep 35 = .ok (.ifCond .eq 7, 3) := by decide +kernel
theorem dX10_readStep_38 : decode cX10_readStep 38 = .ok (.iconst 2, 1) := by decide +kernel
theorem dX10_readStep_39 : decode cX10_readStep 39 = .ok (.goto 32, 3) := by decide +kernel
theorem dX10_readStep_42 : decode cX10_readStep 42 = .ok (.aload_n 0, 1) := by decide +kernel
theorem dX10_readStep_43 : decode cX10_readStep 43 = .ok (.ldc2_w 422, 3) := by decide +kernel
theorem dX10_readStep_46 : decode cX10_readStep 46 = .ok (.invokevirtual 320, 3) := by decide +kernel
theorem dX10_readStep_49 : decode cX10_readStep 49 = .ok (.ifCond .eq 7, 3) := by decide +kernel
theorem dX10_readStep_52 : decode cX10_readStep 52 = .ok (.iconst 3, 1) := by decide +kernel
theorem dX10_readStep_53 : decode cX10_readStep 53 = .ok (.goto 18, 3) := by decide +kernel
theorem dX10_readStep_56 : decode cX10_readStep 56 = .ok (.aload_n 0, 1) := by decide +kernel
theorem dX10_readStep_57 : decode cX10_readStep 57 = .ok (.ldc2_w 424, 3) := by decide +kernel
theorem dX10_readStep_60 : decode cX10_readStep 60 = .ok (.invokevirtual 320, 3) := by decide +kernel
theorem dX10_readStep_63 : decode cX10_readStep 63 = .ok (.ifCond .eq 7, 3) := by decide +kernel
theorem dX10_readStep_66 : decode cX10_readStep 66 = .ok (.iconst 4, 1) := by decide +kernel
theorem dX10_readStep_67 : decode cX10_readStep 67 = .ok (.goto 4, 3) := by decide +kernel
theorem dX10_readStep_70 : decode cX10_readStep 70 = .ok (.iconst (-1), 1) := by decide +kernel
theorem dX10_readStep_71 : decode cX10_readStep 71 = .ok (.istore_n 2, 1) := by decide +kernel
theorem dX10_readStep_72 : decode cX10_readStep 72 = .ok (.iload_n 2, 1) := by decide +kernel
theorem dX10_readStep_73 : decode cX10_readStep 73 = .ok (.iconst (-1), 1) := by decide +kernel
theorem dX10_readStep_74 : decode cX10_readStep 74 = .ok (.if_icmp .ne 8, 3) := by decide +kernel
theorem dX10_readStep_77 : decode cX10_readStep 77 = .ok (.aload_n 0, 1) := by decide +kernel
theorem dX10_readStep_78 : decode cX10_readStep 78 = .ok (.invokevirtual 312, 3) := by decide +kernel
theorem dX10_readStep_81 : decode cX10_readStep 81 = .ok (.return_, 1) := by decide +kernel
theorem dX10_readStep_82 : decode cX10_readStep 82 = .ok (.aload_n 0, 1) := by decide +kernel
theorem dX10_readStep_83 : decode cX10_readStep 83 = .ok (.invokevirtual 315, 3) := by decide +kernel
theorem dX10_readStep_86 : decode cX10_readStep 86 = .ok (.aload_n 0, 1) := by decide +kernel
theorem dX10_readStep_87 : decode cX10_readStep 87 = .ok (.getfield 81, 3) := by decide +kernel
theorem dX10_readStep_90 : decode cX10_readStep 90 = .ok (.iload_n 1, 1) := by decide +kernel
theorem dX10_readStep_91 : decode cX10_readStep 91 = .ok (.iload_n 2, 1) := by decide +kernel
theorem dX10_readStep_92 : decode cX10_readStep 92 = .ok (.iastore, 1) := by decide +kernel
theorem dX10_readStep_93 : decode cX10_readStep 93 = .ok (.aload_n 0, 1) := by decide +kernel
theorem dX10_readStep_94 : decode cX10_readStep 94 = .ok (.getfield 84, 3) := by decide +kernel
theorem dX10_readStep_97 : decode cX10_readStep 97 = .ok (.iload_n 1, 1) := by decide +kernel
theorem dX10_readStep_98 : decode cX10_readStep 98 = .ok (.iload_n 2, 1) := by decide +kernel
theorem dX10_readStep_99 : decode cX10_readStep 99 = .ok (.ifCond .eq 8, 3) := by decide +kernel
theorem dX10_readStep_102 : decode cX10_readStep 102 = .ok (.iload_n 2, 1) := by decide +kernel
theorem dX10_readStep_103 : decode cX10_readStep 103 = .ok (.iconst 4, 1) := by decide +kernel
theorem dX10_readStep_104 : decode cX10_readStep 104 = .ok (.if_icmp .ne 7, 3) := by decide +kernel
theorem dX10_readStep_107 : decode cX10_readStep 107 = .ok (.iconst (-1), 1) := by decide +kernel
theorem dX10_readStep_108 : decode cX10_readStep 108 = .ok (.goto 7, 3) := by decide +kernel
theorem dX10_readStep_111 : decode cX10_readStep 111 = .ok (.aload_n 0, 1) := by decide +kernel
theorem dX10_readStep_112 : decode cX10_readStep 112 = .ok (.invokevirtual 426, 3) := by decide +kernel
theorem dX10_readStep_115 : decode cX10_readStep 115 = .ok (.iastore, 1) := by decide +kernel
theorem dX10_readStep_116 : decode cX10_readStep 116 = .ok (.aload_n 0, 1) := by decide +kernel
theorem dX10_readStep_117 : decode cX10_readStep 117 = .ok (.getfield 87, 3) := by decide +kernel
theorem dX10_readStep_120 : decode cX10_readStep 120 = .ok (.iload_n 1, 1) := by decide +kernel
theorem dX10_readStep_121 : decode cX10_readStep 121 = .ok (.iload_n 2, 1) := by decide +kernel
theorem dX10_readStep_122 : decode cX10_readStep 122 = .ok (.iconst 1, 1) := by decide +kernel
theorem dX10_readStep_123 : decode cX10_readStep 123 = .ok (.if_icmp .eq 8, 3) := by decide +kernel
theorem dX10_readStep_126 : decode cX10_readStep 126 = .ok (.iload_n 2, 1) := by decide +kernel
theorem dX10_readStep_127 : decode cX10_readStep 127 = .ok (.iconst 2, 1) := by decide +kernel
theorem dX10_readStep_128 : decode cX10_readStep 128 = .ok (.if_icmp .ne 7, 3) := by decide +kernel
theorem dX10_readStep_131 : decode cX10_readStep 131 = .ok (.iconst (-1), 1) := by decide +kernel
theorem dX10_readStep_132 : decode cX10_readStep 132 = .ok (.goto 7, 3) := by decide +kernel
theorem dX10_readStep_135 : decode cX10_readStep 135 = .ok (.aload_n 0, 1) := by decide +kernel
theorem dX10_readStep_136 : decode cX10_readStep 136 = .ok (.invokevirtual 429, 3) := by decide +kernel
theorem dX10_readStep_139 : decode cX10_readStep 139 = .ok (.iastore, 1) := by decide +kernel
theorem dX10_readStep_140 : decode cX10_readStep 140 = .ok (.aload_n 0, 1) := by decide +kernel
theorem dX10_readStep_141 : decode cX10_readStep 141 = .ok (.getfield 90, 3) := by decide +kernel
theorem dX10_readStep_144 : decode cX10_readStep 144 = .ok (.iload_n 1, 1) := by decide +kernel
theorem dX10_readStep_145 : decode cX10_readStep 145 = .ok (.iconst 0, 1) := by decide +kernel
theorem dX10_readStep_146 : decode cX10_readStep 146 = .ok (.iastore, 1) := by decide +kernel
theorem dX10_readStep_147 : decode cX10_readStep 147 = .ok (.aload_n 0, 1) := by decide +kernel
theorem dX10_readStep_148 : decode cX10_readStep 148 = .ok (.getfield 93, 3) := by decide +kernel
theorem dX10_readStep_151 : decode cX10_readStep 151 = .ok (.iload_n 1, 1) := by decide +kernel
theorem dX10_readStep_152 : decode cX10_readStep 152 = .ok (.iconst (-1), 1) := by decide +kernel
theorem dX10_readStep_153 : decode cX10_readStep 153 = .ok (.iastore, 1) := by decide +kernel
theorem dX10_readStep_154 : decode cX10_readStep 154 = .ok (.aload_n 0, 1) := by decide +kernel
theorem dX10_readStep_155 : decode cX10_readStep 155 = .ok (.getfield 96, 3) := by decide +kernel
theorem dX10_readStep_158 : decode cX10_readStep 158 = .ok (.iload_n 1, 1) := by decide +kernel
theorem dX10_readStep_159 : decode cX10_readStep 159 = .ok (.iconst (-1), 1) := by decide +kernel
theorem dX10_readStep_160 : decode cX10_readStep 160 = .ok (.iastore, 1) := by decide +kernel
theorem dX10_readStep_161 : decode cX10_readStep 161 = .ok (.aload_n 0, 1) := by decide +kernel
theorem dX10_readStep_162 : decode cX10_readStep 162 = .ok (.ldc2_w 432, 3) := by decide +kernel
theorem dX10_readStep_165 : decode cX10_readStep 165 = .ok (.invokevirtual 320, 3) := by decide +kernel
theorem dX10_readStep_168 : decode cX10_readStep 168 = .ok (.ifCond .ne 4, 3) := by decide +kernel
theorem dX10_readStep_171 : decode cX10_readStep 171 = .ok (.return_, 1) := by decide +kernel
theorem dX10_readStep_172 : decode cX10_readStep 172 = .ok (.aload_n 0, 1) := by decide +kernel
theorem dX10_readStep_173 : decode cX10_readStep 173 = .ok (.invokevirtual 315, 3) := by decide +kernel
theorem dX10_readStep_176 : decode cX10_readStep 176 = .ok (.aload_n 0, 1) := by decide +kernel
theorem dX10_readStep_177 : decode cX10_readStep 177 = .ok (.ldc2_w 373, 3) := by decide +kernel
theorem dX10_readStep_180 : decode cX10_readStep 180 = .ok (.invokevirtual 320, 3) := by decide +kernel
theorem dX10_readStep_183 : decode cX10_readStep 183 = .ok (.istore_n 3, 1) := by decide +kernel
theorem dX10_readStep_184 : decode cX10_readStep 184 = .ok (.iload_n 3, 1) := by decide +kernel
theorem dX10_readStep_185 : decode cX10_readStep 185 = .ok (.ifCond .eq 7, 3) := by decide +kernel
theorem dX10_readStep_188 : decode cX10_readStep 188 = .ok (.aload_n 0, 1) := by decide +kernel
theorem dX10_readStep_189 : decode cX10_readStep 189 = .ok (.invokevirtual 315, 3) := by decide +kernel
theorem dX10_readStep_192 : decode cX10_readStep 192 = .ok (.aload_n 0, 1) := by decide +kernel
theorem dX10_readStep_193 : decode cX10_readStep 193 = .ok (.getfield 93, 3) := by decide +kernel
theorem dX10_readStep_196 : decode cX10_readStep 196 = .ok (.iload_n 1, 1) := by decide +kernel
theorem dX10_readStep_197 : decode cX10_readStep 197 = .ok (.aload_n 0, 1) := by decide +kernel
theorem dX10_readStep_198 : decode cX10_readStep 198 = .ok (.invokevirtual 434, 3) := by decide +kernel
theorem dX10_readStep_201 : decode cX10_readStep 201 = .ok (.iastore, 1) := by decide +kernel
theorem dX10_readStep_202 : decode cX10_readStep 202 = .ok (.aload_n 0, 1) := by decide +kernel
theorem dX10_readStep_203 : decode cX10_readStep 203 = .ok (.bipush 60, 2) := by decide +kernel
theorem dX10_readStep_205 : decode cX10_readStep 205 = .ok (.invokevirtual 352, 3) := by decide +kernel
theorem dX10_readStep_208 : decode cX10_readStep 208 = .ok (.istore 4, 2) := by decide +kernel
theorem dX10_readStep_210 : decode cX10_readStep 210 = .ok (.iload 4, 2) := by decide +kernel
theorem dX10_readStep_212 : decode cX10_readStep 212 = .ok (.ifCond .ne 16, 3) := by decide +kernel
theorem dX10_readStep_215 : decode cX10_readStep 215 = .ok (.aload_n 0, 1) := by decide +kernel
theorem dX10_readStep_216 : decode cX10_readStep 216 = .ok (.bipush 61, 2) := by decide +kernel
theorem dX10_readStep_218 : decode cX10_readStep 218 = .ok (.invokevirtual 352, 3) := by decide +kernel
theorem dX10_readStep_221 : decode cX10_readStep 221 = .ok (.ifCond .ne 7, 3) := by decide +kernel
theorem dX10_readStep_224 : decode cX10_readStep 224 = .ok (.aload_n 0, 1) := by decide +kernel
theorem dX10_readStep_225 : decode cX10_readStep 225 = .ok (.invokevirtual 312, 3) := by decide +kernel
theorem dX10_readStep_228 : decode cX10_readStep 228 = .ok (.aload_n 0, 1) := by decide +kernel
theorem dX10_readStep_229 : decode cX10_readStep 229 = .ok (.getfield 302, 3) := by decide +kernel
theorem dX10_readStep_232 : decode cX10_readStep 232 = .ok (.ifCond .ne 7, 3) := by decide +kernel
theorem dX10_readStep_235 : decode cX10_readStep 235 = .ok (.aload_n 0, 1) := by decide +kernel
theorem dX10_readStep_236 : decode cX10_readStep 236 = .ok (.invokevirtual 315, 3) := by decide +kernel
theorem dX10_readStep_239 : decode cX10_readStep 239 = .ok (.aload_n 0, 1) := by decide +kernel
theorem dX10_readStep_240 : decode cX10_readStep 240 = .ok (.getfield 96, 3) := by decide +kernel
theorem dX10_readStep_243 : decode cX10_readStep 243 = .ok (.iload_n 1, 1) := by decide +kernel
theorem dX10_readStep_244 : decode cX10_readStep 244 = .ok (.aload_n 0, 1) := by decide +kernel
theorem dX10_readStep_245 : decode cX10_readStep 245 = .ok (.invokevirtual 429, 3) := by decide +kernel
theorem dX10_readStep_248 : decode cX10_readStep 248 = .ok (.iastore, 1) := by decide +kernel
theorem dX10_readStep_249 : decode cX10_readStep 249 = .ok (.aload_n 0, 1) := by decide +kernel
theorem dX10_readStep_250 : decode cX10_readStep 250 = .ok (.getfield 90, 3) := by decide +kernel
theorem dX10_readStep_253 : decode cX10_readStep 253 = .ok (.iload_n 1, 1) := by decide +kernel
theorem dX10_readStep_254 : decode cX10_readStep 254 = .ok (.iload 4, 2) := by decide +kernel
theorem dX10_readStep_256 : decode cX10_readStep 256 = .ok (.ifCond .eq 7, 3) := by decide +kernel
theorem dX10_readStep_259 : decode cX10_readStep 259 = .ok (.iconst 1, 1) := by decide +kernel
theorem dX10_readStep_260 : decode cX10_readStep 260 = .ok (.goto 4, 3) := by decide +kernel
theorem dX10_readStep_263 : decode cX10_readStep 263 = .ok (.iconst 2, 1) := by decide +kernel
theorem dX10_readStep_264 : decode cX10_readStep 264 = .ok (.iload_n 3, 1) := by decide +kernel
theorem dX10_readStep_265 : decode cX10_readStep 265 = .ok (.ifCond .eq 7, 3) := by decide +kernel
theorem dX10_readStep_268 : decode cX10_readStep 268 = .ok (.iconst 2, 1) := by decide +kernel
theorem dX10_readStep_269 : decode cX10_readStep 269 = .ok (.goto 4, 3) := by decide +kernel
theorem dX10_readStep_272 : decode cX10_readStep 272 = .ok (.iconst 0, 1) := by decide +kernel
theorem dX10_readStep_273 : decode cX10_readStep 273 = .ok (.iadd, 1) := by decide +kernel
theorem dX10_readStep_274 : decode cX10_readStep 274 = .ok (.iastore, 1) := by decide +kernel
theorem dX10_readStep_275 : decode cX10_readStep 275 = .ok (.return_, 1) := by decide +kernel
theorem dX10_order_0 : decode cX10_order 0 = .ok (.aload_n 0, 1) := by decide +kernel
theorem dX10_order_1 : decode cX10_order 1 = .ok (.getfield 178, 3) := by decide +kernel
theorem dX10_order_4 : decode cX10_order 4 = .ok (.bipush 6, 2) := by decide +kernel
theorem dX10_order_6 : decode cX10_order 6 = .ok (.if_icmp .ne 6, 3) := by decide +kernel
theorem dX10_order_9 : decode cX10_order 9 = .ok (.bipush (-4), 2) := by decide +kernel
theorem dX10_order_11 : decode cX10_order 11 = .ok (.ireturn, 1) := by decide +kernel
theorem dX10_order_12 : decode cX10_order 12 = .ok (.iconst 0, 1) := by decide +kernel
theorem dX10_order_13 : decode cX10_order 13 = .ok (.istore_n 1, 1) := by decide +kernel
theorem dX10_order_14 : decode cX10_order 14 = .ok (.iload_n 1, 1) := by decide +kernel
theorem dX10_order_15 : decode cX10_order 15 = .ok (.aload_n 0, 1) := by decide +kernel
theorem dX10_order_16 : decode cX10_order 16 = .ok (.getfield 267, 3) := by decide +kernel
theorem dX10_order_19 : decode cX10_order 19 = .ok (.if_icmp .ge 25, 3) := by decide +kernel
theorem dX10_order_22 : decode cX10_order 22 = .ok (.aload_n 0, 1) := by decide +kernel
theorem dX10_order_23 : decode cX10_order 23 = .ok (.getfield 69, 3) := by decide +kernel
theorem dX10_order_26 : decode cX10_order 26 = .ok (.sipush 960, 3) := by decide +kernel
theorem dX10_order_29 : decode cX10_order 29 = .ok (.iload_n 1, 1) := by decide +kernel
theorem dX10_order_30 : decode cX10_order 30 = .ok (.iadd, 1) := by decide +kernel
theorem dX10_order_31 : decode cX10_order 31 = .ok (.aload_n 0, 1) := by decide +kernel
theorem dX10_order_32 : decode cX10_order 32 = .ok (.getfield 75, 3) := by decide +kernel
theorem dX10_order_35 : decode cX10_order 35 = .ok (.iload_n 1, 1) := by decide +kernel
theorem dX10_order_36 : decode cX10_order 36 = .ok (.iaload, 1) := by decide +kernel
theorem dX10_order_37 : decode cX10_order 37 = .ok (.iastore, 1) := by decide +kernel
theorem dX10_order_38 : decode cX10_order 38 = .ok (.iinc 1 1, 3) := by decide +kernel
theorem dX10_order_41 : decode cX10_order 41 = .ok (.goto (-27), 3) := by decide +kernel
theorem dX10_order_44 : decode cX10_order 44 = .ok (.aload_n 0, 1) := by decide +kernel
theorem dX10_order_45 : decode cX10_order 45 = .ok (.sipush 960, 3) := by decide +kernel
theorem dX10_order_48 : decode cX10_order 48 = .ok (.putfield 273, 3) := by decide +kernel
theorem dX10_order_51 : decode cX10_order 51 = .ok (.aload_n 0, 1) := by decide +kernel
theorem dX10_order_52 : decode cX10_order 52 = .ok (.aload_n 0, 1) := by decide +kernel
theorem dX10_order_53 : decode cX10_order 53 = .ok (.getfield 267, 3) := by decide +kernel
theorem dX10_order_56 : decode cX10_order 56 = .ok (.putfield 270, 3) := by decide +kernel
theorem dX10_order_59 : decode cX10_order 59 = .ok (.aload_n 0, 1) := by decide +kernel
theorem dX10_order_60 : decode cX10_order 60 = .ok (.iconst 0, 1) := by decide +kernel
theorem dX10_order_61 : decode cX10_order 61 = .ok (.putfield 267, 3) := by decide +kernel
theorem dX10_order_64 : decode cX10_order 64 = .ok (.aload_n 0, 1) := by decide +kernel
theorem dX10_order_65 : decode cX10_order 65 = .ok (.iconst 0, 1) := by decide +kernel
theorem dX10_order_66 : decode cX10_order 66 = .ok (.putfield 276, 3) := by decide +kernel
theorem dX10_order_69 : decode cX10_order 69 = .ok (.aload_n 0, 1) := by decide +kernel
theorem dX10_order_70 : decode cX10_order 70 = .ok (.iconst 0, 1) := by decide +kernel
theorem dX10_order_71 : decode cX10_order 71 = .ok (.putfield 302, 3) := by decide +kernel
theorem dX10_order_74 : decode cX10_order 74 = .ok (.aload_n 0, 1) := by decide +kernel
theorem dX10_order_75 : decode cX10_order 75 = .ok (.invokevirtual 315, 3) := by decide +kernel
theorem dX10_order_78 : decode cX10_order 78 = .ok (.bipush 10, 2) := by decide +kernel
theorem dX10_order_80 : decode cX10_order 80 = .ok (.aload_n 0, 1) := by decide +kernel
theorem dX10_order_81 : decode cX10_order 81 = .ok (.getfield 178, 3) := by decide +kernel
theorem dX10_order_84 : decode cX10_order 84 = .ok (.imul, 1) := by decide +kernel
theorem dX10_order_85 : decode cX10_order 85 = .ok (.istore_n 1, 1) := by decide +kernel
theorem dX10_order_86 : decode cX10_order 86 = .ok (.iconst 0, 1) := by decide +kernel
theorem dX10_order_87 : decode cX10_order 87 = .ok (.istore_n 2, 1) := by decide +kernel
theorem dX10_order_88 : decode cX10_order 88 = .ok (.aload_n 0, 1) := by decide +kernel
theorem dX10_order_89 : decode cX10_order 89 = .ok (.getfield 302, 3) := by decide +kernel
theorem dX10_order_92 : decode cX10_order 92 = .ok (.ifCond .ne 63, 3) := by decide +kernel
theorem dX10_order_95 : decode cX10_order 95 = .ok (.aload_n 0, 1) := by decide +kernel
theorem dX10_order_96 : decode cX10_order 96 = .ok (.ldc2_w 437, 3) := by decide +kernel
theorem dX10_order_99 : decode cX10_order 99 = .ok (.invokevirtual 320, 3) := by decide +kernel
theorem dX10_order_102 : decode cX10_order 102 = .ok (.ifCond .ne 53, 3) := by decide +kernel
theorem dX10_order_105 : decode cX10_order 105 = .ok (.iload_n 2, 1) := by decide +kernel
theorem dX10_order_106 : decode cX10_order 106 = .ok (.bipush 9, 2) := by decide +kernel
theorem dX10_order_108 : decode cX10_order 108 = .ok (.if_icmp .ne 10, 3) := by decide +kernel
theorem dX10_order_111 : decode cX10_order 111 = .ok (.aload_n 0, 1) := by decide +kernel
theorem dX10_order_112 : decode cX10_order 112 = .ok (.invokevirtual 312, 3) := by decide +kernel
theorem dX10_order_115 : decode cX10_order 115 = .ok (.goto 10, 3) := by decide +kernel
theorem dX10_order_118 : decode cX10_order 118 = .ok (.aload_n 0, 1) := by decide +kernel
theorem dX10_order_119 : decode cX10_order 119 = .ok (.iload_n 1, 1) := by decide +kernel
theorem dX10_order_120 : decode cX10_order 120 = .ok (.iload_n 2, 1) := by decide +kernel
theorem dX10_order_121 : decode cX10_order 121 = .ok (.iadd, 1) := by decide +kernel
theorem dX10_order_122 : decode cX10_order 122 = .ok (.invokevirtual 439, 3) := by decide +kernel
theorem dX10_order_125 : decode cX10_order 125 = .ok (.aload_n 0, 1) := by decide +kernel
theorem dX10_order_126 : decode cX10_order 126 = .ok (.bipush 59, 2) := by decide +kernel
theorem dX10_order_128 : decode cX10_order 128 = .ok (.invokevirtual 352, 3) := by decide +kernel
theorem dX10_order_131 : decode cX10_order 131 = .ok (.ifCond .ne 7, 3) := by decide +kernel
theorem dX10_order_134 : decode cX10_order 134 = .ok (.aload_n 0, 1) := by decide +kernel
theorem dX10_order_135 : decode cX10_order 135 = .ok (.invokevirtual 312, 3) := by decide +kernel
theorem dX10_order_138 : decode cX10_order 138 = .ok (.aload_n 0, 1) := by decide +kernel
theorem dX10_order_139 : decode cX10_order 139 = .ok (.getfield 302, 3) := by decide +kernel
theorem dX10_order_142 : decode cX10_order 142 = .ok (.ifCond .ne 7, 3) := by decide +kernel
theorem dX10_order_145 : decode cX10_order 145 = .ok (.aload_n 0, 1) := by decide +kernel
theorem dX10_order_146 : decode cX10_order 146 = .ok (.invokevirtual 315, 3) := by decide +kernel
theorem dX10_order_149 : decode cX10_order 149 = .ok (.iinc 2 1, 3) := by decide +kernel
theorem dX10_order_152 : decode cX10_order 152 = .ok (.goto (-64), 3) := by decide +kernel
theorem dX10_order_155 : decode cX10_order 155 = .ok (.aload_n 0, 1) := by decide +kernel
theorem dX10_order_156 : decode cX10_order 156 = .ok (.getfield 302, 3) := by decide +kernel
theorem dX10_order_159 : decode cX10_order 159 = .ok (.ifCond .ne 7, 3) := by decide +kernel
theorem dX10_order_162 : decode cX10_order 162 = .ok (.aload_n 0, 1) := by decide +kernel
theorem dX10_order_163 : decode cX10_order 163 = .ok (.invokevirtual 315, 3) := by decide +kernel
theorem dX10_order_166 : decode cX10_order 166 = .ok (.aload_n 0, 1) := by decide +kernel
theorem dX10_order_167 : decode cX10_order 167 = .ok (.getfield 302, 3) := by decide +kernel
theorem dX10_order_170 : decode cX10_order 170 = .ok (.ifCond .ne 14, 3) := by decide +kernel
theorem dX10_order_173 : decode cX10_order 173 = .ok (.aload_n 0, 1) := by decide +kernel
theorem dX10_order_174 : decode cX10_order 174 = .ok (.getfield 285, 3) := by decide +kernel
theorem dX10_order_177 : decode cX10_order 177 = .ok (.ifCond .eq 7, 3) := by decide +kernel
theorem dX10_order_180 : decode cX10_order 180 = .ok (.aload_n 0, 1) := by decide +kernel
theorem dX10_order_181 : decode cX10_order 181 = .ok (.invokevirtual 312, 3) := by decide +kernel
theorem dX10_order_184 : decode cX10_order 184 = .ok (.aload_n 0, 1) := by decide +kernel
theorem dX10_order_185 : decode cX10_order 185 = .ok (.getfield 302, 3) := by decide +kernel
theorem dX10_order_188 : decode cX10_order 188 = .ok (.ifCond .eq 11, 3) := by decide +kernel
theorem dX10_order_191 : decode cX10_order 191 = .ok (.bipush (-100), 2) := by decide +kernel
theorem dX10_order_193 : decode cX10_order 193 = .ok (.aload_n 0, 1) := by decide +kernel
theorem dX10_order_194 : decode cX10_order 194 = .ok (.getfield 306, 3) := by decide +kernel
theorem dX10_order_197 : decode cX10_order 197 = .ok (.isub, 1) := by decide +kernel
theorem dX10_order_198 : decode cX10_order 198 = .ok (.ireturn, 1) := by decide +kernel
theorem dX10_order_199 : decode cX10_order 199 = .ok (.aload_n 0, 1) := by decide +kernel
theorem dX10_order_200 : decode cX10_order 200 = .ok (.getfield 81, 3) := by decide +kernel
theorem dX10_order_203 : decode cX10_order 203 = .ok (.iload_n 1, 1) := by decide +kernel
theorem dX10_order_204 : decode cX10_order 204 = .ok (.iload_n 2, 1) := by decide +kernel
theorem dX10_order_205 : decode cX10_order 205 = .ok (.iadd, 1) := by decide +kernel
theorem dX10_order_206 : decode cX10_order 206 = .ok (.iconst 5, 1) := by decide +kernel
theorem dX10_order_207 : decode cX10_order 207 = .ok (.iastore, 1) := by decide +kernel
theorem dX10_order_208 : decode cX10_order 208 = .ok (.aload_n 0, 1) := by decide +kernel
theorem dX10_order_209 : decode cX10_order 209 = .ok (.getfield 84, 3) := by decide +kernel
theorem dX10_order_212 : decode cX10_order 212 = .ok (.iload_n 1, 1) := by decide +kernel
theorem dX10_order_213 : decode cX10_order 213 = .ok (.iload_n 2, 1) := by decide +kernel
theorem dX10_order_214 : decode cX10_order 214 = .ok (.iadd, 1) := by decide +kernel
theorem dX10_order_215 : decode cX10_order 215 = .ok (.iconst (-1), 1) := by decide +kernel
theorem dX10_order_216 : decode cX10_order 216 = .ok (.iastore, 1) := by decide +kernel
theorem dX10_order_217 : decode cX10_order 217 = .ok (.aload_n 0, 1) := by decide +kernel
theorem dX10_order_218 : decode cX10_order 218 = .ok (.getfield 87, 3) := by decide +kernel
theorem dX10_order_221 : decode cX10_order 221 = .ok (.iload_n 1, 1) := by decide +kernel
theorem dX10_order_222 : decode cX10_order 222 = .ok (.iload_n 2, 1) := by decide +kernel
theorem dX10_order_223 : decode cX10_order 223 = .ok (.iadd, 1) := by decide +kernel
theorem dX10_order_224 : decode cX10_order 224 = .ok (.iconst (-1), 1) := by decide +kernel
theorem dX10_order_225 : decode cX10_order 225 = .ok (.iastore, 1) := by decide +kernel
theorem dX10_order_226 : decode cX10_order 226 = .ok (.aload_n 0, 1) := by decide +kernel
theorem dX10_order_227 : decode cX10_order 227 = .ok (.getfield 90, 3) := by decide +kernel
theorem dX10_order_230 : decode cX10_order 230 = .ok (.iload_n 1, 1) := by decide +kernel
theorem dX10_order_231 : decode cX10_order 231 = .ok (.iload_n 2, 1) := by decide +kernel
theorem dX10_order_232 : decode cX10_order 232 = .ok (.iadd, 1) := by decide +kernel
theorem dX10_order_233 : decode cX10_order 233 = .ok (.iconst 0, 1) := by decide +kernel
theorem dX10_order_234 : decode cX10_order 234 = .ok (.iastore, 1) := by decide +kernel
theorem dX10_order_235 : decode cX10_order 235 = .ok (.aload_n 0, 1) := by decide +kernel
theorem dX10_order_236 : decode cX10_order 236 = .ok (.getfield 93, 3) := by decide +kernel
theorem dX10_order_239 : decode cX10_order 239 = .ok (.iload_n 1, 1) := by decide +kernel
theorem dX10_order_240 : decode cX10_order 240 = .ok (.iload_n 2, 1) := by decide +kernel
theorem dX10_order_241 : decode cX10_order 241 = .ok (.iadd, 1) := by decide +kernel
theorem dX10_order_242 : decode cX10_order 242 = .ok (.iconst (-1), 1) := by decide +kernel
theorem dX10_order_243 : decode cX10_order 243 = .ok (.iastore, 1) := by decide +kernel
theorem dX10_order_244 : decode cX10_order 244 = .ok (.aload_n 0, 1) := by decide +kernel
theorem dX10_order_245 : decode cX10_order 245 = .ok (.getfield 96, 3) := by decide +kernel
theorem dX10_order_248 : decode cX10_order 248 = .ok (.iload_n 1, 1) := by decide +kernel
theorem dX10_order_249 : decode cX10_order 249 = .ok (.iload_n 2, 1) := by decide +kernel
theorem dX10_order_250 : decode cX10_order 250 = .ok (.iadd, 1) := by decide +kernel
theorem dX10_order_251 : decode cX10_order 251 = .ok (.iconst (-1), 1) := by decide +kernel
theorem dX10_order_252 : decode cX10_order 252 = .ok (.iastore, 1) := by decide +kernel
theorem dX10_order_253 : decode cX10_order 253 = .ok (.aload_n 0, 1) := by decide +kernel
theorem dX10_order_254 : decode cX10_order 254 = .ok (.getfield 78, 3) := by decide +kernel
theorem dX10_order_257 : decode cX10_order 257 = .ok (.aload_n 0, 1) := by decide +kernel
theorem dX10_order_258 : decode cX10_order 258 = .ok (.getfield 178, 3) := by decide +kernel
theorem dX10_order_261 : decode cX10_order 261 = .ok (.iload_n 2, 1) := by decide +kernel
theorem dX10_order_262 : decode cX10_order 262 = .ok (.iconst 1, 1) := by decide +kernel
theorem dX10_order_263 : decode cX10_order 263 = .ok (.iadd, 1) := by decide +kernel
theorem dX10_order_264 : decode cX10_order 264 = .ok (.iastore, 1) := by decide +kernel
theorem dX10_order_265 : decode cX10_order 265 = .ok (.aload_n 0, 1) := by decide +kernel
theorem dX10_order_266 : decode cX10_order 266 = .ok (.dup, 1) := by decide +kernel
theorem dX10_order_267 : decode cX10_order 267 = .ok (.getfield 178, 3) := by decide +kernel
theorem dX10_order_270 : decode cX10_order 270 = .ok (.iconst 1, 1) := by decide +kernel
theorem dX10_order_271 : decode cX10_order 271 = .ok (.iadd, 1) := by decide +kernel
theorem dX10_order_272 : decode cX10_order 272 = .ok (.putfield 178, 3) := by decide +kernel
theorem dX10_order_275 : decode cX10_order 275 = .ok (.aload_n 0, 1) := by decide +kernel
theorem dX10_order_276 : decode cX10_order 276 = .ok (.getfield 178, 3) := by decide +kernel
theorem dX10_order_279 : decode cX10_order 279 = .ok (.iconst 1, 1) := by decide +kernel
theorem dX10_order_280 : decode cX10_order 280 = .ok (.isub, 1) := by decide +kernel
theorem dX10_order_281 : decode cX10_order 281 = .ok (.ireturn, 1) := by decide +kernel
theorem dX10_step_0 : decode cX10_step 0 = .ok (.iload_n 1, 1) := by decide +kernel
theorem dX10_step_1 : decode cX10_step 1 = .ok (.iconst 0, 1) := by decide +kernel
theorem dX10_step_2 : decode cX10_step 2 = .ok (.aload_n 0, 1) := by decide +kernel
theorem dX10_step_3 : decode cX10_step 3 = .ok (.getfield 178, 3) := by decide +kernel
theorem dX10_step_6 : decode cX10_step 6 = .ok (.iconst 1, 1) := by decide +kernel
theorem dX10_step_7 : decode cX10_step 7 = .ok (.isub, 1) := by decide +kernel
theorem dX10_step_8 : decode cX10_step 8 = .ok (.invokestatic 186, 3) := by decide +kernel
theorem dX10_step_11 : decode cX10_step 11 = .ok (.ifCond .eq 28, 3) := by decide +kernel
theorem dX10_step_14 : decode cX10_step 14 = .ok (.iload_n 2, 1) := by decide +kernel
theorem dX10_step_15 : decode cX10_step 15 = .ok (.iconst (-1), 1) := by decide +kernel
theorem dX10_step_16 : decode cX10_step 16 = .ok (.aload_n 0, 1) := by decide +kernel
theorem dX10_step_17 : decode cX10_step 17 = .ok (.getfield 78, 3) := by decide +kernel
theorem dX10_step_20 : decode cX10_step 20 = .ok (.iload_n 1, 1) := by decide +kernel
theorem dX10_step_21 : decode cX10_step 21 = .ok (.iaload, 1) := by decide +kernel
theorem dX10_step_22 : decode cX10_step 22 = .ok (.iconst 1, 1) := by decide +kernel
theorem dX10_step_23 : decode cX10_step 23 = .ok (.isub, 1) := by decide +kernel
theorem dX10_step_24 : decode cX10_step 24 = .ok (.invokestatic 186, 3) := by decide +kernel
theorem dX10_step_27 : decode cX10_step 27 = .ok (.ifCond .eq 12, 3) := by decide +kernel
theorem dX10_step_30 : decode cX10_step 30 = .ok (.iload_n 3, 1) := by decide +kernel
theorem dX10_step_31 : decode cX10_step 31 = .ok (.iconst 0, 1) := by decide +kernel
theorem dX10_step_32 : decode cX10_step 32 = .ok (.iconst 5, 1) := by decide +kernel
theorem dX10_step_33 : decode cX10_step 33 = .ok (.invokestatic 186, 3) := by decide +kernel
theorem dX10_step_36 : decode cX10_step 36 = .ok (.ifCond .ne 6, 3) := by decide +kernel
theorem dX10_step_39 : decode cX10_step 39 = .ok (.bipush (-2), 2) := by decide +kernel
theorem dX10_step_41 : decode cX10_step 41 = .ok (.ireturn, 1) := by decide +kernel
theorem dX10_step_42 : decode cX10_step 42 = .ok (.iload_n 2, 1) := by decide +kernel
theorem dX10_step_43 : decode cX10_step 43 = .ok (.ifCond .ge 10, 3) := by decide +kernel
theorem dX10_step_46 : decode cX10_step 46 = .ok (.aload_n 0, 1) := by decide +kernel
theorem dX10_step_47 : decode cX10_step 47 = .ok (.getfield 78, 3) := by decide +kernel
theorem dX10_step_50 : decode cX10_step 50 = .ok (.iload_n 1, 1) := by decide +kernel
theorem dX10_step_51 : decode cX10_step 51 = .ok (.iaload, 1) := by decide +kernel
theorem dX10_step_52 : decode cX10_step 52 = .ok (.ireturn, 1) := by decide +kernel
theorem dX10_step_53 : decode cX10_step 53 = .ok (.bipush 10, 2) := by decide +kernel
theorem dX10_step_55 : decode cX10_step 55 = .ok (.iload_n 1, 1) := by decide +kernel
theorem dX10_step_56 : decode cX10_step 56 = .ok (.imul, 1) := by decide +kernel
theorem dX10_step_57 : decode cX10_step 57 = .ok (.iload_n 2, 1) := by decide +kernel
theorem dX10_step_58 : decode cX10_step 58 = .ok (.iadd, 1) := by decide +kernel
theorem dX10_step_59 : decode cX10_step 59 = .ok (.istore 4, 2) := by decide +kernel
theorem dX10_step_61 : decode cX10_step 61 = .ok (.iload_n 3, 1) := by decide +kernel
theorem dX10_step_62 : decode cX10_step 62 = .ok (.tableswitch 74 0 4 #[34, 42, 50, 58, 66], 34) := by decide +kernel
theorem dX10_step_96 : decode cX10_step 96 = .ok (.aload_n 0, 1) := by decide +kernel
theorem dX10_step_97 : decode cX10_step 97 = .ok (.getfield 81, 3) := by decide +kernel
theorem dX10_step_100 : decode cX10_step 100 = .ok (.iload 4, 2) := by decide +kernel
theorem dX10_step_102 : decode cX10_step 102 = .ok (.iaload, 1) := by decide +kernel
theorem dX10_step_103 : decode cX10_step 103 = .ok (.ireturn, 1) := by decide +kernel
theorem dX10_step_104 : decode cX10_step 104 = .ok (.aload_n 0, 1) := by decide +kernel
theorem dX10_step_105 : decode cX10_step 105 = .ok (.getfield 84, 3) := by decide +kernel
theorem dX10_step_108 : decode cX10_step 108 = .ok (.iload 4, 2) := by decide +kernel
theorem dX10_step_110 : decode cX10_step 110 = .ok (.iaload, 1) := by decide +kernel
theorem dX10_step_111 : decode cX10_step 111 = .ok (.ireturn, 1) := by decide +kernel
theorem dX10_step_112 : decode cX10_step 112 = .ok (.aload_n 0, 1) := by decide +kernel
theorem dX10_step_113 : decode cX10_step 113 = .ok (.getfield 87, 3) := by decide +kernel
theorem dX10_step_116 : decode cX10_step 116 = .ok (.iload 4, 2) := by decide +kernel
theorem dX10_step_118 : decode cX10_step 118 = .ok (.iaload, 1) := by decide +kernel
theorem dX10_step_119 : decode cX10_step 119 = .ok (.ireturn, 1) := by decide +kernel
theorem dX10_step_120 : decode cX10_step 120 = .ok (.aload_n 0, 1) := by decide +kernel
theorem dX10_step_121 : decode cX10_step 121 = .ok (.getfield 90, 3) := by decide +kernel
theorem dX10_step_124 : decode cX10_step 124 = .ok (.iload 4, 2) := by decide +kernel
theorem dX10_step_126 : decode cX10_step 126 = .ok (.iaload, 1) := by decide +kernel
theorem dX10_step_127 : decode cX10_step 127 = .ok (.ireturn, 1) := by decide +kernel
theorem dX10_step_128 : decode cX10_step 128 = .ok (.aload_n 0, 1) := by decide +kernel
theorem dX10_step_129 : decode cX10_step 129 = .ok (.getfield 93, 3) := by decide +kernel
theorem dX10_step_132 : decode cX10_step 132 = .ok (.iload 4, 2) := by decide +kernel
theorem dX10_step_134 : decode cX10_step 134 = .ok (.iaload, 1) := by decide +kernel
theorem dX10_step_135 : decode cX10_step 135 = .ok (.ireturn, 1) := by decide +kernel
theorem dX10_step_136 : decode cX10_step 136 = .ok (.aload_n 0, 1) := by decide +kernel
theorem dX10_step_137 : decode cX10_step 137 = .ok (.getfield 96, 3) := by decide +kernel
theorem dX10_step_140 : decode cX10_step 140 = .ok (.iload 4, 2) := by decide +kernel
theorem dX10_step_142 : decode cX10_step 142 = .ok (.iaload, 1) := by decide +kernel
theorem dX10_step_143 : decode cX10_step 143 = .ok (.ireturn, 1) := by decide +kernel
theorem dX10_paper_0 : decode cX10_paper 0 = .ok (.iload_n 1, 1) := by decide +kernel
theorem dX10_paper_1 : decode cX10_paper 1 = .ok (.iconst 1, 1) := by decide +kernel
theorem dX10_paper_2 : decode cX10_paper 2 = .ok (.ldc_w 443, 3) := by decide +kernel
theorem dX10_paper_5 : decode cX10_paper 5 = .ok (.invokestatic 186, 3) := by decide +kernel
theorem dX10_paper_8 : decode cX10_paper 8 = .ok (.ifCond .eq 14, 3) := by decide +kernel
theorem dX10_paper_11 : decode cX10_paper 11 = .ok (.iload_n 2, 1) := by decide +kernel
theorem dX10_paper_12 : decode cX10_paper 12 = .ok (.iconst 0, 1) := by decide +kernel
theorem dX10_paper_13 : decode cX10_paper 13 = .ok (.sipush 200, 3) := by decide +kernel
theorem dX10_paper_16 : decode cX10_paper 16 = .ok (.invokestatic 186, 3) := by decide +kernel
theorem dX10_paper_19 : decode cX10_paper 19 = .ok (.ifCond .ne 6, 3) := by decide +kernel
theorem dX10_paper_22 : decode cX10_paper 22 = .ok (.bipush (-2), 2) := by decide +kernel
theorem dX10_paper_24 : decode cX10_paper 24 = .ok (.ireturn, 1) := by decide +kernel
theorem dX10_paper_25 : decode cX10_paper 25 = .ok (.aload_n 0, 1) := by decide +kernel
theorem dX10_paper_26 : decode cX10_paper 26 = .ok (.getfield 195, 3) := by decide +kernel
theorem dX10_paper_29 : decode cX10_paper 29 = .ok (.ifCond .le 6, 3) := by decide +kernel
theorem dX10_paper_32 : decode cX10_paper 32 = .ok (.bipush (-3), 2) := by decide +kernel
theorem dX10_paper_34 : decode cX10_paper 34 = .ok (.ireturn, 1) := by decide +kernel
theorem dX10_paper_35 : decode cX10_paper 35 = .ok (.aload_n 0, 1) := by decide +kernel
theorem dX10_paper_36 : decode cX10_paper 36 = .ok (.getfield 444, 3) := by decide +kernel
theorem dX10_paper_39 : decode cX10_paper 39 = .ok (.iconst 5, 1) := by decide +kernel
theorem dX10_paper_40 : decode cX10_paper 40 = .ok (.if_icmp .ne 6, 3) := by decide +kernel
theorem dX10_paper_43 : decode cX10_paper 43 = .ok (.bipush (-4), 2) := by decide +kernel
theorem dX10_paper_45 : decode cX10_paper 45 = .ok (.ireturn, 1) := by decide +kernel
theorem dX10_paper_46 : decode cX10_paper 46 = .ok (.aload_n 0, 1) := by decide +kernel
theorem dX10_paper_47 : decode cX10_paper 47 = .ok (.getfield 99, 3) := by decide +kernel
theorem dX10_paper_50 : decode cX10_paper 50 = .ok (.aload_n 0, 1) := by decide +kernel
theorem dX10_paper_51 : decode cX10_paper 51 = .ok (.getfield 444, 3) := by decide +kernel
theorem dX10_paper_54 : decode cX10_paper 54 = .ok (.iload_n 1, 1) := by decide +kernel
theorem dX10_paper_55 : decode cX10_paper 55 = .ok (.i2l, 1) := by decide +kernel
theorem dX10_paper_56 : decode cX10_paper 56 = .ok (.lastore, 1) := by decide +kernel
theorem dX10_paper_57 : decode cX10_paper 57 = .ok (.aload_n 0, 1) := by decide +kernel
theorem dX10_paper_58 : decode cX10_paper 58 = .ok (.getfield 102, 3) := by decide +kernel
theorem dX10_paper_61 : decode cX10_paper 61 = .ok (.aload_n 0, 1) := by decide +kernel
theorem dX10_paper_62 : decode cX10_paper 62 = .ok (.getfield 444, 3) := by decide +kernel
theorem dX10_paper_65 : decode cX10_paper 65 = .ok (.iload_n 2, 1) := by decide +kernel
theorem dX10_paper_66 : decode cX10_paper 66 = .ok (.iastore, 1) := by decide +kernel
theorem dX10_paper_67 : decode cX10_paper 67 = .ok (.aload_n 0, 1) := by decide +kernel
theorem dX10_paper_68 : decode cX10_paper 68 = .ok (.getfield 105, 3) := by decide +kernel
theorem dX10_paper_71 : decode cX10_paper 71 = .ok (.aload_n 0, 1) := by decide +kernel
theorem dX10_paper_72 : decode cX10_paper 72 = .ok (.getfield 444, 3) := by decide +kernel
theorem dX10_paper_75 : decode cX10_paper 75 = .ok (.iload_n 1, 1) := by decide +kernel
theorem dX10_paper_76 : decode cX10_paper 76 = .ok (.i2l, 1) := by decide +kernel
theorem dX10_paper_77 : decode cX10_paper 77 = .ok (.lastore, 1) := by decide +kernel
theorem dX10_paper_78 : decode cX10_paper 78 = .ok (.aload_n 0, 1) := by decide +kernel
theorem dX10_paper_79 : decode cX10_paper 79 = .ok (.dup, 1) := by decide +kernel
theorem dX10_paper_80 : decode cX10_paper 80 = .ok (.getfield 444, 3) := by decide +kernel
theorem dX10_paper_83 : decode cX10_paper 83 = .ok (.iconst 1, 1) := by decide +kernel
theorem dX10_paper_84 : decode cX10_paper 84 = .ok (.iadd, 1) := by decide +kernel
theorem dX10_paper_85 : decode cX10_paper 85 = .ok (.putfield 444, 3) := by decide +kernel
theorem dX10_paper_88 : decode cX10_paper 88 = .ok (.aload_n 0, 1) := by decide +kernel
theorem dX10_paper_89 : decode cX10_paper 89 = .ok (.getfield 444, 3) := by decide +kernel
theorem dX10_paper_92 : decode cX10_paper 92 = .ok (.iconst 1, 1) := by decide +kernel
theorem dX10_paper_93 : decode cX10_paper 93 = .ok (.isub, 1) := by decide +kernel
theorem dX10_paper_94 : decode cX10_paper 94 = .ok (.ireturn, 1) := by decide +kernel
theorem dX10_isPaper_0 : decode cX10_isPaper 0 = .ok (.iload_n 1, 1) := by decide +kernel
theorem dX10_isPaper_1 : decode cX10_isPaper 1 = .ok (.iconst 0, 1) := by decide +kernel
theorem dX10_isPaper_2 : decode cX10_isPaper 2 = .ok (.aload_n 0, 1) := by decide +kernel
theorem dX10_isPaper_3 : decode cX10_isPaper 3 = .ok (.getfield 444, 3) := by decide +kernel
theorem dX10_isPaper_6 : decode cX10_isPaper 6 = .ok (.iconst 1, 1) := by decide +kernel
theorem dX10_isPaper_7 : decode cX10_isPaper 7 = .ok (.isub, 1) := by decide +kernel
theorem dX10_isPaper_8 : decode cX10_isPaper 8 = .ok (.invokestatic 186, 3) := by decide +kernel
theorem dX10_isPaper_11 : decode cX10_isPaper 11 = .ok (.ireturn, 1) := by decide +kernel
theorem dX10_paperTold_0 : decode cX10_paperTold 0 = .ok (.aload_n 0, 1) := by decide +kernel
theorem dX10_paperTold_1 : decode cX10_paperTold 1 = .ok (.iload_n 1, 1) := by decide +kernel
theorem dX10_paperTold_2 : decode cX10_paperTold 2 = .ok (.invokevirtual 447, 3) := by decide +kernel
theorem dX10_paperTold_5 : decode cX10_paperTold 5 = .ok (.ifCond .ne 6, 3) := by decide +kernel
theorem dX10_paperTold_8 : decode cX10_paperTold 8 = .ok (.bipush (-2), 2) := by decide +kernel
theorem dX10_paperTold_10 : decode cX10_paperTold 10 = .ok (.ireturn, 1) := by decide +kernel
theorem dX10_paperTold_11 : decode cX10_paperTold 11 = .ok (.iload_n 2, 1) := by decide +kernel
theorem dX10_paperTold_12 : decode cX10_paperTold 12 = .ok (.tableswitch 87 0 5 #[40, 48, 55, 63, 71, 79], 40) := by decide +kernel
theorem dX10_paperTold_52 : decode cX10_paperTold 52 = .ok (.aload_n 0, 1) := by decide +kernel
theorem dX10_paperTold_53 : decode cX10_paperTold 53 = .ok (.getfield 105, 3) := by decide +kernel
theorem dX10_paperTold_56 : decode cX10_paperTold 56 = .ok (.iload_n 1, 1) := by decide +kernel
theorem dX10_paperTold_57 : decode cX10_paperTold 57 = .ok (.laload, 1) := by decide +kernel
theorem dX10_paperTold_58 : decode cX10_paperTold 58 = .ok (.l2i, 1) := by decide +kernel
theorem dX10_paperTold_59 : decode cX10_paperTold 59 = .ok (.ireturn, 1) := by decide +kernel
theorem dX10_paperTold_60 : decode cX10_paperTold 60 = .ok (.aload_n 0, 1) := by decide +kernel
theorem dX10_paperTold_61 : decode cX10_paperTold 61 = .ok (.getfield 102, 3) := by decide +kernel
theorem dX10_paperTold_64 : decode cX10_paperTold 64 = .ok (.iload_n 1, 1) := by decide +kernel
theorem dX10_paperTold_65 : decode cX10_paperTold 65 = .ok (.iaload, 1) := by decide +kernel
theorem dX10_paperTold_66 : decode cX10_paperTold 66 = .ok (.ireturn, 1) := by decide +kernel
theorem dX10_paperTold_67 : decode cX10_paperTold 67 = .ok (.aload_n 0, 1) := by decide +kernel
theorem dX10_paperTold_68 : decode cX10_paperTold 68 = .ok (.getfield 108, 3) := by decide +kernel
theorem dX10_paperTold_71 : decode cX10_paperTold 71 = .ok (.iload_n 1, 1) := by decide +kernel
theorem dX10_paperTold_72 : decode cX10_paperTold 72 = .ok (.laload, 1) := by decide +kernel
theorem dX10_paperTold_73 : decode cX10_paperTold 73 = .ok (.l2i, 1) := by decide +kernel
theorem dX10_paperTold_74 : decode cX10_paperTold 74 = .ok (.ireturn, 1) := by decide +kernel
theorem dX10_paperTold_75 : decode cX10_paperTold 75 = .ok (.aload_n 0, 1) := by decide +kernel
theorem dX10_paperTold_76 : decode cX10_paperTold 76 = .ok (.getfield 111, 3) := by decide +kernel
theorem dX10_paperTold_79 : decode cX10_paperTold 79 = .ok (.iload_n 1, 1) := by decide +kernel
theorem dX10_paperTold_80 : decode cX10_paperTold 80 = .ok (.laload, 1) := by decide +kernel
theorem dX10_paperTold_81 : decode cX10_paperTold 81 = .ok (.l2i, 1) := by decide +kernel
theorem dX10_paperTold_82 : decode cX10_paperTold 82 = .ok (.ireturn, 1) := by decide +kernel
theorem dX10_paperTold_83 : decode cX10_paperTold 83 = .ok (.aload_n 0, 1) := by decide +kernel
theorem dX10_paperTold_84 : decode cX10_paperTold 84 = .ok (.getfield 114, 3) := by decide +kernel
theorem dX10_paperTold_87 : decode cX10_paperTold 87 = .ok (.iload_n 1, 1) := by decide +kernel
theorem dX10_paperTold_88 : decode cX10_paperTold 88 = .ok (.laload, 1) := by decide +kernel
theorem dX10_paperTold_89 : decode cX10_paperTold 89 = .ok (.l2i, 1) := by decide +kernel
theorem dX10_paperTold_90 : decode cX10_paperTold 90 = .ok (.ireturn, 1) := by decide +kernel
theorem dX10_paperTold_91 : decode cX10_paperTold 91 = .ok (.aload_n 0, 1) := by decide +kernel
theorem dX10_paperTold_92 : decode cX10_paperTold 92 = .ok (.getfield 120, 3) := by decide +kernel
theorem dX10_paperTold_95 : decode cX10_paperTold 95 = .ok (.iload_n 1, 1) := by decide +kernel
theorem dX10_paperTold_96 : decode cX10_paperTold 96 = .ok (.laload, 1) := by decide +kernel
theorem dX10_paperTold_97 : decode cX10_paperTold 97 = .ok (.l2i, 1) := by decide +kernel
theorem dX10_paperTold_98 : decode cX10_paperTold 98 = .ok (.ireturn, 1) := by decide +kernel
theorem dX10_paperTold_99 : decode cX10_paperTold 99 = .ok (.bipush (-2), 2) := by decide +kernel
theorem dX10_paperTold_101 : decode cX10_paperTold 101 = .ok (.ireturn, 1) := by decide +kernel
theorem dX10_divisor_0 : decode cX10_divisor 0 = .ok (.lload_n 0, 1) := by decide +kernel
theorem dX10_divisor_1 : decode cX10_divisor 1 = .ok (.lstore 4, 2) := by decide +kernel
theorem dX10_divisor_3 : decode cX10_divisor 3 = .ok (.lload_n 2, 1) := by decide +kernel
theorem dX10_divisor_4 : decode cX10_divisor 4 = .ok (.lstore 6, 2) := by decide +kernel
theorem dX10_divisor_6 : decode cX10_divisor 6 = .ok (.lload 6, 2) := by decide +kernel
theorem dX10_divisor_8 : decode cX10_divisor 8 = .ok (.lconst 0, 1) := by decide +kernel
theorem dX10_divisor_9 : decode cX10_divisor 9 = .ok (.lcmp, 1) := by decide +kernel
theorem dX10_divisor_10 : decode cX10_divisor 10 = .ok (.ifCond .eq 21, 3) := by decide +kernel
theorem dX10_divisor_13 : decode cX10_divisor 13 = .ok (.lload 4, 2) := by decide +kernel
theorem dX10_divisor_15 : decode cX10_divisor 15 = .ok (.lload 6, 2) := by decide +kernel
theorem dX10_divisor_17 : decode cX10_divisor 17 = .ok (.lrem, 1) := by decide +kernel
theorem dX10_divisor_18 : decode cX10_divisor 18 = .ok (.lstore 8, 2) := by decide +kernel
theorem dX10_divisor_20 : decode cX10_divisor 20 = .ok (.lload 6, 2) := by decide +kernel
theorem dX10_divisor_22 : decode cX10_divisor 22 = .ok (.lstore 4, 2) := by decide +kernel
theorem dX10_divisor_24 : decode cX10_divisor 24 = .ok (.lload 8, 2) := by decide +kernel
theorem dX10_divisor_26 : decode cX10_divisor 26 = .ok (.lstore 6, 2) := by decide +kernel
theorem dX10_divisor_28 : decode cX10_divisor 28 = .ok (.goto (-22), 3) := by decide +kernel
theorem dX10_divisor_31 : decode cX10_divisor 31 = .ok (.lload 4, 2) := by decide +kernel
theorem dX10_divisor_33 : decode cX10_divisor 33 = .ok (.lreturn, 1) := by decide +kernel
theorem dX10_life_0 : decode cX10_life 0 = .ok (.aload_n 0, 1) := by decide +kernel
theorem dX10_life_1 : decode cX10_life 1 = .ok (.iload_n 1, 1) := by decide +kernel
theorem dX10_life_2 : decode cX10_life 2 = .ok (.invokevirtual 447, 3) := by decide +kernel
theorem dX10_life_5 : decode cX10_life 5 = .ok (.ifCond .eq 12, 3) := by decide +kernel
theorem dX10_life_8 : decode cX10_life 8 = .ok (.iload_n 2, 1) := by decide +kernel
theorem dX10_life_9 : decode cX10_life 9 = .ok (.iconst 0, 1) := by decide +kernel
theorem dX10_life_10 : decode cX10_life 10 = .ok (.iconst 1, 1) := by decide +kernel
theorem dX10_life_11 : decode cX10_life 11 = .ok (.invokestatic 186, 3) := by decide +kernel
theorem dX10_life_14 : decode cX10_life 14 = .ok (.ifCond .ne 7, 3) := by decide +kernel
theorem dX10_life_17 : decode cX10_life 17 = .ok (.ldc2_w 406, 3) := by decide +kernel
theorem dX10_life_20 : decode cX10_life 20 = .ok (.lreturn, 1) := by decide +kernel
theorem dX10_life_21 : decode cX10_life 21 = .ok (.aload_n 0, 1) := by decide +kernel
theorem dX10_life_22 : decode cX10_life 22 = .ok (.getfield 114, 3) := by decide +kernel
theorem dX10_life_25 : decode cX10_life 25 = .ok (.iload_n 1, 1) := by decide +kernel
theorem dX10_life_26 : decode cX10_life 26 = .ok (.laload, 1) := by decide +kernel
theorem dX10_life_27 : decode cX10_life 27 = .ok (.lconst 0, 1) := by decide +kernel
theorem dX10_life_28 : decode cX10_life 28 = .ok (.lcmp, 1) := by decide +kernel
theorem dX10_life_29 : decode cX10_life 29 = .ok (.ifCond .ne 6, 3) := by decide +kernel
theorem dX10_life_32 : decode cX10_life 32 = .ok (.iload_n 2, 1) := by decide +kernel
theorem dX10_life_33 : decode cX10_life 33 = .ok (.i2l, 1) := by decide +kernel
theorem dX10_life_34 : decode cX10_life 34 = .ok (.lreturn, 1) := by decide +kernel
theorem dX10_life_35 : decode cX10_life 35 = .ok (.aload_n 0, 1) := by decide +kernel
theorem dX10_life_36 : decode cX10_life 36 = .ok (.getfield 117, 3) := by decide +kernel
theorem dX10_life_39 : decode cX10_life 39 = .ok (.iload_n 1, 1) := by decide +kernel
theorem dX10_life_40 : decode cX10_life 40 = .ok (.laload, 1) := by decide +kernel
theorem dX10_life_41 : decode cX10_life 41 = .ok (.aload_n 0, 1) := by decide +kernel
theorem dX10_life_42 : decode cX10_life 42 = .ok (.getfield 114, 3) := by decide +kernel
theorem dX10_life_45 : decode cX10_life 45 = .ok (.iload_n 1, 1) := by decide +kernel
theorem dX10_life_46 : decode cX10_life 46 = .ok (.laload, 1) := by decide +kernel
theorem dX10_life_47 : decode cX10_life 47 = .ok (.invokestatic 450, 3) := by decide +kernel
theorem dX10_life_50 : decode cX10_life 50 = .ok (.lstore_n 3, 1) := by decide +kernel
theorem dX10_life_51 : decode cX10_life 51 = .ok (.iload_n 2, 1) := by decide +kernel
theorem dX10_life_52 : decode cX10_life 52 = .ok (.ifCond .ne 14, 3) := by decide +kernel
theorem dX10_life_55 : decode cX10_life 55 = .ok (.aload_n 0, 1) := by decide +kernel
theorem dX10_life_56 : decode cX10_life 56 = .ok (.getfield 117, 3) := by decide +kernel
theorem dX10_life_59 : decode cX10_life 59 = .ok (.iload_n 1, 1) := by decide +kernel
theorem dX10_life_60 : decode cX10_life 60 = .ok (.laload, 1) := by decide +kernel
theorem dX10_life_61 : decode cX10_life 61 = .ok (.lload_n 3, 1) := by decide +kernel
theorem dX10_life_62 : decode cX10_life 62 = .ok (.ldiv, 1) := by decide +kernel
theorem dX10_life_63 : decode cX10_life 63 = .ok (.goto 11, 3) := by decide +kernel
theorem dX10_life_66 : decode cX10_life 66 = .ok (.aload_n 0, 1) := by decide +kernel
theorem dX10_life_67 : decode cX10_life 67 = .ok (.getfield 114, 3) := by decide +kernel
theorem dX10_life_70 : decode cX10_life 70 = .ok (.iload_n 1, 1) := by decide +kernel
theorem dX10_life_71 : decode cX10_life 71 = .ok (.laload, 1) := by decide +kernel
theorem dX10_life_72 : decode cX10_life 72 = .ok (.lload_n 3, 1) := by decide +kernel
theorem dX10_life_73 : decode cX10_life 73 = .ok (.ldiv, 1) := by decide +kernel
theorem dX10_life_74 : decode cX10_life 74 = .ok (.lreturn, 1) := by decide +kernel
theorem dX10_trip_0 : decode cX10_trip 0 = .ok (.iload_n 1, 1) := by decide +kernel
theorem dX10_trip_1 : decode cX10_trip 1 = .ok (.iconst 0, 1) := by decide +kernel
theorem dX10_trip_2 : decode cX10_trip 2 = .ok (.sipush 1000, 3) := by decide +kernel
theorem dX10_trip_5 : decode cX10_trip 5 = .ok (.invokestatic 186, 3) := by decide +kernel
theorem dX10_trip_8 : decode cX10_trip 8 = .ok (.ifCond .eq 13, 3) := by decide +kernel
theorem dX10_trip_11 : decode cX10_trip 11 = .ok (.iload_n 2, 1) := by decide +kernel
theorem dX10_trip_12 : decode cX10_trip 12 = .ok (.iconst 1, 1) := by decide +kernel
theorem dX10_trip_13 : decode cX10_trip 13 = .ok (.bipush 12, 2) := by decide +kernel
theorem dX10_trip_15 : decode cX10_trip 15 = .ok (.invokestatic 186, 3) := by decide +kernel
theorem dX10_trip_18 : decode cX10_trip 18 = .ok (.ifCond .ne 6, 3) := by decide +kernel
theorem dX10_trip_21 : decode cX10_trip 21 = .ok (.bipush (-2), 2) := by decide +kernel
theorem dX10_trip_23 : decode cX10_trip 23 = .ok (.ireturn, 1) := by decide +kernel
theorem dX10_trip_24 : decode cX10_trip 24 = .ok (.aload_n 0, 1) := by decide +kernel
theorem dX10_trip_25 : decode cX10_trip 25 = .ok (.iload_n 1, 1) := by decide +kernel
theorem dX10_trip_26 : decode cX10_trip 26 = .ok (.putfield 129, 3) := by decide +kernel
theorem dX10_trip_29 : decode cX10_trip 29 = .ok (.aload_n 0, 1) := by decide +kernel
theorem dX10_trip_30 : decode cX10_trip 30 = .ok (.iload_n 2, 1) := by decide +kernel
theorem dX10_trip_31 : decode cX10_trip 31 = .ok (.putfield 132, 3) := by decide +kernel
theorem dX10_trip_34 : decode cX10_trip 34 = .ok (.iconst 1, 1) := by decide +kernel
theorem dX10_trip_35 : decode cX10_trip 35 = .ok (.ireturn, 1) := by decide +kernel
theorem dX10_lostNow_0 : decode cX10_lostNow 0 = .ok (.aload_n 0, 1) := by decide +kernel
theorem dX10_lostNow_1 : decode cX10_lostNow 1 = .ok (.getfield 57, 3) := by decide +kernel
theorem dX10_lostNow_4 : decode cX10_lostNow 4 = .ok (.iconst 1, 1) := by decide +kernel
theorem dX10_lostNow_5 : decode cX10_lostNow 5 = .ok (.laload, 1) := by decide +kernel
theorem dX10_lostNow_6 : decode cX10_lostNow 6 = .ok (.lconst 0, 1) := by decide +kernel
theorem dX10_lostNow_7 : decode cX10_lostNow 7 = .ok (.lcmp, 1) := by decide +kernel
theorem dX10_lostNow_8 : decode cX10_lostNow 8 = .ok (.ifCond .ne 7, 3) := by decide +kernel
theorem dX10_lostNow_11 : decode cX10_lostNow 11 = .ok (.lconst 0, 1) := by decide +kernel
theorem dX10_lostNow_12 : decode cX10_lostNow 12 = .ok (.goto 18, 3) := by decide +kernel
theorem dX10_lostNow_15 : decode cX10_lostNow 15 = .ok (.aload_n 0, 1) := by decide +kernel
theorem dX10_lostNow_16 : decode cX10_lostNow 16 = .ok (.getfield 454, 3) := by decide +kernel
theorem dX10_lostNow_19 : decode cX10_lostNow 19 = .ok (.ldc2_w 228, 3) := by decide +kernel
theorem dX10_lostNow_22 : decode cX10_lostNow 22 = .ok (.lmul, 1) := by decide +kernel
theorem dX10_lostNow_23 : decode cX10_lostNow 23 = .ok (.aload_n 0, 1) := by decide +kernel
theorem dX10_lostNow_24 : decode cX10_lostNow 24 = .ok (.getfield 57, 3) := by decide +kernel
theorem dX10_lostNow_27 : decode cX10_lostNow 27 = .ok (.iconst 1, 1) := by decide +kernel
theorem dX10_lostNow_28 : decode cX10_lostNow 28 = .ok (.laload, 1) := by decide +kernel
theorem dX10_lostNow_29 : decode cX10_lostNow 29 = .ok (.ldiv, 1) := by decide +kernel
theorem dX10_lostNow_30 : decode cX10_lostNow 30 = .ok (.lreturn, 1) := by decide +kernel
theorem dX10_field_0 : decode cX10_field 0 = .ok (.iload_n 1, 1) := by decide +kernel
theorem dX10_field_1 : decode cX10_field 1 = .ok (.tableswitch 103 0 3 #[31, 34, 42, 47], 31) := by decide +kernel
theorem dX10_field_32 : decode cX10_field 32 = .ok (.iload_n 2, 1) := by decide +kernel
theorem dX10_field_33 : decode cX10_field 33 = .ok (.i2l, 1) := by decide +kernel
theorem dX10_field_34 : decode cX10_field 34 = .ok (.lreturn, 1) := by decide +kernel
theorem dX10_field_35 : decode cX10_field 35 = .ok (.aload_n 0, 1) := by decide +kernel
theorem dX10_field_36 : decode cX10_field 36 = .ok (.getfield 66, 3) := by decide +kernel
theorem dX10_field_39 : decode cX10_field 39 = .ok (.iload_n 2, 1) := by decide +kernel
theorem dX10_field_40 : decode cX10_field 40 = .ok (.iaload, 1) := by decide +kernel
theorem dX10_field_41 : decode cX10_field 41 = .ok (.i2l, 1) := by decide +kernel
theorem dX10_field_42 : decode cX10_field 42 = .ok (.lreturn, 1) := by decide +kernel
theorem dX10_field_43 : decode cX10_field 43 = .ok (.aload_n 0, 1) := by decide +kernel
theorem dX10_field_44 : decode cX10_field 44 = .ok (.invokevirtual 457, 3) := by decide +kernel
theorem dX10_field_47 : decode cX10_field 47 = .ok (.lreturn, 1) := by decide +kernel
theorem dX10_field_48 : decode cX10_field 48 = .ok (.aload_n 0, 1) := by decide +kernel
theorem dX10_field_49 : decode cX10_field 49 = .ok (.getfield 444, 3) := by decide +kernel
theorem dX10_field_52 : decode cX10_field 52 = .ok (.ifCond .eq 14, 3) := by decide +kernel
theorem dX10_field_55 : decode cX10_field 55 = .ok (.aload_n 0, 1) := by decide +kernel
theorem dX10_field_56 : decode cX10_field 56 = .ok (.getfield 105, 3) := by decide +kernel
theorem dX10_field_59 : decode cX10_field 59 = .ok (.iconst 0, 1) := by decide +kernel
theorem dX10_field_60 : decode cX10_field 60 = .ok (.laload, 1) := by decide +kernel
theorem dX10_field_61 : decode cX10_field 61 = .ok (.lconst 0, 1) := by decide +kernel
theorem dX10_field_62 : decode cX10_field 62 = .ok (.lcmp, 1) := by decide +kernel
theorem dX10_field_63 : decode cX10_field 63 = .ok (.ifCond .ne 7, 3) := by decide +kernel
theorem dX10_field_66 : decode cX10_field 66 = .ok (.ldc2_w 461, 3) := by decide +kernel
theorem dX10_field_69 : decode cX10_field 69 = .ok (.lreturn, 1) := by decide +kernel
theorem dX10_field_70 : decode cX10_field 70 = .ok (.ldc2_w 262, 3) := by decide +kernel
theorem dX10_field_73 : decode cX10_field 73 = .ok (.aload_n 0, 1) := by decide +kernel
theorem dX10_field_74 : decode cX10_field 74 = .ok (.getfield 60, 3) := by decide +kernel
theorem dX10_field_77 : decode cX10_field 77 = .ok (.iload_n 2, 1) := by decide +kernel
theorem dX10_field_78 : decode cX10_field 78 = .ok (.laload, 1) := by decide +kernel
theorem dX10_field_79 : decode cX10_field 79 = .ok (.lmul, 1) := by decide +kernel
theorem dX10_field_80 : decode cX10_field 80 = .ok (.aload_n 0, 1) := by decide +kernel
theorem dX10_field_81 : decode cX10_field 81 = .ok (.getfield 105, 3) := by decide +kernel
theorem dX10_field_84 : decode cX10_field 84 = .ok (.iconst 0, 1) := by decide +kernel
theorem dX10_field_85 : decode cX10_field 85 = .ok (.laload, 1) := by decide +kernel
theorem dX10_field_86 : decode cX10_field 86 = .ok (.ldiv, 1) := by decide +kernel
theorem dX10_field_87 : decode cX10_field 87 = .ok (.lstore_n 3, 1) := by decide +kernel
theorem dX10_field_88 : decode cX10_field 88 = .ok (.lload_n 3, 1) := by decide +kernel
theorem dX10_field_89 : decode cX10_field 89 = .ok (.ldc2_w 461, 3) := by decide +kernel
theorem dX10_field_92 : decode cX10_field 92 = .ok (.lcmp, 1) := by decide +kernel
theorem dX10_field_93 : decode cX10_field 93 = .ok (.ifCond .le 9, 3) := by decide +kernel
theorem dX10_field_96 : decode cX10_field 96 = .ok (.ldc2_w 461, 3) := by decide +kernel
theorem dX10_field_99 : decode cX10_field 99 = .ok (.goto 4, 3) := by decide +kernel
theorem dX10_field_102 : decode cX10_field 102 = .ok (.lload_n 3, 1) := by decide +kernel
theorem dX10_field_103 : decode cX10_field 103 = .ok (.lreturn, 1) := by decide +kernel
theorem dX10_field_104 : decode cX10_field 104 = .ok (.aload_n 0, 1) := by decide +kernel
theorem dX10_field_105 : decode cX10_field 105 = .ok (.getfield 463, 3) := by decide +kernel
theorem dX10_field_108 : decode cX10_field 108 = .ok (.ifCond .eq 7, 3) := by decide +kernel
theorem dX10_field_111 : decode cX10_field 111 = .ok (.lconst 1, 1) := by decide +kernel
theorem dX10_field_112 : decode cX10_field 112 = .ok (.goto 4, 3) := by decide +kernel
theorem dX10_field_115 : decode cX10_field 115 = .ok (.lconst 0, 1) := by decide +kernel
theorem dX10_field_116 : decode cX10_field 116 = .ok (.lreturn, 1) := by decide +kernel
theorem dX10_isSo_0 : decode cX10_isSo 0 = .ok (.aload_n 0, 1) := by decide +kernel
theorem dX10_isSo_1 : decode cX10_isSo 1 = .ok (.getfield 90, 3) := by decide +kernel
theorem dX10_isSo_4 : decode cX10_isSo 4 = .ok (.iload_n 1, 1) := by decide +kernel
theorem dX10_isSo_5 : decode cX10_isSo 5 = .ok (.iaload, 1) := by decide +kernel
theorem dX10_isSo_6 : decode cX10_isSo 6 = .ok (.istore_n 3, 1) := by decide +kernel
theorem dX10_isSo_7 : decode cX10_isSo 7 = .ok (.iload_n 3, 1) := by decide +kernel
theorem dX10_isSo_8 : decode cX10_isSo 8 = .ok (.ifCond .ne 5, 3) := by decide +kernel
theorem dX10_isSo_11 : decode cX10_isSo 11 = .ok (.iconst 1, 1) := by decide +kernel
theorem dX10_isSo_12 : decode cX10_isSo 12 = .ok (.ireturn, 1) := by decide +kernel
theorem dX10_isSo_13 : decode cX10_isSo 13 = .ok (.aload_n 0, 1) := by decide +kernel
theorem dX10_isSo_14 : decode cX10_isSo 14 = .ok (.aload_n 0, 1) := by decide +kernel
theorem dX10_isSo_15 : decode cX10_isSo 15 = .ok (.getfield 93, 3) := by decide +kernel
theorem dX10_isSo_18 : decode cX10_isSo 18 = .ok (.iload_n 1, 1) := by decide +kernel
theorem dX10_isSo_19 : decode cX10_isSo 19 = .ok (.iaload, 1) := by decide +kernel
theorem dX10_isSo_20 : decode cX10_isSo 20 = .ok (.iload_n 2, 1) := by decide +kernel
theorem dX10_isSo_21 : decode cX10_isSo 21 = .ok (.invokevirtual 466, 3) := by decide +kernel
theorem dX10_isSo_24 : decode cX10_isSo 24 = .ok (.lstore 4, 2) := by decide +kernel
theorem dX10_isSo_26 : decode cX10_isSo 26 = .ok (.iload_n 3, 1) := by decide +kernel
theorem dX10_isSo_27 : decode cX10_isSo 27 = .ok (.iconst 2, 1) := by decide +kernel
theorem dX10_isSo_28 : decode cX10_isSo 28 = .ok (.irem, 1) := by decide +kernel
theorem dX10_isSo_29 : decode cX10_isSo 29 = .ok (.iconst 1, 1) := by decide +kernel
theorem dX10_isSo_30 : decode cX10_isSo 30 = .ok (.if_icmp .ne 24, 3) := by decide +kernel
theorem dX10_isSo_33 : decode cX10_isSo 33 = .ok (.lload 4, 2) := by decide +kernel
theorem dX10_isSo_35 : decode cX10_isSo 35 = .ok (.aload_n 0, 1) := by decide +kernel
theorem dX10_isSo_36 : decode cX10_isSo 36 = .ok (.getfield 96, 3) := by decide +kernel
theorem dX10_isSo_39 : decode cX10_isSo 39 = .ok (.iload_n 1, 1) := by decide +kernel
theorem dX10_isSo_40 : decode cX10_isSo 40 = .ok (.iaload, 1) := by decide +kernel
theorem dX10_isSo_41 : decode cX10_isSo 41 = .ok (.i2l, 1) := by decide +kernel
theorem dX10_isSo_42 : decode cX10_isSo 42 = .ok (.lcmp, 1) := by decide +kernel
theorem dX10_isSo_43 : decode cX10_isSo 43 = .ok (.ifCond .ge 7, 3) := by decide +kernel
theorem dX10_isSo_46 : decode cX10_isSo 46 = .ok (.iconst 1, 1) := by decide +kernel
theorem dX10_isSo_47 : decode cX10_isSo 47 = .ok (.goto 25, 3) := by decide +kernel
theorem dX10_isSo_50 : decode cX10_isSo 50 = .ok (.iconst 0, 1) := by decide +kernel
theorem dX10_isSo_51 : decode cX10_isSo 51 = .ok (.goto 21, 3) := by decide +kernel
theorem dX10_isSo_54 : decode cX10_isSo 54 = .ok (.lload 4, 2) := by decide +kernel
theorem dX10_isSo_56 : decode cX10_isSo 56 = .ok (.aload_n 0, 1) := by decide +kernel
theorem dX10_isSo_57 : decode cX10_isSo 57 = .ok (.getfield 96, 3) := by decide +kernel
theorem dX10_isSo_60 : decode cX10_isSo 60 = .ok (.iload_n 1, 1) := by decide +kernel
theorem dX10_isSo_61 : decode cX10_isSo 61 = .ok (.iaload, 1) := by decide +kernel
theorem dX10_isSo_62 : decode cX10_isSo 62 = .ok (.i2l, 1) := by decide +kernel
theorem dX10_isSo_63 : decode cX10_isSo 63 = .ok (.lcmp, 1) := by decide +kernel
theorem dX10_isSo_64 : decode cX10_isSo 64 = .ok (.ifCond .ne 7, 3) := by decide +kernel
theorem dX10_isSo_67 : decode cX10_isSo 67 = .ok (.iconst 1, 1) := by decide +kernel
theorem dX10_isSo_68 : decode cX10_isSo 68 = .ok (.goto 4, 3) := by decide +kernel
theorem dX10_isSo_71 : decode cX10_isSo 71 = .ok (.iconst 0, 1) := by decide +kernel
theorem dX10_isSo_72 : decode cX10_isSo 72 = .ok (.istore 6, 2) := by decide +kernel
theorem dX10_isSo_74 : decode cX10_isSo 74 = .ok (.iload 6, 2) := by decide +kernel
theorem dX10_isSo_76 : decode cX10_isSo 76 = .ok (.iload_n 3, 1) := by decide +kernel
theorem dX10_isSo_77 : decode cX10_isSo 77 = .ok (.iconst 3, 1) := by decide +kernel
theorem dX10_isSo_78 : decode cX10_isSo 78 = .ok (.if_icmp .ge 7, 3) := by decide +kernel
theorem dX10_isSo_81 : decode cX10_isSo 81 = .ok (.iconst 1, 1) := by decide +kernel
theorem dX10_isSo_82 : decode cX10_isSo 82 = .ok (.goto 4, 3) := by decide +kernel
theorem dX10_isSo_85 : decode cX10_isSo 85 = .ok (.iconst 0, 1) := by decide +kernel
theorem dX10_isSo_86 : decode cX10_isSo 86 = .ok (.if_icmp .ne 7, 3) := by decide +kernel
theorem dX10_isSo_89 : decode cX10_isSo 89 = .ok (.iconst 1, 1) := by decide +kernel
theorem dX10_isSo_90 : decode cX10_isSo 90 = .ok (.goto 4, 3) := by decide +kernel
theorem dX10_isSo_93 : decode cX10_isSo 93 = .ok (.iconst 0, 1) := by decide +kernel
theorem dX10_isSo_94 : decode cX10_isSo 94 = .ok (.ireturn, 1) := by decide +kernel
theorem dX10_wish_0 : decode cX10_wish 0 = .ok (.aload_n 0, 1) := by decide +kernel
theorem dX10_wish_1 : decode cX10_wish 1 = .ok (.getfield 84, 3) := by decide +kernel
theorem dX10_wish_4 : decode cX10_wish 4 = .ok (.iload_n 1, 1) := by decide +kernel
theorem dX10_wish_5 : decode cX10_wish 5 = .ok (.iaload, 1) := by decide +kernel
theorem dX10_wish_6 : decode cX10_wish 6 = .ok (.istore 5, 2) := by decide +kernel
theorem dX10_wish_8 : decode cX10_wish 8 = .ok (.iload 5, 2) := by decide +kernel
theorem dX10_wish_10 : decode cX10_wish 10 = .ok (.iconst (-1), 1) := by decide +kernel
theorem dX10_wish_11 : decode cX10_wish 11 = .ok (.if_icmp .eq 14, 3) := by decide +kernel
theorem dX10_wish_14 : decode cX10_wish 14 = .ok (.aload_n 0, 1) := by decide +kernel
theorem dX10_wish_15 : decode cX10_wish 15 = .ok (.iload 5, 2) := by decide +kernel
theorem dX10_wish_17 : decode cX10_wish 17 = .ok (.invokevirtual 447, 3) := by decide +kernel
theorem dX10_wish_20 : decode cX10_wish 20 = .ok (.ifCond .ne 5, 3) := by decide +kernel
theorem dX10_wish_23 : decode cX10_wish 23 = .ok (.lconst 0, 1) := by decide +kernel
theorem dX10_wish_24 : decode cX10_wish 24 = .ok (.lreturn, 1) := by decide +kernel
theorem dX10_wish_25 : decode cX10_wish 25 = .ok (.aload_n 0, 1) := by decide +kernel
theorem dX10_wish_26 : decode cX10_wish 26 = .ok (.getfield 87, 3) := by decide +kernel
theorem dX10_wish_29 : decode cX10_wish 29 = .ok (.iload_n 1, 1) := by decide +kernel
theorem dX10_wish_30 : decode cX10_wish 30 = .ok (.iaload, 1) := by decide +kernel
theorem dX10_wish_31 : decode cX10_wish 31 = .ok (.istore 6, 2) := by decide +kernel
theorem dX10_wish_33 : decode cX10_wish 33 = .ok (.aload_n 0, 1) := by decide +kernel
theorem dX10_wish_34 : decode cX10_wish 34 = .ok (.getfield 81, 3) := by decide +kernel
theorem dX10_wish_37 : decode cX10_wish 37 = .ok (.iload_n 1, 1) := by decide +kernel
theorem dX10_wish_38 : decode cX10_wish 38 = .ok (.iaload, 1) := by decide +kernel
theorem dX10_wish_39 : decode cX10_wish 39 = .ok (.tableswitch 130 0 4 #[33, 48, 56, 64, 106], 33) := by decide +kernel
theorem dX10_wish_72 : decode cX10_wish 72 = .ok (.aload_n 0, 1) := by decide +kernel
theorem dX10_wish_73 : decode cX10_wish 73 = .ok (.getfield 57, 3) := by decide +kernel
theorem dX10_wish_76 : decode cX10_wish 76 = .ok (.iload_n 2, 1) := by decide +kernel
theorem dX10_wish_77 : decode cX10_wish 77 = .ok (.laload, 1) := by decide +kernel
theorem dX10_wish_78 : decode cX10_wish 78 = .ok (.iload 6, 2) := by decide +kernel
theorem dX10_wish_80 : decode cX10_wish 80 = .ok (.i2l, 1) := by decide +kernel
theorem dX10_wish_81 : decode cX10_wish 81 = .ok (.lmul, 1) := by decide +kernel
theorem dX10_wish_82 : decode cX10_wish 82 = .ok (.ldc2_w 470, 3) := by decide +kernel
theorem dX10_wish_85 : decode cX10_wish 85 = .ok (.ldiv, 1) := by decide +kernel
theorem dX10_wish_86 : decode cX10_wish 86 = .ok (.lreturn, 1) := by decide +kernel
theorem dX10_wish_87 : decode cX10_wish 87 = .ok (.aload_n 0, 1) := by decide +kernel
theorem dX10_wish_88 : decode cX10_wish 88 = .ok (.getfield 123, 3) := by decide +kernel
theorem dX10_wish_91 : decode cX10_wish 91 = .ok (.iload 5, 2) := by decide +kernel
theorem dX10_wish_93 : decode cX10_wish 93 = .ok (.laload, 1) := by decide +kernel
theorem dX10_wish_94 : decode cX10_wish 94 = .ok (.lreturn, 1) := by decide +kernel
theorem dX10_wish_95 : decode cX10_wish 95 = .ok (.aload_n 0, 1) := by decide +kernel
theorem dX10_wish_96 : decode cX10_wish 96 = .ok (.getfield 105, 3) := by decide +kernel
theorem dX10_wish_99 : decode cX10_wish 99 = .ok (.iload 5, 2) := by decide +kernel
theorem dX10_wish_101 : decode cX10_wish 101 = .ok (.laload, 1) := by decide +kernel
theorem dX10_wish_102 : decode cX10_wish 102 = .ok (.lreturn, 1) := by decide +kernel
theorem dX10_wish_103 : decode cX10_wish 103 = .ok (.aload_n 0, 1) := by decide +kernel
theorem dX10_wish_104 : decode cX10_wish 104 = .ok (.getfield 45, 3) := by decide +kernel
theorem dX10_wish_107 : decode cX10_wish 107 = .ok (.iload_n 2, 1) := by decide +kernel
theorem dX10_wish_108 : decode cX10_wish 108 = .ok (.laload, 1) := by decide +kernel
theorem dX10_wish_109 : decode cX10_wish 109 = .ok (.iload 6, 2) := by decide +kernel
theorem dX10_wish_111 : decode cX10_wish 111 = .ok (.i2l, 1) := by decide +kernel
theorem dX10_wish_112 : decode cX10_wish 112 = .ok (.lmul, 1) := by decide +kernel
theorem dX10_wish_113 : decode cX10_wish 113 = .ok (.ldc2_w 262, 3) := by decide +kernel
theorem dX10_wish_116 : decode cX10_wish 116 = .ok (.ldiv, 1) := by decide +kernel
theorem dX10_wish_117 : decode cX10_wish 117 = .ok (.lstore 7, 2) := by decide +kernel
theorem dX10_wish_119 : decode cX10_wish 119 = .ok (.lload 7, 2) := by decide +kernel
theorem dX10_wish_121 : decode cX10_wish 121 = .ok (.aload_n 0, 1) := by decide +kernel
theorem dX10_wish_122 : decode cX10_wish 122 = .ok (.getfield 105, 3) := by decide +kernel
theorem dX10_wish_125 : decode cX10_wish 125 = .ok (.iload 5, 2) := by decide +kernel
theorem dX10_wish_127 : decode cX10_wish 127 = .ok (.laload, 1) := by decide +kernel
theorem dX10_wish_128 : decode cX10_wish 128 = .ok (.lcmp, 1) := by decide +kernel
theorem dX10_wish_129 : decode cX10_wish 129 = .ok (.ifCond .ge 8, 3) := by decide +kernel
theorem dX10_wish_132 : decode cX10_wish 132 = .ok (.lload 7, 2) := by decide +kernel
theorem dX10_wish_134 : decode cX10_wish 134 = .ok (.goto 10, 3) := by decide +kernel
theorem dX10_wish_137 : decode cX10_wish 137 = .ok (.aload_n 0, 1) := by decide +kernel
theorem dX10_wish_138 : decode cX10_wish 138 = .ok (.getfield 105, 3) := by decide +kernel
theorem dX10_wish_141 : decode cX10_wish 141 = .ok (.iload 5, 2) := by decide +kernel
theorem dX10_wish_143 : decode cX10_wish 143 = .ok (.laload, 1) := by decide +kernel
theorem dX10_wish_144 : decode cX10_wish 144 = .ok (.lreturn, 1) := by decide +kernel
theorem dX10_wish_145 : decode cX10_wish 145 = .ok (.iload 6, 2) := by decide +kernel
theorem dX10_wish_147 : decode cX10_wish 147 = .ok (.i2l, 1) := by decide +kernel
theorem dX10_wish_148 : decode cX10_wish 148 = .ok (.aload_n 0, 1) := by decide +kernel
theorem dX10_wish_149 : decode cX10_wish 149 = .ok (.getfield 472, 3) := by decide +kernel
theorem dX10_wish_152 : decode cX10_wish 152 = .ok (.lcmp, 1) := by decide +kernel
theorem dX10_wish_153 : decode cX10_wish 153 = .ok (.ifCond .le 14, 3) := by decide +kernel
theorem dX10_wish_156 : decode cX10_wish 156 = .ok (.iload 6, 2) := by decide +kernel
theorem dX10_wish_158 : decode cX10_wish 158 = .ok (.i2l, 1) := by decide +kernel
theorem dX10_wish_159 : decode cX10_wish 159 = .ok (.aload_n 0, 1) := by decide +kernel
theorem dX10_wish_160 : decode cX10_wish 160 = .ok (.getfield 472, 3) := by decide +kernel
theorem dX10_wish_163 : decode cX10_wish 163 = .ok (.lsub, 1) := by decide +kernel
theorem dX10_wish_164 : decode cX10_wish 164 = .ok (.goto 4, 3) := by decide +kernel
theorem dX10_wish_167 : decode cX10_wish 167 = .ok (.lconst 0, 1) := by decide +kernel
theorem dX10_wish_168 : decode cX10_wish 168 = .ok (.lreturn, 1) := by decide +kernel
theorem dX10_wish_169 : decode cX10_wish 169 = .ok (.lload_n 3, 1) := by decide +kernel
theorem dX10_wish_170 : decode cX10_wish 170 = .ok (.lreturn, 1) := by decide +kernel
theorem dX10_pay_0 : decode cX10_pay 0 = .ok (.aload_n 0, 1) := by decide +kernel
theorem dX10_pay_1 : decode cX10_pay 1 = .ok (.dup, 1) := by decide +kernel
theorem dX10_pay_2 : decode cX10_pay 2 = .ok (.getfield 454, 3) := by decide +kernel
theorem dX10_pay_5 : decode cX10_pay 5 = .ok (.aload_n 0, 1) := by decide +kernel
theorem dX10_pay_6 : decode cX10_pay 6 = .ok (.getfield 63, 3) := by decide +kernel
theorem dX10_pay_9 : decode cX10_pay 9 = .ok (.iload_n 1, 1) := by decide +kernel
theorem dX10_pay_10 : decode cX10_pay 10 = .ok (.laload, 1) := by decide +kernel
theorem dX10_pay_11 : decode cX10_pay 11 = .ok (.ladd, 1) := by decide +kernel
theorem dX10_pay_12 : decode cX10_pay 12 = .ok (.putfield 454, 3) := by decide +kernel
theorem dX10_pay_15 : decode cX10_pay 15 = .ok (.aload_n 0, 1) := by decide +kernel
theorem dX10_pay_16 : decode cX10_pay 16 = .ok (.aload_n 0, 1) := by decide +kernel
theorem dX10_pay_17 : decode cX10_pay 17 = .ok (.getfield 63, 3) := by decide +kernel
theorem dX10_pay_20 : decode cX10_pay 20 = .ok (.iload_n 1, 1) := by decide +kernel
theorem dX10_pay_21 : decode cX10_pay 21 = .ok (.laload, 1) := by decide +kernel
theorem dX10_pay_22 : decode cX10_pay 22 = .ok (.lconst 0, 1) := by decide +kernel
theorem dX10_pay_23 : decode cX10_pay 23 = .ok (.lcmp, 1) := by decide +kernel
theorem dX10_pay_24 : decode cX10_pay 24 = .ok (.ifCond .le 7, 3) := by decide +kernel
theorem dX10_pay_27 : decode cX10_pay 27 = .ok (.iconst 0, 1) := by decide +kernel
theorem dX10_pay_28 : decode cX10_pay 28 = .ok (.goto 9, 3) := by decide +kernel
theorem dX10_pay_31 : decode cX10_pay 31 = .ok (.aload_n 0, 1) := by decide +kernel
theorem dX10_pay_32 : decode cX10_pay 32 = .ok (.getfield 475, 3) := by decide +kernel
theorem dX10_pay_35 : decode cX10_pay 35 = .ok (.iconst 1, 1) := by decide +kernel
theorem dX10_pay_36 : decode cX10_pay 36 = .ok (.iadd, 1) := by decide +kernel
theorem dX10_pay_37 : decode cX10_pay 37 = .ok (.putfield 475, 3) := by decide +kernel
theorem dX10_pay_40 : decode cX10_pay 40 = .ok (.aload_n 0, 1) := by decide +kernel
theorem dX10_pay_41 : decode cX10_pay 41 = .ok (.getfield 463, 3) := by decide +kernel
theorem dX10_pay_44 : decode cX10_pay 44 = .ok (.ifCond .ne 39, 3) := by decide +kernel
theorem dX10_pay_47 : decode cX10_pay 47 = .ok (.aload_n 0, 1) := by decide +kernel
theorem dX10_pay_48 : decode cX10_pay 48 = .ok (.aload_n 0, 1) := by decide +kernel
theorem dX10_pay_49 : decode cX10_pay 49 = .ok (.getfield 63, 3) := by decide +kernel
theorem dX10_pay_52 : decode cX10_pay 52 = .ok (.iload_n 1, 1) := by decide +kernel
theorem dX10_pay_53 : decode cX10_pay 53 = .ok (.laload, 1) := by decide +kernel
theorem dX10_pay_54 : decode cX10_pay 54 = .ok (.lconst 0, 1) := by decide +kernel
theorem dX10_pay_55 : decode cX10_pay 55 = .ok (.lcmp, 1) := by decide +kernel
theorem dX10_pay_56 : decode cX10_pay 56 = .ok (.ifCond .le 20, 3) := by decide +kernel
theorem dX10_pay_59 : decode cX10_pay 59 = .ok (.aload_n 0, 1) := by decide +kernel
theorem dX10_pay_60 : decode cX10_pay 60 = .ok (.invokevirtual 457, 3) := by decide +kernel
theorem dX10_pay_63 : decode cX10_pay 63 = .ok (.aload_n 0, 1) := by decide +kernel
theorem dX10_pay_64 : decode cX10_pay 64 = .ok (.getfield 129, 3) := by decide +kernel
theorem dX10_pay_67 : decode cX10_pay 67 = .ok (.i2l, 1) := by decide +kernel
theorem dX10_pay_68 : decode cX10_pay 68 = .ok (.lcmp, 1) := by decide +kernel
theorem dX10_pay_69 : decode cX10_pay 69 = .ok (.ifCond .le 7, 3) := by decide +kernel
theorem dX10_pay_72 : decode cX10_pay 72 = .ok (.iconst 1, 1) := by decide +kernel
theorem dX10_pay_73 : decode cX10_pay 73 = .ok (.goto 4, 3) := by decide +kernel
theorem dX10_pay_76 : decode cX10_pay 76 = .ok (.iconst 0, 1) := by decide +kernel
theorem dX10_pay_77 : decode cX10_pay 77 = .ok (.putfield 463, 3) := by decide +kernel
theorem dX10_pay_80 : decode cX10_pay 80 = .ok (.goto 19, 3) := by decide +kernel
theorem dX10_pay_83 : decode cX10_pay 83 = .ok (.aload_n 0, 1) := by decide +kernel
theorem dX10_pay_84 : decode cX10_pay 84 = .ok (.getfield 475, 3) := by decide +kernel
theorem dX10_pay_87 : decode cX10_pay 87 = .ok (.aload_n 0, 1) := by decide +kernel
theorem dX10_pay_88 : decode cX10_pay 88 = .ok (.getfield 132, 3) := by decide +kernel
theorem dX10_pay_91 : decode cX10_pay 91 = .ok (.if_icmp .lt 8, 3) := by decide +kernel
theorem dX10_pay_94 : decode cX10_pay 94 = .ok (.aload_n 0, 1) := by decide +kernel
theorem dX10_pay_95 : decode cX10_pay 95 = .ok (.iconst 0, 1) := by decide +kernel
theorem dX10_pay_96 : decode cX10_pay 96 = .ok (.putfield 463, 3) := by decide +kernel
theorem dX10_pay_99 : decode cX10_pay 99 = .ok (.aload_n 0, 1) := by decide +kernel
theorem dX10_pay_100 : decode cX10_pay 100 = .ok (.getfield 141, 3) := by decide +kernel
theorem dX10_pay_103 : decode cX10_pay 103 = .ok (.iload_n 1, 1) := by decide +kernel
theorem dX10_pay_104 : decode cX10_pay 104 = .ok (.aload_n 0, 1) := by decide +kernel
theorem dX10_pay_105 : decode cX10_pay 105 = .ok (.getfield 463, 3) := by decide +kernel
theorem dX10_pay_108 : decode cX10_pay 108 = .ok (.bastore, 1) := by decide +kernel
theorem dX10_pay_109 : decode cX10_pay 109 = .ok (.aload_n 0, 1) := by decide +kernel
theorem dX10_pay_110 : decode cX10_pay 110 = .ok (.getfield 41, 3) := by decide +kernel
theorem dX10_pay_113 : decode cX10_pay 113 = .ok (.iload_n 1, 1) := by decide +kernel
theorem dX10_pay_114 : decode cX10_pay 114 = .ok (.laload, 1) := by decide +kernel
theorem dX10_pay_115 : decode cX10_pay 115 = .ok (.aload_n 0, 1) := by decide +kernel
theorem dX10_pay_116 : decode cX10_pay 116 = .ok (.getfield 45, 3) := by decide +kernel
theorem dX10_pay_119 : decode cX10_pay 119 = .ok (.iload_n 1, 1) := by decide +kernel
theorem dX10_pay_120 : decode cX10_pay 120 = .ok (.laload, 1) := by decide +kernel
theorem dX10_pay_121 : decode cX10_pay 121 = .ok (.ladd, 1) := by decide +kernel
theorem dX10_pay_122 : decode cX10_pay 122 = .ok (.aload_n 0, 1) := by decide +kernel
theorem dX10_pay_123 : decode cX10_pay 123 = .ok (.getfield 48, 3) := by decide +kernel
theorem dX10_pay_126 : decode cX10_pay 126 = .ok (.iload_n 1, 1) := by decide +kernel
theorem dX10_pay_127 : decode cX10_pay 127 = .ok (.laload, 1) := by decide +kernel
theorem dX10_pay_128 : decode cX10_pay 128 = .ok (.ladd, 1) := by decide +kernel
theorem dX10_pay_129 : decode cX10_pay 129 = .ok (.aload_n 0, 1) := by decide +kernel
theorem dX10_pay_130 : decode cX10_pay 130 = .ok (.getfield 51, 3) := by decide +kernel
theorem dX10_pay_133 : decode cX10_pay 133 = .ok (.iload_n 1, 1) := by decide +kernel
theorem dX10_pay_134 : decode cX10_pay 134 = .ok (.laload, 1) := by decide +kernel
theorem dX10_pay_135 : decode cX10_pay 135 = .ok (.ladd, 1) := by decide +kernel
theorem dX10_pay_136 : decode cX10_pay 136 = .ok (.aload_n 0, 1) := by decide +kernel
theorem dX10_pay_137 : decode cX10_pay 137 = .ok (.getfield 54, 3) := by decide +kernel
theorem dX10_pay_140 : decode cX10_pay 140 = .ok (.iload_n 1, 1) := by decide +kernel
theorem dX10_pay_141 : decode cX10_pay 141 = .ok (.laload, 1) := by decide +kernel
theorem dX10_pay_142 : decode cX10_pay 142 = .ok (.lsub, 1) := by decide +kernel
theorem dX10_pay_143 : decode cX10_pay 143 = .ok (.aload_n 0, 1) := by decide +kernel
theorem dX10_pay_144 : decode cX10_pay 144 = .ok (.getfield 472, 3) := by decide +kernel
theorem dX10_pay_147 : decode cX10_pay 147 = .ok (.ladd, 1) := by decide +kernel
theorem dX10_pay_148 : decode cX10_pay 148 = .ok (.lstore_n 2, 1) := by decide +kernel
theorem dX10_pay_149 : decode cX10_pay 149 = .ok (.aload_n 0, 1) := by decide +kernel
theorem dX10_pay_150 : decode cX10_pay 150 = .ok (.getfield 135, 3) := by decide +kernel
theorem dX10_pay_153 : decode cX10_pay 153 = .ok (.iload_n 1, 1) := by decide +kernel
theorem dX10_pay_154 : decode cX10_pay 154 = .ok (.lload_n 2, 1) := by decide +kernel
theorem dX10_pay_155 : decode cX10_pay 155 = .ok (.lastore, 1) := by decide +kernel
theorem dX10_pay_156 : decode cX10_pay 156 = .ok (.aload_n 0, 1) := by decide +kernel
theorem dX10_pay_157 : decode cX10_pay 157 = .ok (.lconst 0, 1) := by decide +kernel
theorem dX10_pay_158 : decode cX10_pay 158 = .ok (.putfield 472, 3) := by decide +kernel
theorem dX10_pay_161 : decode cX10_pay 161 = .ok (.iconst 0, 1) := by decide +kernel
theorem dX10_pay_162 : decode cX10_pay 162 = .ok (.istore 4, 2) := by decide +kernel
theorem dX10_pay_164 : decode cX10_pay 164 = .ok (.iload 4, 2) := by decide +kernel
theorem dX10_pay_166 : decode cX10_pay 166 = .ok (.aload_n 0, 1) := by decide +kernel
theorem dX10_pay_167 : decode cX10_pay 167 = .ok (.getfield 444, 3) := by decide +kernel
theorem dX10_pay_170 : decode cX10_pay 170 = .ok (.if_icmp .ge 44, 3) := by decide +kernel
theorem dX10_pay_173 : decode cX10_pay 173 = .ok (.aload_n 0, 1) := by decide +kernel
theorem dX10_pay_174 : decode cX10_pay 174 = .ok (.getfield 123, 3) := by decide +kernel
theorem dX10_pay_177 : decode cX10_pay 177 = .ok (.iload 4, 2) := by decide +kernel
theorem dX10_pay_179 : decode cX10_pay 179 = .ok (.aload_n 0, 1) := by decide +kernel
theorem dX10_pay_180 : decode cX10_pay 180 = .ok (.getfield 105, 3) := by decide +kernel
theorem dX10_pay_183 : decode cX10_pay 183 = .ok (.iload 4, 2) := by decide +kernel
theorem dX10_pay_185 : decode cX10_pay 185 = .ok (.laload, 1) := by decide +kernel
theorem dX10_pay_186 : decode cX10_pay 186 = .ok (.aload_n 0, 1) := by decide +kernel
theorem dX10_pay_187 : decode cX10_pay 187 = .ok (.getfield 102, 3) := by decide +kernel
theorem dX10_pay_190 : decode cX10_pay 190 = .ok (.iload 4, 2) := by decide +kernel
theorem dX10_pay_192 : decode cX10_pay 192 = .ok (.iaload, 1) := by decide +kernel
theorem dX10_pay_193 : decode cX10_pay 193 = .ok (.i2l, 1) := by decide +kernel
theorem dX10_pay_194 : decode cX10_pay 194 = .ok (.lmul, 1) := by decide +kernel
theorem dX10_pay_195 : decode cX10_pay 195 = .ok (.ldc2_w 470, 3) := by decide +kernel
theorem dX10_pay_198 : decode cX10_pay 198 = .ok (.ldiv, 1) := by decide +kernel
theorem dX10_pay_199 : decode cX10_pay 199 = .ok (.aload_n 0, 1) := by decide +kernel
theorem dX10_pay_200 : decode cX10_pay 200 = .ok (.getfield 108, 3) := by decide +kernel
theorem dX10_pay_203 : decode cX10_pay 203 = .ok (.iload 4, 2) := by decide +kernel
theorem dX10_pay_205 : decode cX10_pay 205 = .ok (.laload, 1) := by decide +kernel
theorem dX10_pay_206 : decode cX10_pay 206 = .ok (.ladd, 1) := by decide +kernel
theorem dX10_pay_207 : decode cX10_pay 207 = .ok (.lastore, 1) := by decide +kernel
theorem dX10_pay_208 : decode cX10_pay 208 = .ok (.iinc 4 1, 3) := by decide +kernel
theorem dX10_pay_211 : decode cX10_pay 211 = .ok (.goto (-47), 3) := by decide +kernel
theorem dX10_pay_214 : decode cX10_pay 214 = .ok (.bipush 10, 2) := by decide +kernel
theorem dX10_pay_216 : decode cX10_pay 216 = .ok (.aload_n 0, 1) := by decide +kernel
theorem dX10_pay_217 : decode cX10_pay 217 = .ok (.getfield 126, 3) := by decide +kernel
theorem dX10_pay_220 : decode cX10_pay 220 = .ok (.iload_n 1, 1) := by decide +kernel
theorem dX10_pay_221 : decode cX10_pay 221 = .ok (.iaload, 1) := by decide +kernel
theorem dX10_pay_222 : decode cX10_pay 222 = .ok (.imul, 1) := by decide +kernel
theorem dX10_pay_223 : decode cX10_pay 223 = .ok (.istore 4, 2) := by decide +kernel
theorem dX10_pay_225 : decode cX10_pay 225 = .ok (.iconst 0, 1) := by decide +kernel
theorem dX10_pay_226 : decode cX10_pay 226 = .ok (.istore 5, 2) := by decide +kernel
theorem dX10_pay_228 : decode cX10_pay 228 = .ok (.iload 5, 2) := by decide +kernel
theorem dX10_pay_230 : decode cX10_pay 230 = .ok (.bipush 10, 2) := by decide +kernel
theorem dX10_pay_232 : decode cX10_pay 232 = .ok (.if_icmp .ge 273, 3) := by decide +kernel
theorem dX10_pay_235 : decode cX10_pay 235 = .ok (.aload_n 0, 1) := by decide +kernel
theorem dX10_pay_236 : decode cX10_pay 236 = .ok (.getfield 145, 3) := by decide +kernel
theorem dX10_pay_239 : decode cX10_pay 239 = .ok (.bipush 10, 2) := by decide +kernel
theorem dX10_pay_241 : decode cX10_pay 241 = .ok (.iload_n 1, 1) := by decide +kernel
theorem dX10_pay_242 : decode cX10_pay 242 = .ok (.imul, 1) := by decide +kernel
theorem dX10_pay_243 : decode cX10_pay 243 = .ok (.iload 5, 2) := by decide +kernel
theorem dX10_pay_245 : decode cX10_pay 245 = .ok (.iadd, 1) := by decide +kernel
theorem dX10_pay_246 : decode cX10_pay 246 = .ok (.lconst 0, 1) := by decide +kernel
theorem dX10_pay_247 : decode cX10_pay 247 = .ok (.lastore, 1) := by decide +kernel
theorem dX10_pay_248 : decode cX10_pay 248 = .ok (.iload 5, 2) := by decide +kernel
theorem dX10_pay_250 : decode cX10_pay 250 = .ok (.aload_n 0, 1) := by decide +kernel
theorem dX10_pay_251 : decode cX10_pay 251 = .ok (.getfield 78, 3) := by decide +kernel
theorem dX10_pay_254 : decode cX10_pay 254 = .ok (.aload_n 0, 1) := by decide +kernel
theorem dX10_pay_255 : decode cX10_pay 255 = .ok (.getfield 126, 3) := by decide +kernel
theorem dX10_pay_258 : decode cX10_pay 258 = .ok (.iload_n 1, 1) := by decide +kernel
theorem dX10_pay_259 : decode cX10_pay 259 = .ok (.iaload, 1) := by decide +kernel
theorem dX10_pay_260 : decode cX10_pay 260 = .ok (.iaload, 1) := by decide +kernel
theorem dX10_pay_261 : decode cX10_pay 261 = .ok (.if_icmp .ge 238, 3) := by decide +kernel
theorem dX10_pay_264 : decode cX10_pay 264 = .ok (.aload_n 0, 1) := by decide +kernel
theorem dX10_pay_265 : decode cX10_pay 265 = .ok (.iload 4, 2) := by decide +kernel
theorem dX10_pay_267 : decode cX10_pay 267 = .ok (.iload 5, 2) := by decide +kernel
theorem dX10_pay_269 : decode cX10_pay 269 = .ok (.iadd, 1) := by decide +kernel
theorem dX10_pay_270 : decode cX10_pay 270 = .ok (.iload_n 1, 1) := by decide +kernel
theorem dX10_pay_271 : decode cX10_pay 271 = .ok (.invokevirtual 478, 3) := by decide +kernel
theorem dX10_pay_274 : decode cX10_pay 274 = .ok (.ifCond .ne 6, 3) := by decide +kernel
theorem dX10_pay_277 : decode cX10_pay 277 = .ok (.goto 222, 3) := by decide +kernel
theorem dX10_pay_280 : decode cX10_pay 280 = .ok (.aload_n 0, 1) := by decide +kernel
theorem dX10_pay_281 : decode cX10_pay 281 = .ok (.iload 4, 2) := by decide +kernel
theorem dX10_pay_283 : decode cX10_pay 283 = .ok (.iload 5, 2) := by decide +kernel
theorem dX10_pay_285 : decode cX10_pay 285 = .ok (.iadd, 1) := by decide +kernel
theorem dX10_pay_286 : decode cX10_pay 286 = .ok (.iload_n 1, 1) := by decide +kernel
theorem dX10_pay_287 : decode cX10_pay 287 = .ok (.lload_n 2, 1) := by decide +kernel
theorem dX10_pay_288 : decode cX10_pay 288 = .ok (.invokevirtual 482, 3) := by decide +kernel
theorem dX10_pay_291 : decode cX10_pay 291 = .ok (.lstore 6, 2) := by decide +kernel
theorem dX10_pay_293 : decode cX10_pay 293 = .ok (.lload 6, 2) := by decide +kernel
theorem dX10_pay_295 : decode cX10_pay 295 = .ok (.lload_n 2, 1) := by decide +kernel
theorem dX10_pay_296 : decode cX10_pay 296 = .ok (.lcmp, 1) := by decide +kernel
theorem dX10_pay_297 : decode cX10_pay 297 = .ok (.ifCond .ge 8, 3) := by decide +kernel
theorem dX10_pay_300 : decode cX10_pay 300 = .ok (.lload 6, 2) := by decide +kernel
theorem dX10_pay_302 : decode cX10_pay 302 = .ok (.goto 4, 3) := by decide +kernel
theorem dX10_pay_305 : decode cX10_pay 305 = .ok (.lload_n 2, 1) := by decide +kernel
theorem dX10_pay_306 : decode cX10_pay 306 = .ok (.lstore 6, 2) := by decide +kernel
theorem dX10_pay_308 : decode cX10_pay 308 = .ok (.aload_n 0, 1) := by decide +kernel
theorem dX10_pay_309 : decode cX10_pay 309 = .ok (.getfield 145, 3) := by decide +kernel
theorem dX10_pay_312 : decode cX10_pay 312 = .ok (.bipush 10, 2) := by decide +kernel
theorem dX10_pay_314 : decode cX10_pay 314 = .ok (.iload_n 1, 1) := by decide +kernel
theorem dX10_pay_315 : decode cX10_pay 315 = .ok (.imul, 1) := by decide +kernel
theorem dX10_pay_316 : decode cX10_pay 316 = .ok (.iload 5, 2) := by decide +kernel
theorem dX10_pay_318 : decode cX10_pay 318 = .ok (.iadd, 1) := by decide +kernel
theorem dX10_pay_319 : decode cX10_pay 319 = .ok (.lload 6, 2) := by decide +kernel
theorem dX10_pay_321 : decode cX10_pay 321 = .ok (.lastore, 1) := by decide +kernel
theorem dX10_pay_322 : decode cX10_pay 322 = .ok (.lload_n 2, 1) := by decide +kernel
theorem dX10_pay_323 : decode cX10_pay 323 = .ok (.lload 6, 2) := by decide +kernel
theorem dX10_pay_325 : decode cX10_pay 325 = .ok (.lsub, 1) := by decide +kernel
theorem dX10_pay_326 : decode cX10_pay 326 = .ok (.lstore_n 2, 1) := by decide +kernel
theorem dX10_pay_327 : decode cX10_pay 327 = .ok (.aload_n 0, 1) := by decide +kernel
theorem dX10_pay_328 : decode cX10_pay 328 = .ok (.getfield 84, 3) := by decide +kernel
theorem dX10_pay_331 : decode cX10_pay 331 = .ok (.iload 4, 2) := by decide +kernel
theorem dX10_pay_333 : decode cX10_pay 333 = .ok (.iload 5, 2) := by decide +kernel
theorem dX10_pay_335 : decode cX10_pay 335 = .ok (.iadd, 1) := by decide +kernel
theorem dX10_pay_336 : decode cX10_pay 336 = .ok (.iaload, 1) := by decide +kernel
theorem dX10_pay_337 : decode cX10_pay 337 = .ok (.istore 8, 2) := by decide +kernel
theorem dX10_pay_339 : decode cX10_pay 339 = .ok (.aload_n 0, 1) := by decide +kernel
theorem dX10_pay_340 : decode cX10_pay 340 = .ok (.getfield 81, 3) := by decide +kernel
theorem dX10_pay_343 : decode cX10_pay 343 = .ok (.iload 4, 2) := by decide +kernel
theorem dX10_pay_345 : decode cX10_pay 345 = .ok (.iload 5, 2) := by decide +kernel
theorem dX10_pay_347 : decode cX10_pay 347 = .ok (.iadd, 1) := by decide +kernel
theorem dX10_pay_348 : decode cX10_pay 348 = .ok (.iaload, 1) := by decide +kernel
theorem dX10_pay_349 : decode cX10_pay 349 = .ok (.tableswitch 150 1 5 #[35, 71, 71, 122, 136], 35) := by decide +kernel
theorem dX10_pay_384 : decode cX10_pay 384 = .ok (.aload_n 0, 1) := by decide +kernel
theorem dX10_pay_385 : decode cX10_pay 385 = .ok (.iload 8, 2) := by decide +kernel
theorem dX10_pay_387 : decode cX10_pay 387 = .ok (.invokevirtual 447, 3) := by decide +kernel
theorem dX10_pay_390 : decode cX10_pay 390 = .ok (.ifCond .eq 109, 3) := by decide +kernel
theorem dX10_pay_393 : decode cX10_pay 393 = .ok (.aload_n 0, 1) := by decide +kernel
theorem dX10_pay_394 : decode cX10_pay 394 = .ok (.getfield 123, 3) := by decide +kernel
theorem dX10_pay_397 : decode cX10_pay 397 = .ok (.iload 8, 2) := by decide +kernel
theorem dX10_pay_399 : decode cX10_pay 399 = .ok (.dup2, 1) := by decide +kernel
theorem dX10_pay_400 : decode cX10_pay 400 = .ok (.laload, 1) := by decide +kernel
theorem dX10_pay_401 : decode cX10_pay 401 = .ok (.lload 6, 2) := by decide +kernel
theorem dX10_pay_403 : decode cX10_pay 403 = .ok (.lsub, 1) := by decide +kernel
theorem dX10_pay_404 : decode cX10_pay 404 = .ok (.lastore, 1) := by decide +kernel
theorem dX10_pay_405 : decode cX10_pay 405 = .ok (.aload_n 0, 1) := by decide +kernel
theorem dX10_pay_406 : decode cX10_pay 406 = .ok (.getfield 111, 3) := by decide +kernel
theorem dX10_pay_409 : decode cX10_pay 409 = .ok (.iload 8, 2) := by decide +kernel
theorem dX10_pay_411 : decode cX10_pay 411 = .ok (.dup2, 1) := by decide +kernel
theorem dX10_pay_412 : decode cX10_pay 412 = .ok (.laload, 1) := by decide +kernel
theorem dX10_pay_413 : decode cX10_pay 413 = .ok (.lload 6, 2) := by decide +kernel
theorem dX10_pay_415 : decode cX10_pay 415 = .ok (.ladd, 1) := by decide +kernel
theorem dX10_pay_416 : decode cX10_pay 416 = .ok (.lastore, 1) := by decide +kernel
theorem dX10_pay_417 : decode cX10_pay 417 = .ok (.goto 82, 3) := by decide +kernel
theorem dX10_pay_420 : decode cX10_pay 420 = .ok (.aload_n 0, 1) := by decide +kernel
theorem dX10_pay_421 : decode cX10_pay 421 = .ok (.iload 8, 2) := by decide +kernel
theorem dX10_pay_423 : decode cX10_pay 423 = .ok (.invokevirtual 447, 3) := by decide +kernel
theorem dX10_pay_426 : decode cX10_pay 426 = .ok (.ifCond .eq 73, 3) := by decide +kernel
theorem dX10_pay_429 : decode cX10_pay 429 = .ok (.aload_n 0, 1) := by decide +kernel
theorem dX10_pay_430 : decode cX10_pay 430 = .ok (.getfield 105, 3) := by decide +kernel
theorem dX10_pay_433 : decode cX10_pay 433 = .ok (.iload 8, 2) := by decide +kernel
theorem dX10_pay_435 : decode cX10_pay 435 = .ok (.dup2, 1) := by decide +kernel
theorem dX10_pay_436 : decode cX10_pay 436 = .ok (.laload, 1) := by decide +kernel
theorem dX10_pay_437 : decode cX10_pay 437 = .ok (.lload 6, 2) := by decide +kernel
theorem dX10_pay_439 : decode cX10_pay 439 = .ok (.lsub, 1) := by decide +kernel
theorem dX10_pay_440 : decode cX10_pay 440 = .ok (.lastore, 1) := by decide +kernel
theorem dX10_pay_441 : decode cX10_pay 441 = .ok (.aload_n 0, 1) := by decide +kernel
theorem dX10_pay_442 : decode cX10_pay 442 = .ok (.getfield 114, 3) := by decide +kernel
theorem dX10_pay_445 : decode cX10_pay 445 = .ok (.iload 8, 2) := by decide +kernel
theorem dX10_pay_447 : decode cX10_pay 447 = .ok (.dup2, 1) := by decide +kernel
theorem dX10_pay_448 : decode cX10_pay 448 = .ok (.laload, 1) := by decide +kernel
theorem dX10_pay_449 : decode cX10_pay 449 = .ok (.lload 6, 2) := by decide +kernel
theorem dX10_pay_451 : decode cX10_pay 451 = .ok (.ladd, 1) := by decide +kernel
theorem dX10_pay_452 : decode cX10_pay 452 = .ok (.lastore, 1) := by decide +kernel
theorem dX10_pay_453 : decode cX10_pay 453 = .ok (.aload_n 0, 1) := by decide +kernel
theorem dX10_pay_454 : decode cX10_pay 454 = .ok (.getfield 117, 3) := by decide +kernel
theorem dX10_pay_457 : decode cX10_pay 457 = .ok (.iload 8, 2) := by decide +kernel
theorem dX10_pay_459 : decode cX10_pay 459 = .ok (.dup2, 1) := by decide +kernel
theorem dX10_pay_460 : decode cX10_pay 460 = .ok (.laload, 1) := by decide +kernel
theorem dX10_pay_461 : decode cX10_pay 461 = .ok (.lload 6, 2) := by decide +kernel
theorem dX10_pay_463 : decode cX10_pay 463 = .ok (.iload_n 1, 1) := by decide +kernel
theorem dX10_pay_464 : decode cX10_pay 464 = .ok (.i2l, 1) := by decide +kernel
theorem dX10_pay_465 : decode cX10_pay 465 = .ok (.lmul, 1) := by decide +kernel
theorem dX10_pay_466 : decode cX10_pay 466 = .ok (.ladd, 1) := by decide +kernel
theorem dX10_pay_467 : decode cX10_pay 467 = .ok (.lastore, 1) := by decide +kernel
theorem dX10_pay_468 : decode cX10_pay 468 = .ok (.goto 31, 3) := by decide +kernel
theorem dX10_pay_471 : decode cX10_pay 471 = .ok (.aload_n 0, 1) := by decide +kernel
theorem dX10_pay_472 : decode cX10_pay 472 = .ok (.dup, 1) := by decide +kernel
theorem dX10_pay_473 : decode cX10_pay 473 = .ok (.getfield 472, 3) := by decide +kernel
theorem dX10_pay_476 : decode cX10_pay 476 = .ok (.lload 6, 2) := by decide +kernel
theorem dX10_pay_478 : decode cX10_pay 478 = .ok (.ladd, 1) := by decide +kernel
theorem dX10_pay_479 : decode cX10_pay 479 = .ok (.putfield 472, 3) := by decide +kernel
theorem dX10_pay_482 : decode cX10_pay 482 = .ok (.goto 17, 3) := by decide +kernel
theorem dX10_pay_485 : decode cX10_pay 485 = .ok (.aload_n 0, 1) := by decide +kernel
theorem dX10_pay_486 : decode cX10_pay 486 = .ok (.dup, 1) := by decide +kernel
theorem dX10_pay_487 : decode cX10_pay 487 = .ok (.getfield 486, 3) := by decide +kernel
theorem dX10_pay_490 : decode cX10_pay 490 = .ok (.lload 6, 2) := by decide +kernel
theorem dX10_pay_492 : decode cX10_pay 492 = .ok (.ladd, 1) := by decide +kernel
theorem dX10_pay_493 : decode cX10_pay 493 = .ok (.putfield 486, 3) := by decide +kernel
theorem dX10_pay_496 : decode cX10_pay 496 = .ok (.goto 3, 3) := by decide +kernel
theorem dX10_pay_499 : decode cX10_pay 499 = .ok (.iinc 5 1, 3) := by decide +kernel
theorem dX10_pay_502 : decode cX10_pay 502 = .ok (.goto (-274), 3) := by decide +kernel
theorem dX10_pay_505 : decode cX10_pay 505 = .ok (.aload_n 0, 1) := by decide +kernel
theorem dX10_pay_506 : decode cX10_pay 506 = .ok (.getfield 60, 3) := by decide +kernel
theorem dX10_pay_509 : decode cX10_pay 509 = .ok (.iload_n 1, 1) := by decide +kernel
theorem dX10_pay_510 : decode cX10_pay 510 = .ok (.laload, 1) := by decide +kernel
theorem dX10_pay_511 : decode cX10_pay 511 = .ok (.lneg, 1) := by decide +kernel
theorem dX10_pay_512 : decode cX10_pay 512 = .ok (.aload_n 0, 1) := by decide +kernel
theorem dX10_pay_513 : decode cX10_pay 513 = .ok (.getfield 472, 3) := by decide +kernel
theorem dX10_pay_516 : decode cX10_pay 516 = .ok (.lsub, 1) := by decide +kernel
theorem dX10_pay_517 : decode cX10_pay 517 = .ok (.lstore 5, 2) := by decide +kernel
theorem dX10_pay_519 : decode cX10_pay 519 = .ok (.iconst 0, 1) := by decide +kernel
theorem dX10_pay_520 : decode cX10_pay 520 = .ok (.istore 7, 2) := by decide +kernel
theorem dX10_pay_522 : decode cX10_pay 522 = .ok (.iload 7, 2) := by decide +kernel
theorem dX10_pay_524 : decode cX10_pay 524 = .ok (.aload_n 0, 1) := by decide +kernel
theorem dX10_pay_525 : decode cX10_pay 525 = .ok (.getfield 444, 3) := by decide +kernel
theorem dX10_pay_528 : decode cX10_pay 528 = .ok (.if_icmp .ge 35, 3) := by decide +kernel
theorem dX10_pay_531 : decode cX10_pay 531 = .ok (.aload_n 0, 1) := by decide +kernel
theorem dX10_pay_532 : decode cX10_pay 532 = .ok (.getfield 108, 3) := by decide +kernel
theorem dX10_pay_535 : decode cX10_pay 535 = .ok (.iload 7, 2) := by decide +kernel
theorem dX10_pay_537 : decode cX10_pay 537 = .ok (.aload_n 0, 1) := by decide +kernel
theorem dX10_pay_538 : decode cX10_pay 538 = .ok (.getfield 123, 3) := by decide +kernel
theorem dX10_pay_541 : decode cX10_pay 541 = .ok (.iload 7, 2) := by decide +kernel
theorem dX10_pay_543 : decode cX10_pay 543 = .ok (.laload, 1) := by decide +kernel
theorem dX10_pay_544 : decode cX10_pay 544 = .ok (.lastore, 1) := by decide +kernel
theorem dX10_pay_545 : decode cX10_pay 545 = .ok (.lload 5, 2) := by decide +kernel
theorem dX10_pay_547 : decode cX10_pay 547 = .ok (.aload_n 0, 1) := by decide +kernel
theorem dX10_pay_548 : decode cX10_pay 548 = .ok (.getfield 105, 3) := by decide +kernel
theorem dX10_pay_551 : decode cX10_pay 551 = .ok (.iload 7, 2) := by decide +kernel
theorem dX10_pay_553 : decode cX10_pay 553 = .ok (.laload, 1) := by decide +kernel
theorem dX10_pay_554 : decode cX10_pay 554 = .ok (.ladd, 1) := by decide +kernel
theorem dX10_pay_555 : decode cX10_pay 555 = .ok (.lstore 5, 2) := by decide +kernel
theorem dX10_pay_557 : decode cX10_pay 557 = .ok (.iinc 7 1, 3) := by decide +kernel
theorem dX10_pay_560 : decode cX10_pay 560 = .ok (.goto (-38), 3) := by decide +kernel
theorem dX10_pay_563 : decode cX10_pay 563 = .ok (.aload_n 0, 1) := by decide +kernel
theorem dX10_pay_564 : decode cX10_pay 564 = .ok (.getfield 444, 3) := by decide +kernel
theorem dX10_pay_567 : decode cX10_pay 567 = .ok (.iconst 1, 1) := by decide +kernel
theorem dX10_pay_568 : decode cX10_pay 568 = .ok (.isub, 1) := by decide +kernel
theorem dX10_pay_569 : decode cX10_pay 569 = .ok (.istore 7, 2) := by decide +kernel
theorem dX10_pay_571 : decode cX10_pay 571 = .ok (.iload 7, 2) := by decide +kernel
theorem dX10_pay_573 : decode cX10_pay 573 = .ok (.ifCond .lt 74, 3) := by decide +kernel
theorem dX10_pay_576 : decode cX10_pay 576 = .ok (.lload 5, 2) := by decide +kernel
theorem dX10_pay_578 : decode cX10_pay 578 = .ok (.lconst 0, 1) := by decide +kernel
theorem dX10_pay_579 : decode cX10_pay 579 = .ok (.lcmp, 1) := by decide +kernel
theorem dX10_pay_580 : decode cX10_pay 580 = .ok (.ifCond .le 67, 3) := by decide +kernel
theorem dX10_pay_583 : decode cX10_pay 583 = .ok (.lload 5, 2) := by decide +kernel
theorem dX10_pay_585 : decode cX10_pay 585 = .ok (.aload_n 0, 1) := by decide +kernel
theorem dX10_pay_586 : decode cX10_pay 586 = .ok (.getfield 105, 3) := by decide +kernel
theorem dX10_pay_589 : decode cX10_pay 589 = .ok (.iload 7, 2) := by decide +kernel
theorem dX10_pay_591 : decode cX10_pay 591 = .ok (.laload, 1) := by decide +kernel
theorem dX10_pay_592 : decode cX10_pay 592 = .ok (.lcmp, 1) := by decide +kernel
theorem dX10_pay_593 : decode cX10_pay 593 = .ok (.ifCond .ge 8, 3) := by decide +kernel
theorem dX10_pay_596 : decode cX10_pay 596 = .ok (.lload 5, 2) := by decide +kernel
theorem dX10_pay_598 : decode cX10_pay 598 = .ok (.goto 10, 3) := by decide +kernel
theorem dX10_pay_601 : decode cX10_pay 601 = .ok (.aload_n 0, 1) := by decide +kernel
theorem dX10_pay_602 : decode cX10_pay 602 = .ok (.getfield 105, 3) := by decide +kernel
theorem dX10_pay_605 : decode cX10_pay 605 = .ok (.iload 7, 2) := by decide +kernel
theorem dX10_pay_607 : decode cX10_pay 607 = .ok (.laload, 1) := by decide +kernel
theorem dX10_pay_608 : decode cX10_pay 608 = .ok (.lstore 8, 2) := by decide +kernel
theorem dX10_pay_610 : decode cX10_pay 610 = .ok (.aload_n 0, 1) := by decide +kernel
theorem dX10_pay_611 : decode cX10_pay 611 = .ok (.getfield 105, 3) := by decide +kernel
theorem dX10_pay_614 : decode cX10_pay 614 = .ok (.iload 7, 2) := by decide +kernel
theorem dX10_pay_616 : decode cX10_pay 616 = .ok (.dup2, 1) := by decide +kernel
theorem dX10_pay_617 : decode cX10_pay 617 = .ok (.laload, 1) := by decide +kernel
theorem dX10_pay_618 : decode cX10_pay 618 = .ok (.lload 8, 2) := by decide +kernel
theorem dX10_pay_620 : decode cX10_pay 620 = .ok (.lsub, 1) := by decide +kernel
theorem dX10_pay_621 : decode cX10_pay 621 = .ok (.lastore, 1) := by decide +kernel
theorem dX10_pay_622 : decode cX10_pay 622 = .ok (.aload_n 0, 1) := by decide +kernel
theorem dX10_pay_623 : decode cX10_pay 623 = .ok (.getfield 120, 3) := by decide +kernel
theorem dX10_pay_626 : decode cX10_pay 626 = .ok (.iload 7, 2) := by decide +kernel
theorem dX10_pay_628 : decode cX10_pay 628 = .ok (.dup2, 1) := by decide +kernel
theorem dX10_pay_629 : decode cX10_pay 629 = .ok (.laload, 1) := by decide +kernel
theorem dX10_pay_630 : decode cX10_pay 630 = .ok (.lload 8, 2) := by decide +kernel
theorem dX10_pay_632 : decode cX10_pay 632 = .ok (.ladd, 1) := by decide +kernel
theorem dX10_pay_633 : decode cX10_pay 633 = .ok (.lastore, 1) := by decide +kernel
theorem dX10_pay_634 : decode cX10_pay 634 = .ok (.lload 5, 2) := by decide +kernel
theorem dX10_pay_636 : decode cX10_pay 636 = .ok (.lload 8, 2) := by decide +kernel
theorem dX10_pay_638 : decode cX10_pay 638 = .ok (.lsub, 1) := by decide +kernel
theorem dX10_pay_639 : decode cX10_pay 639 = .ok (.lstore 5, 2) := by decide +kernel
theorem dX10_pay_641 : decode cX10_pay 641 = .ok (.iinc 7 (-1), 3) := by decide +kernel
theorem dX10_pay_644 : decode cX10_pay 644 = .ok (.goto (-73), 3) := by decide +kernel
theorem dX10_pay_647 : decode cX10_pay 647 = .ok (.aload_n 0, 1) := by decide +kernel
theorem dX10_pay_648 : decode cX10_pay 648 = .ok (.getfield 138, 3) := by decide +kernel
theorem dX10_pay_651 : decode cX10_pay 651 = .ok (.iload_n 1, 1) := by decide +kernel
theorem dX10_pay_652 : decode cX10_pay 652 = .ok (.aload_n 0, 1) := by decide +kernel
theorem dX10_pay_653 : decode cX10_pay 653 = .ok (.getfield 472, 3) := by decide +kernel
theorem dX10_pay_656 : decode cX10_pay 656 = .ok (.lastore, 1) := by decide +kernel
theorem dX10_pay_657 : decode cX10_pay 657 = .ok (.return_, 1) := by decide +kernel
theorem dX10_anew_0 : decode cX10_anew 0 = .ok (.iconst 0, 1) := by decide +kernel
theorem dX10_anew_1 : decode cX10_anew 1 = .ok (.istore_n 1, 1) := by decide +kernel
theorem dX10_anew_2 : decode cX10_anew 2 = .ok (.iload_n 1, 1) := by decide +kernel
theorem dX10_anew_3 : decode cX10_anew 3 = .ok (.aload_n 0, 1) := by decide +kernel
theorem dX10_anew_4 : decode cX10_anew 4 = .ok (.getfield 444, 3) := by decide +kernel
theorem dX10_anew_7 : decode cX10_anew 7 = .ok (.if_icmp .ge 56, 3) := by decide +kernel
theorem dX10_anew_10 : decode cX10_anew 10 = .ok (.aload_n 0, 1) := by decide +kernel
theorem dX10_anew_11 : decode cX10_anew 11 = .ok (.getfield 105, 3) := by decide +kernel
theorem dX10_anew_14 : decode cX10_anew 14 = .ok (.iload_n 1, 1) := by decide +kernel
theorem dX10_anew_15 : decode cX10_anew 15 = .ok (.aload_n 0, 1) := by decide +kernel
theorem dX10_anew_16 : decode cX10_anew 16 = .ok (.getfield 99, 3) := by decide +kernel
theorem dX10_anew_19 : decode cX10_anew 19 = .ok (.iload_n 1, 1) := by decide +kernel
theorem dX10_anew_20 : decode cX10_anew 20 = .ok (.laload, 1) := by decide +kernel
theorem dX10_anew_21 : decode cX10_anew 21 = .ok (.lastore, 1) := by decide +kernel
theorem dX10_anew_22 : decode cX10_anew 22 = .ok (.aload_n 0, 1) := by decide +kernel
theorem dX10_anew_23 : decode cX10_anew 23 = .ok (.getfield 108, 3) := by decide +kernel
theorem dX10_anew_26 : decode cX10_anew 26 = .ok (.iload_n 1, 1) := by decide +kernel
theorem dX10_anew_27 : decode cX10_anew 27 = .ok (.lconst 0, 1) := by decide +kernel
theorem dX10_anew_28 : decode cX10_anew 28 = .ok (.lastore, 1) := by decide +kernel
theorem dX10_anew_29 : decode cX10_anew 29 = .ok (.aload_n 0, 1) := by decide +kernel
theorem dX10_anew_30 : decode cX10_anew 30 = .ok (.getfield 111, 3) := by decide +kernel
theorem dX10_anew_33 : decode cX10_anew 33 = .ok (.iload_n 1, 1) := by decide +kernel
theorem dX10_anew_34 : decode cX10_anew 34 = .ok (.lconst 0, 1) := by decide +kernel
theorem dX10_anew_35 : decode cX10_anew 35 = .ok (.lastore, 1) := by decide +kernel
theorem dX10_anew_36 : decode cX10_anew 36 = .ok (.aload_n 0, 1) := by decide +kernel
theorem dX10_anew_37 : decode cX10_anew 37 = .ok (.getfield 114, 3) := by decide +kernel
theorem dX10_anew_40 : decode cX10_anew 40 = .ok (.iload_n 1, 1) := by decide +kernel
theorem dX10_anew_41 : decode cX10_anew 41 = .ok (.lconst 0, 1) := by decide +kernel
theorem dX10_anew_42 : decode cX10_anew 42 = .ok (.lastore, 1) := by decide +kernel
theorem dX10_anew_43 : decode cX10_anew 43 = .ok (.aload_n 0, 1) := by decide +kernel
theorem dX10_anew_44 : decode cX10_anew 44 = .ok (.getfield 117, 3) := by decide +kernel
theorem dX10_anew_47 : decode cX10_anew 47 = .ok (.iload_n 1, 1) := by decide +kernel
theorem dX10_anew_48 : decode cX10_anew 48 = .ok (.lconst 0, 1) := by decide +kernel
theorem dX10_anew_49 : decode cX10_anew 49 = .ok (.lastore, 1) := by decide +kernel
theorem dX10_anew_50 : decode cX10_anew 50 = .ok (.aload_n 0, 1) := by decide +kernel
theorem dX10_anew_51 : decode cX10_anew 51 = .ok (.getfield 120, 3) := by decide +kernel
theorem dX10_anew_54 : decode cX10_anew 54 = .ok (.iload_n 1, 1) := by decide +kernel
theorem dX10_anew_55 : decode cX10_anew 55 = .ok (.lconst 0, 1) := by decide +kernel
theorem dX10_anew_56 : decode cX10_anew 56 = .ok (.lastore, 1) := by decide +kernel
theorem dX10_anew_57 : decode cX10_anew 57 = .ok (.iinc 1 1, 3) := by decide +kernel
theorem dX10_anew_60 : decode cX10_anew 60 = .ok (.goto (-58), 3) := by decide +kernel
theorem dX10_anew_63 : decode cX10_anew 63 = .ok (.aload_n 0, 1) := by decide +kernel
theorem dX10_anew_64 : decode cX10_anew 64 = .ok (.lconst 0, 1) := by decide +kernel
theorem dX10_anew_65 : decode cX10_anew 65 = .ok (.putfield 472, 3) := by decide +kernel
theorem dX10_anew_68 : decode cX10_anew 68 = .ok (.aload_n 0, 1) := by decide +kernel
theorem dX10_anew_69 : decode cX10_anew 69 = .ok (.lconst 0, 1) := by decide +kernel
theorem dX10_anew_70 : decode cX10_anew 70 = .ok (.putfield 454, 3) := by decide +kernel
theorem dX10_anew_73 : decode cX10_anew 73 = .ok (.aload_n 0, 1) := by decide +kernel
theorem dX10_anew_74 : decode cX10_anew 74 = .ok (.lconst 0, 1) := by decide +kernel
theorem dX10_anew_75 : decode cX10_anew 75 = .ok (.putfield 486, 3) := by decide +kernel
theorem dX10_anew_78 : decode cX10_anew 78 = .ok (.aload_n 0, 1) := by decide +kernel
theorem dX10_anew_79 : decode cX10_anew 79 = .ok (.iconst 0, 1) := by decide +kernel
theorem dX10_anew_80 : decode cX10_anew 80 = .ok (.putfield 463, 3) := by decide +kernel
theorem dX10_anew_83 : decode cX10_anew 83 = .ok (.aload_n 0, 1) := by decide +kernel
theorem dX10_anew_84 : decode cX10_anew 84 = .ok (.iconst 0, 1) := by decide +kernel
theorem dX10_anew_85 : decode cX10_anew 85 = .ok (.putfield 475, 3) := by decide +kernel
theorem dX10_anew_88 : decode cX10_anew 88 = .ok (.return_, 1) := by decide +kernel
theorem dX10_amend_0 : decode cX10_amend 0 = .ok (.iload_n 2, 1) := by decide +kernel
theorem dX10_amend_1 : decode cX10_amend 1 = .ok (.iconst 0, 1) := by decide +kernel
theorem dX10_amend_2 : decode cX10_amend 2 = .ok (.aload_n 0, 1) := by decide +kernel
theorem dX10_amend_3 : decode cX10_amend 3 = .ok (.getfield 178, 3) := by decide +kernel
theorem dX10_amend_6 : decode cX10_amend 6 = .ok (.iconst 1, 1) := by decide +kernel
theorem dX10_amend_7 : decode cX10_amend 7 = .ok (.isub, 1) := by decide +kernel
theorem dX10_amend_8 : decode cX10_amend 8 = .ok (.invokestatic 186, 3) := by decide +kernel
theorem dX10_amend_11 : decode cX10_amend 11 = .ok (.ifCond .eq 17, 3) := by decide +kernel
theorem dX10_amend_14 : decode cX10_amend 14 = .ok (.iload_n 1, 1) := by decide +kernel
theorem dX10_amend_15 : decode cX10_amend 15 = .ok (.iconst 1, 1) := by decide +kernel
theorem dX10_amend_16 : decode cX10_amend 16 = .ok (.aload_n 0, 1) := by decide +kernel
theorem dX10_amend_17 : decode cX10_amend 17 = .ok (.getfield 195, 3) := by decide +kernel
theorem dX10_amend_20 : decode cX10_amend 20 = .ok (.iconst 1, 1) := by decide +kernel
theorem dX10_amend_21 : decode cX10_amend 21 = .ok (.iadd, 1) := by decide +kernel
theorem dX10_amend_22 : decode cX10_amend 22 = .ok (.invokestatic 186, 3) := by decide +kernel
theorem dX10_amend_25 : decode cX10_amend 25 = .ok (.ifCond .ne 6, 3) := by decide +kernel
theorem dX10_amend_28 : decode cX10_amend 28 = .ok (.bipush (-2), 2) := by decide +kernel
theorem dX10_amend_30 : decode cX10_amend 30 = .ok (.ireturn, 1) := by decide +kernel
theorem dX10_amend_31 : decode cX10_amend 31 = .ok (.iload_n 1, 1) := by decide +kernel
theorem dX10_amend_32 : decode cX10_amend 32 = .ok (.istore_n 3, 1) := by decide +kernel
theorem dX10_amend_33 : decode cX10_amend 33 = .ok (.iload_n 3, 1) := by decide +kernel
theorem dX10_amend_34 : decode cX10_amend 34 = .ok (.bipush 62, 2) := by decide +kernel
theorem dX10_amend_36 : decode cX10_amend 36 = .ok (.if_icmp .ge 16, 3) := by decide +kernel
theorem dX10_amend_39 : decode cX10_amend 39 = .ok (.aload_n 0, 1) := by decide +kernel
theorem dX10_amend_40 : decode cX10_amend 40 = .ok (.getfield 126, 3) := by decide +kernel
theorem dX10_amend_43 : decode cX10_amend 43 = .ok (.iload_n 3, 1) := by decide +kernel
theorem dX10_amend_44 : decode cX10_amend 44 = .ok (.iload_n 2, 1) := by decide +kernel
theorem dX10_amend_45 : decode cX10_amend 45 = .ok (.iastore, 1) := by decide +kernel
theorem dX10_amend_46 : decode cX10_amend 46 = .ok (.iinc 3 1, 3) := by decide +kernel
theorem dX10_amend_49 : decode cX10_amend 49 = .ok (.goto (-16), 3) := by decide +kernel
theorem dX10_amend_52 : decode cX10_amend 52 = .ok (.aload_n 0, 1) := by decide +kernel
theorem dX10_amend_53 : decode cX10_amend 53 = .ok (.invokevirtual 489, 3) := by decide +kernel
theorem dX10_amend_56 : decode cX10_amend 56 = .ok (.iconst 1, 1) := by decide +kernel
theorem dX10_amend_57 : decode cX10_amend 57 = .ok (.istore_n 3, 1) := by decide +kernel
theorem dX10_amend_58 : decode cX10_amend 58 = .ok (.iload_n 3, 1) := by decide +kernel
theorem dX10_amend_59 : decode cX10_amend 59 = .ok (.aload_n 0, 1) := by decide +kernel
theorem dX10_amend_60 : decode cX10_amend 60 = .ok (.getfield 195, 3) := by decide +kernel
theorem dX10_amend_63 : decode cX10_amend 63 = .ok (.if_icmp .gt 14, 3) := by decide +kernel
theorem dX10_amend_66 : decode cX10_amend 66 = .ok (.aload_n 0, 1) := by decide +kernel
theorem dX10_amend_67 : decode cX10_amend 67 = .ok (.iload_n 3, 1) := by decide +kernel
theorem dX10_amend_68 : decode cX10_amend 68 = .ok (.invokevirtual 492, 3) := by decide +kernel
theorem dX10_amend_71 : decode cX10_amend 71 = .ok (.iinc 3 1, 3) := by decide +kernel
theorem dX10_amend_74 : decode cX10_amend 74 = .ok (.goto (-16), 3) := by decide +kernel
theorem dX10_amend_77 : decode cX10_amend 77 = .ok (.aload_n 0, 1) := by decide +kernel
theorem dX10_amend_78 : decode cX10_amend 78 = .ok (.getfield 195, 3) := by decide +kernel
theorem dX10_amend_81 : decode cX10_amend 81 = .ok (.ireturn, 1) := by decide +kernel
theorem dX10_goOn_0 : decode cX10_goOn 0 = .ok (.aload_n 0, 1) := by decide +kernel
theorem dX10_goOn_1 : decode cX10_goOn 1 = .ok (.dup, 1) := by decide +kernel
theorem dX10_goOn_2 : decode cX10_goOn 2 = .ok (.getfield 195, 3) := by decide +kernel
theorem dX10_goOn_5 : decode cX10_goOn 5 = .ok (.iconst 1, 1) := by decide +kernel
theorem dX10_goOn_6 : decode cX10_goOn 6 = .ok (.iadd, 1) := by decide +kernel
theorem dX10_goOn_7 : decode cX10_goOn 7 = .ok (.putfield 195, 3) := by decide +kernel
theorem dX10_goOn_10 : decode cX10_goOn 10 = .ok (.aload_n 0, 1) := by decide +kernel
theorem dX10_goOn_11 : decode cX10_goOn 11 = .ok (.aload_n 0, 1) := by decide +kernel
theorem dX10_goOn_12 : decode cX10_goOn 12 = .ok (.getfield 195, 3) := by decide +kernel
theorem dX10_goOn_15 : decode cX10_goOn 15 = .ok (.invokevirtual 495, 3) := by decide +kernel
theorem dX10_goOn_18 : decode cX10_goOn 18 = .ok (.aload_n 0, 1) := by decide +kernel
theorem dX10_goOn_19 : decode cX10_goOn 19 = .ok (.aload_n 0, 1) := by decide +kernel
theorem dX10_goOn_20 : decode cX10_goOn 20 = .ok (.getfield 195, 3) := by decide +kernel
theorem dX10_goOn_23 : decode cX10_goOn 23 = .ok (.invokevirtual 492, 3) := by decide +kernel
theorem dX10_goOn_26 : decode cX10_goOn 26 = .ok (.return_, 1) := by decide +kernel
theorem dX10_run_0 : decode cX10_run 0 = .ok (.iload_n 1, 1) := by decide +kernel
theorem dX10_run_1 : decode cX10_run 1 = .ok (.iconst 1, 1) := by decide +kernel
theorem dX10_run_2 : decode cX10_run 2 = .ok (.bipush 12, 2) := by decide +kernel
theorem dX10_run_4 : decode cX10_run 4 = .ok (.invokestatic 186, 3) := by decide +kernel
theorem dX10_run_7 : decode cX10_run 7 = .ok (.ifCond .ne 6, 3) := by decide +kernel
theorem dX10_run_10 : decode cX10_run 10 = .ok (.bipush (-2), 2) := by decide +kernel
theorem dX10_run_12 : decode cX10_run 12 = .ok (.ireturn, 1) := by decide +kernel
theorem dX10_run_13 : decode cX10_run 13 = .ok (.aload_n 0, 1) := by decide +kernel
theorem dX10_run_14 : decode cX10_run 14 = .ok (.getfield 195, 3) := by decide +kernel
theorem dX10_run_17 : decode cX10_run 17 = .ok (.iload_n 1, 1) := by decide +kernel
theorem dX10_run_18 : decode cX10_run 18 = .ok (.iadd, 1) := by decide +kernel
theorem dX10_run_19 : decode cX10_run 19 = .ok (.bipush 60, 2) := by decide +kernel
theorem dX10_run_21 : decode cX10_run 21 = .ok (.if_icmp .le 6, 3) := by decide +kernel
theorem dX10_run_24 : decode cX10_run 24 = .ok (.bipush (-4), 2) := by decide +kernel
theorem dX10_run_26 : decode cX10_run 26 = .ok (.ireturn, 1) := by decide +kernel
theorem dX10_run_27 : decode cX10_run 27 = .ok (.iconst 0, 1) := by decide +kernel
theorem dX10_run_28 : decode cX10_run 28 = .ok (.istore_n 2, 1) := by decide +kernel
theorem dX10_run_29 : decode cX10_run 29 = .ok (.iload_n 2, 1) := by decide +kernel
theorem dX10_run_30 : decode cX10_run 30 = .ok (.iload_n 1, 1) := by decide +kernel
theorem dX10_run_31 : decode cX10_run 31 = .ok (.if_icmp .ge 13, 3) := by decide +kernel
theorem dX10_run_34 : decode cX10_run 34 = .ok (.aload_n 0, 1) := by decide +kernel
theorem dX10_run_35 : decode cX10_run 35 = .ok (.invokevirtual 498, 3) := by decide +kernel
theorem dX10_run_38 : decode cX10_run 38 = .ok (.iinc 2 1, 3) := by decide +kernel
theorem dX10_run_41 : decode cX10_run 41 = .ok (.goto (-12), 3) := by decide +kernel
theorem dX10_run_44 : decode cX10_run 44 = .ok (.aload_n 0, 1) := by decide +kernel
theorem dX10_run_45 : decode cX10_run 45 = .ok (.getfield 195, 3) := by decide +kernel
theorem dX10_run_48 : decode cX10_run 48 = .ok (.ireturn, 1) := by decide +kernel
theorem dX10_month_0 : decode cX10_month 0 = .ok (.iload_n 1, 1) := by decide +kernel
theorem dX10_month_1 : decode cX10_month 1 = .ok (.iconst 1, 1) := by decide +kernel
theorem dX10_month_2 : decode cX10_month 2 = .ok (.aload_n 0, 1) := by decide +kernel
theorem dX10_month_3 : decode cX10_month 3 = .ok (.getfield 195, 3) := by decide +kernel
theorem dX10_month_6 : decode cX10_month 6 = .ok (.invokestatic 186, 3) := by decide +kernel
theorem dX10_month_9 : decode cX10_month 9 = .ok (.ifCond .eq 13, 3) := by decide +kernel
theorem dX10_month_12 : decode cX10_month 12 = .ok (.iload_n 2, 1) := by decide +kernel
theorem dX10_month_13 : decode cX10_month 13 = .ok (.iconst 0, 1) := by decide +kernel
theorem dX10_month_14 : decode cX10_month 14 = .ok (.bipush 11, 2) := by decide +kernel
theorem dX10_month_16 : decode cX10_month 16 = .ok (.invokestatic 186, 3) := by decide +kernel
theorem dX10_month_19 : decode cX10_month 19 = .ok (.ifCond .ne 6, 3) := by decide +kernel
theorem dX10_month_22 : decode cX10_month 22 = .ok (.bipush (-2), 2) := by decide +kernel
theorem dX10_month_24 : decode cX10_month 24 = .ok (.ireturn, 1) := by decide +kernel
theorem dX10_month_25 : decode cX10_month 25 = .ok (.iload_n 2, 1) := by decide +kernel
theorem dX10_month_26 : decode cX10_month 26 = .ok (.tableswitch 152 0 10 #[58, 66, 74, 82, 90, 98, 106, 114, 122, 129, 137], 58) := by decide +kernel
theorem dX10_month_84 : decode cX10_month 84 = .ok (.aload_n 0, 1) := by decide +kernel
theorem dX10_month_85 : decode cX10_month 85 = .ok (.getfield 41, 3) := by decide +kernel
theorem dX10_month_88 : decode cX10_month 88 = .ok (.iload_n 1, 1) := by decide +kernel
theorem dX10_month_89 : decode cX10_month 89 = .ok (.laload, 1) := by decide +kernel
theorem dX10_month_90 : decode cX10_month 90 = .ok (.l2i, 1) := by decide +kernel
theorem dX10_month_91 : decode cX10_month 91 = .ok (.ireturn, 1) := by decide +kernel
theorem dX10_month_92 : decode cX10_month 92 = .ok (.aload_n 0, 1) := by decide +kernel
theorem dX10_month_93 : decode cX10_month 93 = .ok (.getfield 45, 3) := by decide +kernel
theorem dX10_month_96 : decode cX10_month 96 = .ok (.iload_n 1, 1) := by decide +kernel
theorem dX10_month_97 : decode cX10_month 97 = .ok (.laload, 1) := by decide +kernel
theorem dX10_month_98 : decode cX10_month 98 = .ok (.l2i, 1) := by decide +kernel
theorem dX10_month_99 : decode cX10_month 99 = .ok (.ireturn, 1) := by decide +kernel
theorem dX10_month_100 : decode cX10_month 100 = .ok (.aload_n 0, 1) := by decide +kernel
theorem dX10_month_101 : decode cX10_month 101 = .ok (.getfield 48, 3) := by decide +kernel
theorem dX10_month_104 : decode cX10_month 104 = .ok (.iload_n 1, 1) := by decide +kernel
theorem dX10_month_105 : decode cX10_month 105 = .ok (.laload, 1) := by decide +kernel
theorem dX10_month_106 : decode cX10_month 106 = .ok (.l2i, 1) := by decide +kernel
theorem dX10_month_107 : decode cX10_month 107 = .ok (.ireturn, 1) := by decide +kernel
theorem dX10_month_108 : decode cX10_month 108 = .ok (.aload_n 0, 1) := by decide +kernel
theorem dX10_month_109 : decode cX10_month 109 = .ok (.getfield 51, 3) := by decide +kernel
theorem dX10_month_112 : decode cX10_month 112 = .ok (.iload_n 1, 1) := by decide +kernel
theorem dX10_month_113 : decode cX10_month 113 = .ok (.laload, 1) := by decide +kernel
theorem dX10_month_114 : decode cX10_month 114 = .ok (.l2i, 1) := by decide +kernel
theorem dX10_month_115 : decode cX10_month 115 = .ok (.ireturn, 1) := by decide +kernel
theorem dX10_month_116 : decode cX10_month 116 = .ok (.aload_n 0, 1) := by decide +kernel
theorem dX10_month_117 : decode cX10_month 117 = .ok (.getfield 54, 3) := by decide +kernel
theorem dX10_month_120 : decode cX10_month 120 = .ok (.iload_n 1, 1) := by decide +kernel
theorem dX10_month_121 : decode cX10_month 121 = .ok (.laload, 1) := by decide +kernel
theorem dX10_month_122 : decode cX10_month 122 = .ok (.l2i, 1) := by decide +kernel
theorem dX10_month_123 : decode cX10_month 123 = .ok (.ireturn, 1) := by decide +kernel
theorem dX10_month_124 : decode cX10_month 124 = .ok (.aload_n 0, 1) := by decide +kernel
theorem dX10_month_125 : decode cX10_month 125 = .ok (.getfield 135, 3) := by decide +kernel
theorem dX10_month_128 : decode cX10_month 128 = .ok (.iload_n 1, 1) := by decide +kernel
theorem dX10_month_129 : decode cX10_month 129 = .ok (.laload, 1) := by decide +kernel
theorem dX10_month_130 : decode cX10_month 130 = .ok (.l2i, 1) := by decide +kernel
theorem dX10_month_131 : decode cX10_month 131 = .ok (.ireturn, 1) := by decide +kernel
theorem dX10_month_132 : decode cX10_month 132 = .ok (.aload_n 0, 1) := by decide +kernel
theorem dX10_month_133 : decode cX10_month 133 = .ok (.getfield 60, 3) := by decide +kernel
theorem dX10_month_136 : decode cX10_month 136 = .ok (.iload_n 1, 1) := by decide +kernel
theorem dX10_month_137 : decode cX10_month 137 = .ok (.laload, 1) := by decide +kernel
theorem dX10_month_138 : decode cX10_month 138 = .ok (.l2i, 1) := by decide +kernel
theorem dX10_month_139 : decode cX10_month 139 = .ok (.ireturn, 1) := by decide +kernel
theorem dX10_month_140 : decode cX10_month 140 = .ok (.aload_n 0, 1) := by decide +kernel
theorem dX10_month_141 : decode cX10_month 141 = .ok (.getfield 63, 3) := by decide +kernel
theorem dX10_month_144 : decode cX10_month 144 = .ok (.iload_n 1, 1) := by decide +kernel
theorem dX10_month_145 : decode cX10_month 145 = .ok (.laload, 1) := by decide +kernel
theorem dX10_month_146 : decode cX10_month 146 = .ok (.l2i, 1) := by decide +kernel
theorem dX10_month_147 : decode cX10_month 147 = .ok (.ireturn, 1) := by decide +kernel
theorem dX10_month_148 : decode cX10_month 148 = .ok (.aload_n 0, 1) := by decide +kernel
theorem dX10_month_149 : decode cX10_month 149 = .ok (.getfield 66, 3) := by decide +kernel
theorem dX10_month_152 : decode cX10_month 152 = .ok (.iload_n 1, 1) := by decide +kernel
theorem dX10_month_153 : decode cX10_month 153 = .ok (.iaload, 1) := by decide +kernel
theorem dX10_month_154 : decode cX10_month 154 = .ok (.ireturn, 1) := by decide +kernel
theorem dX10_month_155 : decode cX10_month 155 = .ok (.aload_n 0, 1) := by decide +kernel
theorem dX10_month_156 : decode cX10_month 156 = .ok (.getfield 138, 3) := by decide +kernel
theorem dX10_month_159 : decode cX10_month 159 = .ok (.iload_n 1, 1) := by decide +kernel
theorem dX10_month_160 : decode cX10_month 160 = .ok (.laload, 1) := by decide +kernel
theorem dX10_month_161 : decode cX10_month 161 = .ok (.l2i, 1) := by decide +kernel
theorem dX10_month_162 : decode cX10_month 162 = .ok (.ireturn, 1) := by decide +kernel
theorem dX10_month_163 : decode cX10_month 163 = .ok (.aload_n 0, 1) := by decide +kernel
theorem dX10_month_164 : decode cX10_month 164 = .ok (.getfield 141, 3) := by decide +kernel
theorem dX10_month_167 : decode cX10_month 167 = .ok (.iload_n 1, 1) := by decide +kernel
theorem dX10_month_168 : decode cX10_month 168 = .ok (.baload, 1) := by decide +kernel
theorem dX10_month_169 : decode cX10_month 169 = .ok (.ifCond .eq 7, 3) := by decide +kernel
theorem dX10_month_172 : decode cX10_month 172 = .ok (.iconst 1, 1) := by decide +kernel
theorem dX10_month_173 : decode cX10_month 173 = .ok (.goto 4, 3) := by decide +kernel
theorem dX10_month_176 : decode cX10_month 176 = .ok (.iconst 0, 1) := by decide +kernel
theorem dX10_month_177 : decode cX10_month 177 = .ok (.ireturn, 1) := by decide +kernel
theorem dX10_month_178 : decode cX10_month 178 = .ok (.aload_n 0, 1) := by decide +kernel
theorem dX10_month_179 : decode cX10_month 179 = .ok (.getfield 126, 3) := by decide +kernel
theorem dX10_month_182 : decode cX10_month 182 = .ok (.iload_n 1, 1) := by decide +kernel
theorem dX10_month_183 : decode cX10_month 183 = .ok (.iaload, 1) := by decide +kernel
theorem dX10_month_184 : decode cX10_month 184 = .ok (.ireturn, 1) := by decide +kernel
theorem dX10_paid_0 : decode cX10_paid 0 = .ok (.iload_n 1, 1) := by decide +kernel
theorem dX10_paid_1 : decode cX10_paid 1 = .ok (.iconst 1, 1) := by decide +kernel
theorem dX10_paid_2 : decode cX10_paid 2 = .ok (.aload_n 0, 1) := by decide +kernel
theorem dX10_paid_3 : decode cX10_paid 3 = .ok (.getfield 195, 3) := by decide +kernel
theorem dX10_paid_6 : decode cX10_paid 6 = .ok (.invokestatic 186, 3) := by decide +kernel
theorem dX10_paid_9 : decode cX10_paid 9 = .ok (.ifCond .ne 6, 3) := by decide +kernel
theorem dX10_paid_12 : decode cX10_paid 12 = .ok (.bipush (-2), 2) := by decide +kernel
theorem dX10_paid_14 : decode cX10_paid 14 = .ok (.ireturn, 1) := by decide +kernel
theorem dX10_paid_15 : decode cX10_paid 15 = .ok (.iload_n 2, 1) := by decide +kernel
theorem dX10_paid_16 : decode cX10_paid 16 = .ok (.iconst 0, 1) := by decide +kernel
theorem dX10_paid_17 : decode cX10_paid 17 = .ok (.aload_n 0, 1) := by decide +kernel
theorem dX10_paid_18 : decode cX10_paid 18 = .ok (.getfield 78, 3) := by decide +kernel
theorem dX10_paid_21 : decode cX10_paid 21 = .ok (.aload_n 0, 1) := by decide +kernel
theorem dX10_paid_22 : decode cX10_paid 22 = .ok (.getfield 126, 3) := by decide +kernel
theorem dX10_paid_25 : decode cX10_paid 25 = .ok (.iload_n 1, 1) := by decide +kernel
theorem dX10_paid_26 : decode cX10_paid 26 = .ok (.iaload, 1) := by decide +kernel
theorem dX10_paid_27 : decode cX10_paid 27 = .ok (.iaload, 1) := by decide +kernel
theorem dX10_paid_28 : decode cX10_paid 28 = .ok (.iconst 1, 1) := by decide +kernel
theorem dX10_paid_29 : decode cX10_paid 29 = .ok (.isub, 1) := by decide +kernel
theorem dX10_paid_30 : decode cX10_paid 30 = .ok (.invokestatic 186, 3) := by decide +kernel
theorem dX10_paid_33 : decode cX10_paid 33 = .ok (.ifCond .eq 18, 3) := by decide +kernel
theorem dX10_paid_36 : decode cX10_paid 36 = .ok (.aload_n 0, 1) := by decide +kernel
theorem dX10_paid_37 : decode cX10_paid 37 = .ok (.getfield 145, 3) := by decide +kernel
theorem dX10_paid_40 : decode cX10_paid 40 = .ok (.bipush 10, 2) := by decide +kernel
theorem dX10_paid_42 : decode cX10_paid 42 = .ok (.iload_n 1, 1) := by decide +kernel
theorem dX10_paid_43 : decode cX10_paid 43 = .ok (.imul, 1) := by decide +kernel
theorem dX10_paid_44 : decode cX10_paid 44 = .ok (.iload_n 2, 1) := by decide +kernel
theorem dX10_paid_45 : decode cX10_paid 45 = .ok (.iadd, 1) := by decide +kernel
theorem dX10_paid_46 : decode cX10_paid 46 = .ok (.laload, 1) := by decide +kernel
theorem dX10_paid_47 : decode cX10_paid 47 = .ok (.l2i, 1) := by decide +kernel
theorem dX10_paid_48 : decode cX10_paid 48 = .ok (.goto 4, 3) := by decide +kernel
theorem dX10_paid_51 : decode cX10_paid 51 = .ok (.iconst (-1), 1) := by decide +kernel
theorem dX10_paid_52 : decode cX10_paid 52 = .ok (.ireturn, 1) := by decide +kernel
theorem dX10_pass_0 : decode cX10_pass 0 = .ok (.iload_n 1, 1) := by decide +kernel
theorem dX10_pass_1 : decode cX10_pass 1 = .ok (.ifCond .eq 13, 3) := by decide +kernel
theorem dX10_pass_4 : decode cX10_pass 4 = .ok (.aload_n 0, 1) := by decide +kernel
theorem dX10_pass_5 : decode cX10_pass 5 = .ok (.getfield 148, 3) := by decide +kernel
theorem dX10_pass_8 : decode cX10_pass 8 = .ok (.aload_n 0, 1) := by decide +kernel
theorem dX10_pass_9 : decode cX10_pass 9 = .ok (.getfield 501, 3) := by decide +kernel
theorem dX10_pass_12 : decode cX10_pass 12 = .ok (.lload_n 2, 1) := by decide +kernel
theorem dX10_pass_13 : decode cX10_pass 13 = .ok (.lastore, 1) := by decide +kernel
theorem dX10_pass_14 : decode cX10_pass 14 = .ok (.aload_n 0, 1) := by decide +kernel
theorem dX10_pass_15 : decode cX10_pass 15 = .ok (.dup, 1) := by decide +kernel
theorem dX10_pass_16 : decode cX10_pass 16 = .ok (.getfield 501, 3) := by decide +kernel
theorem dX10_pass_19 : decode cX10_pass 19 = .ok (.iconst 1, 1) := by decide +kernel
theorem dX10_pass_20 : decode cX10_pass 20 = .ok (.iadd, 1) := by decide +kernel
theorem dX10_pass_21 : decode cX10_pass 21 = .ok (.putfield 501, 3) := by decide +kernel
theorem dX10_pass_24 : decode cX10_pass 24 = .ok (.aload_n 0, 1) := by decide +kernel
theorem dX10_pass_25 : decode cX10_pass 25 = .ok (.getfield 148, 3) := by decide +kernel
theorem dX10_pass_28 : decode cX10_pass 28 = .ok (.aload_n 0, 1) := by decide +kernel
theorem dX10_pass_29 : decode cX10_pass 29 = .ok (.getfield 501, 3) := by decide +kernel
theorem dX10_pass_32 : decode cX10_pass 32 = .ok (.iconst 1, 1) := by decide +kernel
theorem dX10_pass_33 : decode cX10_pass 33 = .ok (.isub, 1) := by decide +kernel
theorem dX10_pass_34 : decode cX10_pass 34 = .ok (.laload, 1) := by decide +kernel
theorem dX10_pass_35 : decode cX10_pass 35 = .ok (.lreturn, 1) := by decide +kernel
theorem dX10_turn_0 : decode cX10_turn 0 = .ok (.aload_n 0, 1) := by decide +kernel
theorem dX10_turn_1 : decode cX10_turn 1 = .ok (.iconst 0, 1) := by decide +kernel
theorem dX10_turn_2 : decode cX10_turn 2 = .ok (.putfield 501, 3) := by decide +kernel
theorem dX10_turn_5 : decode cX10_turn 5 = .ok (.iconst 0, 1) := by decide +kernel
theorem dX10_turn_6 : decode cX10_turn 6 = .ok (.istore_n 2, 1) := by decide +kernel
theorem dX10_turn_7 : decode cX10_turn 7 = .ok (.iload_n 2, 1) := by decide +kernel
theorem dX10_turn_8 : decode cX10_turn 8 = .ok (.aload_n 0, 1) := by decide +kernel
theorem dX10_turn_9 : decode cX10_turn 9 = .ok (.getfield 183, 3) := by decide +kernel
theorem dX10_turn_12 : decode cX10_turn 12 = .ok (.if_icmp .ge 142, 3) := by decide +kernel
theorem dX10_turn_15 : decode cX10_turn 15 = .ok (.aload_n 0, 1) := by decide +kernel
theorem dX10_turn_16 : decode cX10_turn 16 = .ok (.getfield 17, 3) := by decide +kernel
theorem dX10_turn_19 : decode cX10_turn 19 = .ok (.iload_n 2, 1) := by decide +kernel
theorem dX10_turn_20 : decode cX10_turn 20 = .ok (.aload_n 0, 1) := by decide +kernel
theorem dX10_turn_21 : decode cX10_turn 21 = .ok (.iload_n 1, 1) := by decide +kernel
theorem dX10_turn_22 : decode cX10_turn 22 = .ok (.aload_n 0, 1) := by decide +kernel
theorem dX10_turn_23 : decode cX10_turn 23 = .ok (.getfield 17, 3) := by decide +kernel
theorem dX10_turn_26 : decode cX10_turn 26 = .ok (.iload_n 2, 1) := by decide +kernel
theorem dX10_turn_27 : decode cX10_turn 27 = .ok (.iaload, 1) := by decide +kernel
theorem dX10_turn_28 : decode cX10_turn 28 = .ok (.i2l, 1) := by decide +kernel
theorem dX10_turn_29 : decode cX10_turn 29 = .ok (.invokevirtual 504, 3) := by decide +kernel
theorem dX10_turn_32 : decode cX10_turn 32 = .ok (.l2i, 1) := by decide +kernel
theorem dX10_turn_33 : decode cX10_turn 33 = .ok (.iastore, 1) := by decide +kernel
theorem dX10_turn_34 : decode cX10_turn 34 = .ok (.aload_n 0, 1) := by decide +kernel
theorem dX10_turn_35 : decode cX10_turn 35 = .ok (.getfield 20, 3) := by decide +kernel
theorem dX10_turn_38 : decode cX10_turn 38 = .ok (.iload_n 2, 1) := by decide +kernel
theorem dX10_turn_39 : decode cX10_turn 39 = .ok (.aload_n 0, 1) := by decide +kernel
theorem dX10_turn_40 : decode cX10_turn 40 = .ok (.iload_n 1, 1) := by decide +kernel
theorem dX10_turn_41 : decode cX10_turn 41 = .ok (.aload_n 0, 1) := by decide +kernel
theorem dX10_turn_42 : decode cX10_turn 42 = .ok (.getfield 20, 3) := by decide +kernel
theorem dX10_turn_45 : decode cX10_turn 45 = .ok (.iload_n 2, 1) := by decide +kernel
theorem dX10_turn_46 : decode cX10_turn 46 = .ok (.iaload, 1) := by decide +kernel
theorem dX10_turn_47 : decode cX10_turn 47 = .ok (.i2l, 1) := by decide +kernel
theorem dX10_turn_48 : decode cX10_turn 48 = .ok (.invokevirtual 504, 3) := by decide +kernel
theorem dX10_turn_51 : decode cX10_turn 51 = .ok (.l2i, 1) := by decide +kernel
theorem dX10_turn_52 : decode cX10_turn 52 = .ok (.iastore, 1) := by decide +kernel
theorem dX10_turn_53 : decode cX10_turn 53 = .ok (.aload_n 0, 1) := by decide +kernel
theorem dX10_turn_54 : decode cX10_turn 54 = .ok (.getfield 23, 3) := by decide +kernel
theorem dX10_turn_57 : decode cX10_turn 57 = .ok (.iload_n 2, 1) := by decide +kernel
theorem dX10_turn_58 : decode cX10_turn 58 = .ok (.aload_n 0, 1) := by decide +kernel
theorem dX10_turn_59 : decode cX10_turn 59 = .ok (.iload_n 1, 1) := by decide +kernel
theorem dX10_turn_60 : decode cX10_turn 60 = .ok (.aload_n 0, 1) := by decide +kernel
theorem dX10_turn_61 : decode cX10_turn 61 = .ok (.getfield 23, 3) := by decide +kernel
theorem dX10_turn_64 : decode cX10_turn 64 = .ok (.iload_n 2, 1) := by decide +kernel
theorem dX10_turn_65 : decode cX10_turn 65 = .ok (.iaload, 1) := by decide +kernel
theorem dX10_turn_66 : decode cX10_turn 66 = .ok (.i2l, 1) := by decide +kernel
theorem dX10_turn_67 : decode cX10_turn 67 = .ok (.invokevirtual 504, 3) := by decide +kernel
theorem dX10_turn_70 : decode cX10_turn 70 = .ok (.l2i, 1) := by decide +kernel
theorem dX10_turn_71 : decode cX10_turn 71 = .ok (.iastore, 1) := by decide +kernel
theorem dX10_turn_72 : decode cX10_turn 72 = .ok (.aload_n 0, 1) := by decide +kernel
theorem dX10_turn_73 : decode cX10_turn 73 = .ok (.getfield 26, 3) := by decide +kernel
theorem dX10_turn_76 : decode cX10_turn 76 = .ok (.iload_n 2, 1) := by decide +kernel
theorem dX10_turn_77 : decode cX10_turn 77 = .ok (.aload_n 0, 1) := by decide +kernel
theorem dX10_turn_78 : decode cX10_turn 78 = .ok (.iload_n 1, 1) := by decide +kernel
theorem dX10_turn_79 : decode cX10_turn 79 = .ok (.aload_n 0, 1) := by decide +kernel
theorem dX10_turn_80 : decode cX10_turn 80 = .ok (.getfield 26, 3) := by decide +kernel
theorem dX10_turn_83 : decode cX10_turn 83 = .ok (.iload_n 2, 1) := by decide +kernel
theorem dX10_turn_84 : decode cX10_turn 84 = .ok (.iaload, 1) := by decide +kernel
theorem dX10_turn_85 : decode cX10_turn 85 = .ok (.i2l, 1) := by decide +kernel
theorem dX10_turn_86 : decode cX10_turn 86 = .ok (.invokevirtual 504, 3) := by decide +kernel
theorem dX10_turn_89 : decode cX10_turn 89 = .ok (.l2i, 1) := by decide +kernel
theorem dX10_turn_90 : decode cX10_turn 90 = .ok (.iastore, 1) := by decide +kernel
theorem dX10_turn_91 : decode cX10_turn 91 = .ok (.aload_n 0, 1) := by decide +kernel
theorem dX10_turn_92 : decode cX10_turn 92 = .ok (.getfield 29, 3) := by decide +kernel
theorem dX10_turn_95 : decode cX10_turn 95 = .ok (.iload_n 2, 1) := by decide +kernel
theorem dX10_turn_96 : decode cX10_turn 96 = .ok (.aload_n 0, 1) := by decide +kernel
theorem dX10_turn_97 : decode cX10_turn 97 = .ok (.iload_n 1, 1) := by decide +kernel
theorem dX10_turn_98 : decode cX10_turn 98 = .ok (.aload_n 0, 1) := by decide +kernel
theorem dX10_turn_99 : decode cX10_turn 99 = .ok (.getfield 29, 3) := by decide +kernel
theorem dX10_turn_102 : decode cX10_turn 102 = .ok (.iload_n 2, 1) := by decide +kernel
theorem dX10_turn_103 : decode cX10_turn 103 = .ok (.iaload, 1) := by decide +kernel
theorem dX10_turn_104 : decode cX10_turn 104 = .ok (.i2l, 1) := by decide +kernel
theorem dX10_turn_105 : decode cX10_turn 105 = .ok (.invokevirtual 504, 3) := by decide +kernel
theorem dX10_turn_108 : decode cX10_turn 108 = .ok (.l2i, 1) := by decide +kernel
theorem dX10_turn_109 : decode cX10_turn 109 = .ok (.iastore, 1) := by decide +kernel
theorem dX10_turn_110 : decode cX10_turn 110 = .ok (.aload_n 0, 1) := by decide +kernel
theorem dX10_turn_111 : decode cX10_turn 111 = .ok (.getfield 32, 3) := by decide +kernel
theorem dX10_turn_114 : decode cX10_turn 114 = .ok (.iload_n 2, 1) := by decide +kernel
theorem dX10_turn_115 : decode cX10_turn 115 = .ok (.aload_n 0, 1) := by decide +kernel
theorem dX10_turn_116 : decode cX10_turn 116 = .ok (.iload_n 1, 1) := by decide +kernel
theorem dX10_turn_117 : decode cX10_turn 117 = .ok (.aload_n 0, 1) := by decide +kernel
theorem dX10_turn_118 : decode cX10_turn 118 = .ok (.getfield 32, 3) := by decide +kernel
theorem dX10_turn_121 : decode cX10_turn 121 = .ok (.iload_n 2, 1) := by decide +kernel
theorem dX10_turn_122 : decode cX10_turn 122 = .ok (.iaload, 1) := by decide +kernel
theorem dX10_turn_123 : decode cX10_turn 123 = .ok (.i2l, 1) := by decide +kernel
theorem dX10_turn_124 : decode cX10_turn 124 = .ok (.invokevirtual 504, 3) := by decide +kernel
theorem dX10_turn_127 : decode cX10_turn 127 = .ok (.l2i, 1) := by decide +kernel
theorem dX10_turn_128 : decode cX10_turn 128 = .ok (.iastore, 1) := by decide +kernel
theorem dX10_turn_129 : decode cX10_turn 129 = .ok (.aload_n 0, 1) := by decide +kernel
theorem dX10_turn_130 : decode cX10_turn 130 = .ok (.getfield 35, 3) := by decide +kernel
theorem dX10_turn_133 : decode cX10_turn 133 = .ok (.iload_n 2, 1) := by decide +kernel
theorem dX10_turn_134 : decode cX10_turn 134 = .ok (.aload_n 0, 1) := by decide +kernel
theorem dX10_turn_135 : decode cX10_turn 135 = .ok (.iload_n 1, 1) := by decide +kernel
theorem dX10_turn_136 : decode cX10_turn 136 = .ok (.aload_n 0, 1) := by decide +kernel
theorem dX10_turn_137 : decode cX10_turn 137 = .ok (.getfield 35, 3) := by decide +kernel
theorem dX10_turn_140 : decode cX10_turn 140 = .ok (.iload_n 2, 1) := by decide +kernel
theorem dX10_turn_141 : decode cX10_turn 141 = .ok (.iaload, 1) := by decide +kernel
theorem dX10_turn_142 : decode cX10_turn 142 = .ok (.i2l, 1) := by decide +kernel
theorem dX10_turn_143 : decode cX10_turn 143 = .ok (.invokevirtual 504, 3) := by decide +kernel
theorem dX10_turn_146 : decode cX10_turn 146 = .ok (.l2i, 1) := by decide +kernel
theorem dX10_turn_147 : decode cX10_turn 147 = .ok (.iastore, 1) := by decide +kernel
theorem dX10_turn_148 : decode cX10_turn 148 = .ok (.iinc 2 1, 3) := by decide +kernel
theorem dX10_turn_151 : decode cX10_turn 151 = .ok (.goto (-144), 3) := by decide +kernel
theorem dX10_turn_154 : decode cX10_turn 154 = .ok (.iconst 0, 1) := by decide +kernel
theorem dX10_turn_155 : decode cX10_turn 155 = .ok (.istore_n 2, 1) := by decide +kernel
theorem dX10_turn_156 : decode cX10_turn 156 = .ok (.iload_n 2, 1) := by decide +kernel
theorem dX10_turn_157 : decode cX10_turn 157 = .ok (.aload_n 0, 1) := by decide +kernel
theorem dX10_turn_158 : decode cX10_turn 158 = .ok (.getfield 444, 3) := by decide +kernel
theorem dX10_turn_161 : decode cX10_turn 161 = .ok (.if_icmp .ge 111, 3) := by decide +kernel
theorem dX10_turn_164 : decode cX10_turn 164 = .ok (.aload_n 0, 1) := by decide +kernel
theorem dX10_turn_165 : decode cX10_turn 165 = .ok (.getfield 105, 3) := by decide +kernel
theorem dX10_turn_168 : decode cX10_turn 168 = .ok (.iload_n 2, 1) := by decide +kernel
theorem dX10_turn_169 : decode cX10_turn 169 = .ok (.aload_n 0, 1) := by decide +kernel
theorem dX10_turn_170 : decode cX10_turn 170 = .ok (.iload_n 1, 1) := by decide +kernel
theorem dX10_turn_171 : decode cX10_turn 171 = .ok (.aload_n 0, 1) := by decide +kernel
theorem dX10_turn_172 : decode cX10_turn 172 = .ok (.getfield 105, 3) := by decide +kernel
theorem dX10_turn_175 : decode cX10_turn 175 = .ok (.iload_n 2, 1) := by decide +kernel
theorem dX10_turn_176 : decode cX10_turn 176 = .ok (.laload, 1) := by decide +kernel
theorem dX10_turn_177 : decode cX10_turn 177 = .ok (.invokevirtual 504, 3) := by decide +kernel
theorem dX10_turn_180 : decode cX10_turn 180 = .ok (.lastore, 1) := by decide +kernel
theorem dX10_turn_181 : decode cX10_turn 181 = .ok (.aload_n 0, 1) := by decide +kernel
theorem dX10_turn_182 : decode cX10_turn 182 = .ok (.getfield 108, 3) := by decide +kernel
theorem dX10_turn_185 : decode cX10_turn 185 = .ok (.iload_n 2, 1) := by decide +kernel
theorem dX10_turn_186 : decode cX10_turn 186 = .ok (.aload_n 0, 1) := by decide +kernel
theorem dX10_turn_187 : decode cX10_turn 187 = .ok (.iload_n 1, 1) := by decide +kernel
theorem dX10_turn_188 : decode cX10_turn 188 = .ok (.aload_n 0, 1) := by decide +kernel
theorem dX10_turn_189 : decode cX10_turn 189 = .ok (.getfield 108, 3) := by decide +kernel
theorem dX10_turn_192 : decode cX10_turn 192 = .ok (.iload_n 2, 1) := by decide +kernel
theorem dX10_turn_193 : decode cX10_turn 193 = .ok (.laload, 1) := by decide +kernel
theorem dX10_turn_194 : decode cX10_turn 194 = .ok (.invokevirtual 504, 3) := by decide +kernel
theorem dX10_turn_197 : decode cX10_turn 197 = .ok (.lastore, 1) := by decide +kernel
theorem dX10_turn_198 : decode cX10_turn 198 = .ok (.aload_n 0, 1) := by decide +kernel
theorem dX10_turn_199 : decode cX10_turn 199 = .ok (.getfield 111, 3) := by decide +kernel
theorem dX10_turn_202 : decode cX10_turn 202 = .ok (.iload_n 2, 1) := by decide +kernel
theorem dX10_turn_203 : decode cX10_turn 203 = .ok (.aload_n 0, 1) := by decide +kernel
theorem dX10_turn_204 : decode cX10_turn 204 = .ok (.iload_n 1, 1) := by decide +kernel
theorem dX10_turn_205 : decode cX10_turn 205 = .ok (.aload_n 0, 1) := by decide +kernel
theorem dX10_turn_206 : decode cX10_turn 206 = .ok (.getfield 111, 3) := by decide +kernel
theorem dX10_turn_209 : decode cX10_turn 209 = .ok (.iload_n 2, 1) := by decide +kernel
theorem dX10_turn_210 : decode cX10_turn 210 = .ok (.laload, 1) := by decide +kernel
theorem dX10_turn_211 : decode cX10_turn 211 = .ok (.invokevirtual 504, 3) := by decide +kernel
theorem dX10_turn_214 : decode cX10_turn 214 = .ok (.lastore, 1) := by decide +kernel
theorem dX10_turn_215 : decode cX10_turn 215 = .ok (.aload_n 0, 1) := by decide +kernel
theorem dX10_turn_216 : decode cX10_turn 216 = .ok (.getfield 114, 3) := by decide +kernel
theorem dX10_turn_219 : decode cX10_turn 219 = .ok (.iload_n 2, 1) := by decide +kernel
theorem dX10_turn_220 : decode cX10_turn 220 = .ok (.aload_n 0, 1) := by decide +kernel
theorem dX10_turn_221 : decode cX10_turn 221 = .ok (.iload_n 1, 1) := by decide +kernel
theorem dX10_turn_222 : decode cX10_turn 222 = .ok (.aload_n 0, 1) := by decide +kernel
theorem dX10_turn_223 : decode cX10_turn 223 = .ok (.getfield 114, 3) := by decide +kernel
theorem dX10_turn_226 : decode cX10_turn 226 = .ok (.iload_n 2, 1) := by decide +kernel
theorem dX10_turn_227 : decode cX10_turn 227 = .ok (.laload, 1) := by decide +kernel
theorem dX10_turn_228 : decode cX10_turn 228 = .ok (.invokevirtual 504, 3) := by decide +kernel
theorem dX10_turn_231 : decode cX10_turn 231 = .ok (.lastore, 1) := by decide +kernel
theorem dX10_turn_232 : decode cX10_turn 232 = .ok (.aload_n 0, 1) := by decide +kernel
theorem dX10_turn_233 : decode cX10_turn 233 = .ok (.getfield 117, 3) := by decide +kernel
theorem dX10_turn_236 : decode cX10_turn 236 = .ok (.iload_n 2, 1) := by decide +kernel
theorem dX10_turn_237 : decode cX10_turn 237 = .ok (.aload_n 0, 1) := by decide +kernel
theorem dX10_turn_238 : decode cX10_turn 238 = .ok (.iload_n 1, 1) := by decide +kernel
theorem dX10_turn_239 : decode cX10_turn 239 = .ok (.aload_n 0, 1) := by decide +kernel
theorem dX10_turn_240 : decode cX10_turn 240 = .ok (.getfield 117, 3) := by decide +kernel
theorem dX10_turn_243 : decode cX10_turn 243 = .ok (.iload_n 2, 1) := by decide +kernel
theorem dX10_turn_244 : decode cX10_turn 244 = .ok (.laload, 1) := by decide +kernel
theorem dX10_turn_245 : decode cX10_turn 245 = .ok (.invokevirtual 504, 3) := by decide +kernel
theorem dX10_turn_248 : decode cX10_turn 248 = .ok (.lastore, 1) := by decide +kernel
theorem dX10_turn_249 : decode cX10_turn 249 = .ok (.aload_n 0, 1) := by decide +kernel
theorem dX10_turn_250 : decode cX10_turn 250 = .ok (.getfield 120, 3) := by decide +kernel
theorem dX10_turn_253 : decode cX10_turn 253 = .ok (.iload_n 2, 1) := by decide +kernel
theorem dX10_turn_254 : decode cX10_turn 254 = .ok (.aload_n 0, 1) := by decide +kernel
theorem dX10_turn_255 : decode cX10_turn 255 = .ok (.iload_n 1, 1) := by decide +kernel
theorem dX10_turn_256 : decode cX10_turn 256 = .ok (.aload_n 0, 1) := by decide +kernel
theorem dX10_turn_257 : decode cX10_turn 257 = .ok (.getfield 120, 3) := by decide +kernel
theorem dX10_turn_260 : decode cX10_turn 260 = .ok (.iload_n 2, 1) := by decide +kernel
theorem dX10_turn_261 : decode cX10_turn 261 = .ok (.laload, 1) := by decide +kernel
theorem dX10_turn_262 : decode cX10_turn 262 = .ok (.invokevirtual 504, 3) := by decide +kernel
theorem dX10_turn_265 : decode cX10_turn 265 = .ok (.lastore, 1) := by decide +kernel
theorem dX10_turn_266 : decode cX10_turn 266 = .ok (.iinc 2 1, 3) := by decide +kernel
theorem dX10_turn_269 : decode cX10_turn 269 = .ok (.goto (-113), 3) := by decide +kernel
theorem dX10_turn_272 : decode cX10_turn 272 = .ok (.aload_n 0, 1) := by decide +kernel
theorem dX10_turn_273 : decode cX10_turn 273 = .ok (.aload_n 0, 1) := by decide +kernel
theorem dX10_turn_274 : decode cX10_turn 274 = .ok (.iload_n 1, 1) := by decide +kernel
theorem dX10_turn_275 : decode cX10_turn 275 = .ok (.aload_n 0, 1) := by decide +kernel
theorem dX10_turn_276 : decode cX10_turn 276 = .ok (.getfield 195, 3) := by decide +kernel
theorem dX10_turn_279 : decode cX10_turn 279 = .ok (.i2l, 1) := by decide +kernel
theorem dX10_turn_280 : decode cX10_turn 280 = .ok (.invokevirtual 504, 3) := by decide +kernel
theorem dX10_turn_283 : decode cX10_turn 283 = .ok (.l2i, 1) := by decide +kernel
theorem dX10_turn_284 : decode cX10_turn 284 = .ok (.putfield 195, 3) := by decide +kernel
theorem dX10_turn_287 : decode cX10_turn 287 = .ok (.aload_n 0, 1) := by decide +kernel
theorem dX10_turn_288 : decode cX10_turn 288 = .ok (.aload_n 0, 1) := by decide +kernel
theorem dX10_turn_289 : decode cX10_turn 289 = .ok (.iload_n 1, 1) := by decide +kernel
theorem dX10_turn_290 : decode cX10_turn 290 = .ok (.aload_n 0, 1) := by decide +kernel
theorem dX10_turn_291 : decode cX10_turn 291 = .ok (.getfield 214, 3) := by decide +kernel
theorem dX10_turn_294 : decode cX10_turn 294 = .ok (.i2l, 1) := by decide +kernel
theorem dX10_turn_295 : decode cX10_turn 295 = .ok (.invokevirtual 504, 3) := by decide +kernel
theorem dX10_turn_298 : decode cX10_turn 298 = .ok (.l2i, 1) := by decide +kernel
theorem dX10_turn_299 : decode cX10_turn 299 = .ok (.putfield 214, 3) := by decide +kernel
theorem dX10_turn_302 : decode cX10_turn 302 = .ok (.aload_n 0, 1) := by decide +kernel
theorem dX10_turn_303 : decode cX10_turn 303 = .ok (.aload_n 0, 1) := by decide +kernel
theorem dX10_turn_304 : decode cX10_turn 304 = .ok (.iload_n 1, 1) := by decide +kernel
theorem dX10_turn_305 : decode cX10_turn 305 = .ok (.aload_n 0, 1) := by decide +kernel
theorem dX10_turn_306 : decode cX10_turn 306 = .ok (.getfield 264, 3) := by decide +kernel
theorem dX10_turn_309 : decode cX10_turn 309 = .ok (.i2l, 1) := by decide +kernel
theorem dX10_turn_310 : decode cX10_turn 310 = .ok (.invokevirtual 504, 3) := by decide +kernel
theorem dX10_turn_313 : decode cX10_turn 313 = .ok (.l2i, 1) := by decide +kernel
theorem dX10_turn_314 : decode cX10_turn 314 = .ok (.putfield 264, 3) := by decide +kernel
theorem dX10_turn_317 : decode cX10_turn 317 = .ok (.aload_n 0, 1) := by decide +kernel
theorem dX10_turn_318 : decode cX10_turn 318 = .ok (.aload_n 0, 1) := by decide +kernel
theorem dX10_turn_319 : decode cX10_turn 319 = .ok (.iload_n 1, 1) := by decide +kernel
theorem dX10_turn_320 : decode cX10_turn 320 = .ok (.aload_n 0, 1) := by decide +kernel
theorem dX10_turn_321 : decode cX10_turn 321 = .ok (.getfield 472, 3) := by decide +kernel
theorem dX10_turn_324 : decode cX10_turn 324 = .ok (.invokevirtual 504, 3) := by decide +kernel
theorem dX10_turn_327 : decode cX10_turn 327 = .ok (.putfield 472, 3) := by decide +kernel
theorem dX10_turn_330 : decode cX10_turn 330 = .ok (.aload_n 0, 1) := by decide +kernel
theorem dX10_turn_331 : decode cX10_turn 331 = .ok (.aload_n 0, 1) := by decide +kernel
theorem dX10_turn_332 : decode cX10_turn 332 = .ok (.iload_n 1, 1) := by decide +kernel
theorem dX10_turn_333 : decode cX10_turn 333 = .ok (.aload_n 0, 1) := by decide +kernel
theorem dX10_turn_334 : decode cX10_turn 334 = .ok (.getfield 454, 3) := by decide +kernel
theorem dX10_turn_337 : decode cX10_turn 337 = .ok (.invokevirtual 504, 3) := by decide +kernel
theorem dX10_turn_340 : decode cX10_turn 340 = .ok (.putfield 454, 3) := by decide +kernel
theorem dX10_turn_343 : decode cX10_turn 343 = .ok (.aload_n 0, 1) := by decide +kernel
theorem dX10_turn_344 : decode cX10_turn 344 = .ok (.aload_n 0, 1) := by decide +kernel
theorem dX10_turn_345 : decode cX10_turn 345 = .ok (.iload_n 1, 1) := by decide +kernel
theorem dX10_turn_346 : decode cX10_turn 346 = .ok (.aload_n 0, 1) := by decide +kernel
theorem dX10_turn_347 : decode cX10_turn 347 = .ok (.getfield 486, 3) := by decide +kernel
theorem dX10_turn_350 : decode cX10_turn 350 = .ok (.invokevirtual 504, 3) := by decide +kernel
theorem dX10_turn_353 : decode cX10_turn 353 = .ok (.putfield 486, 3) := by decide +kernel
theorem dX10_turn_356 : decode cX10_turn 356 = .ok (.aload_n 0, 1) := by decide +kernel
theorem dX10_turn_357 : decode cX10_turn 357 = .ok (.aload_n 0, 1) := by decide +kernel
theorem dX10_turn_358 : decode cX10_turn 358 = .ok (.iload_n 1, 1) := by decide +kernel
theorem dX10_turn_359 : decode cX10_turn 359 = .ok (.aload_n 0, 1) := by decide +kernel
theorem dX10_turn_360 : decode cX10_turn 360 = .ok (.getfield 475, 3) := by decide +kernel
theorem dX10_turn_363 : decode cX10_turn 363 = .ok (.i2l, 1) := by decide +kernel
theorem dX10_turn_364 : decode cX10_turn 364 = .ok (.invokevirtual 504, 3) := by decide +kernel
theorem dX10_turn_367 : decode cX10_turn 367 = .ok (.l2i, 1) := by decide +kernel
theorem dX10_turn_368 : decode cX10_turn 368 = .ok (.putfield 475, 3) := by decide +kernel
theorem dX10_turn_371 : decode cX10_turn 371 = .ok (.aload_n 0, 1) := by decide +kernel
theorem dX10_turn_372 : decode cX10_turn 372 = .ok (.aload_n 0, 1) := by decide +kernel
theorem dX10_turn_373 : decode cX10_turn 373 = .ok (.iload_n 1, 1) := by decide +kernel
theorem dX10_turn_374 : decode cX10_turn 374 = .ok (.aload_n 0, 1) := by decide +kernel
theorem dX10_turn_375 : decode cX10_turn 375 = .ok (.getfield 463, 3) := by decide +kernel
theorem dX10_turn_378 : decode cX10_turn 378 = .ok (.ifCond .eq 7, 3) := by decide +kernel
theorem dX10_turn_381 : decode cX10_turn 381 = .ok (.lconst 1, 1) := by decide +kernel
theorem dX10_turn_382 : decode cX10_turn 382 = .ok (.goto 4, 3) := by decide +kernel
theorem dX10_turn_385 : decode cX10_turn 385 = .ok (.lconst 0, 1) := by decide +kernel
theorem dX10_turn_386 : decode cX10_turn 386 = .ok (.invokevirtual 504, 3) := by decide +kernel
theorem dX10_turn_389 : decode cX10_turn 389 = .ok (.lconst 1, 1) := by decide +kernel
theorem dX10_turn_390 : decode cX10_turn 390 = .ok (.lcmp, 1) := by decide +kernel
theorem dX10_turn_391 : decode cX10_turn 391 = .ok (.ifCond .ne 7, 3) := by decide +kernel
theorem dX10_turn_394 : decode cX10_turn 394 = .ok (.iconst 1, 1) := by decide +kernel
theorem dX10_turn_395 : decode cX10_turn 395 = .ok (.goto 4, 3) := by decide +kernel
theorem dX10_turn_398 : decode cX10_turn 398 = .ok (.iconst 0, 1) := by decide +kernel
theorem dX10_turn_399 : decode cX10_turn 399 = .ok (.putfield 463, 3) := by decide +kernel
theorem dX10_turn_402 : decode cX10_turn 402 = .ok (.return_, 1) := by decide +kernel
theorem dX10_beside_0 : decode cX10_beside 0 = .ok (.iload_n 1, 1) := by decide +kernel
theorem dX10_beside_1 : decode cX10_beside 1 = .ok (.iconst 1, 1) := by decide +kernel
theorem dX10_beside_2 : decode cX10_beside 2 = .ok (.bipush 12, 2) := by decide +kernel
theorem dX10_beside_4 : decode cX10_beside 4 = .ok (.invokestatic 186, 3) := by decide +kernel
theorem dX10_beside_7 : decode cX10_beside 7 = .ok (.ifCond .eq 38, 3) := by decide +kernel
theorem dX10_beside_10 : decode cX10_beside 10 = .ok (.aload_n 0, 1) := by decide +kernel
theorem dX10_beside_11 : decode cX10_beside 11 = .ok (.getfield 195, 3) := by decide +kernel
theorem dX10_beside_14 : decode cX10_beside 14 = .ok (.iload_n 1, 1) := by decide +kernel
theorem dX10_beside_15 : decode cX10_beside 15 = .ok (.iadd, 1) := by decide +kernel
theorem dX10_beside_16 : decode cX10_beside 16 = .ok (.bipush 60, 2) := by decide +kernel
theorem dX10_beside_18 : decode cX10_beside 18 = .ok (.if_icmp .gt 27, 3) := by decide +kernel
theorem dX10_beside_21 : decode cX10_beside 21 = .ok (.iload_n 2, 1) := by decide +kernel
theorem dX10_beside_22 : decode cX10_beside 22 = .ok (.iconst 0, 1) := by decide +kernel
theorem dX10_beside_23 : decode cX10_beside 23 = .ok (.ldc 213, 2) := by decide +kernel
theorem dX10_beside_25 : decode cX10_beside 25 = .ok (.invokestatic 186, 3) := by decide +kernel
theorem dX10_beside_28 : decode cX10_beside 28 = .ok (.ifCond .eq 17, 3) := by decide +kernel
theorem dX10_beside_31 : decode cX10_beside 31 = .ok (.iload_n 3, 1) := by decide +kernel
theorem dX10_beside_32 : decode cX10_beside 32 = .ok (.iconst 0, 1) := by decide +kernel
theorem dX10_beside_33 : decode cX10_beside 33 = .ok (.iconst 2, 1) := by decide +kernel
theorem dX10_beside_34 : decode cX10_beside 34 = .ok (.aload_n 0, 1) := by decide +kernel
theorem dX10_beside_35 : decode cX10_beside 35 = .ok (.getfield 444, 3) := by decide +kernel
theorem dX10_beside_38 : decode cX10_beside 38 = .ok (.iadd, 1) := by decide +kernel
theorem dX10_beside_39 : decode cX10_beside 39 = .ok (.invokestatic 186, 3) := by decide +kernel
theorem dX10_beside_42 : decode cX10_beside 42 = .ok (.ifCond .ne 7, 3) := by decide +kernel
theorem dX10_beside_45 : decode cX10_beside 45 = .ok (.ldc2_w 406, 3) := by decide +kernel
theorem dX10_beside_48 : decode cX10_beside 48 = .ok (.lreturn, 1) := by decide +kernel
theorem dX10_beside_49 : decode cX10_beside 49 = .ok (.aload_n 0, 1) := by decide +kernel
theorem dX10_beside_50 : decode cX10_beside 50 = .ok (.iconst 1, 1) := by decide +kernel
theorem dX10_beside_51 : decode cX10_beside 51 = .ok (.invokevirtual 508, 3) := by decide +kernel
theorem dX10_beside_54 : decode cX10_beside 54 = .ok (.aload_n 0, 1) := by decide +kernel
theorem dX10_beside_55 : decode cX10_beside 55 = .ok (.getfield 195, 3) := by decide +kernel
theorem dX10_beside_58 : decode cX10_beside 58 = .ok (.istore 4, 2) := by decide +kernel
theorem dX10_beside_60 : decode cX10_beside 60 = .ok (.iload_n 3, 1) := by decide +kernel
theorem dX10_beside_61 : decode cX10_beside 61 = .ok (.iconst 2, 1) := by decide +kernel
theorem dX10_beside_62 : decode cX10_beside 62 = .ok (.if_icmp .le 23, 3) := by decide +kernel
theorem dX10_beside_65 : decode cX10_beside 65 = .ok (.aload_n 0, 1) := by decide +kernel
theorem dX10_beside_66 : decode cX10_beside 66 = .ok (.getfield 111, 3) := by decide +kernel
theorem dX10_beside_69 : decode cX10_beside 69 = .ok (.iload_n 3, 1) := by decide +kernel
theorem dX10_beside_70 : decode cX10_beside 70 = .ok (.iconst 3, 1) := by decide +kernel
theorem dX10_beside_71 : decode cX10_beside 71 = .ok (.isub, 1) := by decide +kernel
theorem dX10_beside_72 : decode cX10_beside 72 = .ok (.laload, 1) := by decide +kernel
theorem dX10_beside_73 : decode cX10_beside 73 = .ok (.aload_n 0, 1) := by decide +kernel
theorem dX10_beside_74 : decode cX10_beside 74 = .ok (.getfield 114, 3) := by decide +kernel
theorem dX10_beside_77 : decode cX10_beside 77 = .ok (.iload_n 3, 1) := by decide +kernel
theorem dX10_beside_78 : decode cX10_beside 78 = .ok (.iconst 3, 1) := by decide +kernel
theorem dX10_beside_79 : decode cX10_beside 79 = .ok (.isub, 1) := by decide +kernel
theorem dX10_beside_80 : decode cX10_beside 80 = .ok (.laload, 1) := by decide +kernel
theorem dX10_beside_81 : decode cX10_beside 81 = .ok (.ladd, 1) := by decide +kernel
theorem dX10_beside_82 : decode cX10_beside 82 = .ok (.goto 4, 3) := by decide +kernel
theorem dX10_beside_85 : decode cX10_beside 85 = .ok (.lconst 0, 1) := by decide +kernel
theorem dX10_beside_86 : decode cX10_beside 86 = .ok (.lstore 5, 2) := by decide +kernel
theorem dX10_beside_88 : decode cX10_beside 88 = .ok (.aload_n 0, 1) := by decide +kernel
theorem dX10_beside_89 : decode cX10_beside 89 = .ok (.iload_n 2, 1) := by decide +kernel
theorem dX10_beside_90 : decode cX10_beside 90 = .ok (.putfield 214, 3) := by decide +kernel
theorem dX10_beside_93 : decode cX10_beside 93 = .ok (.iconst 0, 1) := by decide +kernel
theorem dX10_beside_94 : decode cX10_beside 94 = .ok (.istore 7, 2) := by decide +kernel
theorem dX10_beside_96 : decode cX10_beside 96 = .ok (.iload 7, 2) := by decide +kernel
theorem dX10_beside_98 : decode cX10_beside 98 = .ok (.iload_n 1, 1) := by decide +kernel
theorem dX10_beside_99 : decode cX10_beside 99 = .ok (.if_icmp .ge 13, 3) := by decide +kernel
theorem dX10_beside_102 : decode cX10_beside 102 = .ok (.aload_n 0, 1) := by decide +kernel
theorem dX10_beside_103 : decode cX10_beside 103 = .ok (.invokevirtual 498, 3) := by decide +kernel
theorem dX10_beside_106 : decode cX10_beside 106 = .ok (.iinc 7 1, 3) := by decide +kernel
theorem dX10_beside_109 : decode cX10_beside 109 = .ok (.goto (-13), 3) := by decide +kernel
theorem dX10_beside_112 : decode cX10_beside 112 = .ok (.iload_n 3, 1) := by decide +kernel
theorem dX10_beside_113 : decode cX10_beside 113 = .ok (.iconst 2, 1) := by decide +kernel
theorem dX10_beside_114 : decode cX10_beside 114 = .ok (.if_icmp .le 26, 3) := by decide +kernel
theorem dX10_beside_117 : decode cX10_beside 117 = .ok (.aload_n 0, 1) := by decide +kernel
theorem dX10_beside_118 : decode cX10_beside 118 = .ok (.getfield 111, 3) := by decide +kernel
theorem dX10_beside_121 : decode cX10_beside 121 = .ok (.iload_n 3, 1) := by decide +kernel
theorem dX10_beside_122 : decode cX10_beside 122 = .ok (.iconst 3, 1) := by decide +kernel
theorem dX10_beside_123 : decode cX10_beside 123 = .ok (.isub, 1) := by decide +kernel
theorem dX10_beside_124 : decode cX10_beside 124 = .ok (.laload, 1) := by decide +kernel
theorem dX10_beside_125 : decode cX10_beside 125 = .ok (.aload_n 0, 1) := by decide +kernel
theorem dX10_beside_126 : decode cX10_beside 126 = .ok (.getfield 114, 3) := by decide +kernel
theorem dX10_beside_129 : decode cX10_beside 129 = .ok (.iload_n 3, 1) := by decide +kernel
theorem dX10_beside_130 : decode cX10_beside 130 = .ok (.iconst 3, 1) := by decide +kernel
theorem dX10_beside_131 : decode cX10_beside 131 = .ok (.isub, 1) := by decide +kernel
theorem dX10_beside_132 : decode cX10_beside 132 = .ok (.laload, 1) := by decide +kernel
theorem dX10_beside_133 : decode cX10_beside 133 = .ok (.ladd, 1) := by decide +kernel
theorem dX10_beside_134 : decode cX10_beside 134 = .ok (.lload 5, 2) := by decide +kernel
theorem dX10_beside_136 : decode cX10_beside 136 = .ok (.lsub, 1) := by decide +kernel
theorem dX10_beside_137 : decode cX10_beside 137 = .ok (.goto 4, 3) := by decide +kernel
theorem dX10_beside_140 : decode cX10_beside 140 = .ok (.lconst 0, 1) := by decide +kernel
theorem dX10_beside_141 : decode cX10_beside 141 = .ok (.lstore 7, 2) := by decide +kernel
theorem dX10_beside_143 : decode cX10_beside 143 = .ok (.iload 4, 2) := by decide +kernel
theorem dX10_beside_145 : decode cX10_beside 145 = .ok (.iconst 1, 1) := by decide +kernel
theorem dX10_beside_146 : decode cX10_beside 146 = .ok (.iadd, 1) := by decide +kernel
theorem dX10_beside_147 : decode cX10_beside 147 = .ok (.istore 9, 2) := by decide +kernel
theorem dX10_beside_149 : decode cX10_beside 149 = .ok (.iload 9, 2) := by decide +kernel
theorem dX10_beside_151 : decode cX10_beside 151 = .ok (.iload 4, 2) := by decide +kernel
theorem dX10_beside_153 : decode cX10_beside 153 = .ok (.iload_n 1, 1) := by decide +kernel
theorem dX10_beside_154 : decode cX10_beside 154 = .ok (.iadd, 1) := by decide +kernel
theorem dX10_beside_155 : decode cX10_beside 155 = .ok (.if_icmp .gt 55, 3) := by decide +kernel
theorem dX10_beside_158 : decode cX10_beside 158 = .ok (.iload_n 3, 1) := by decide +kernel
theorem dX10_beside_159 : decode cX10_beside 159 = .ok (.iconst 3, 1) := by decide +kernel
theorem dX10_beside_160 : decode cX10_beside 160 = .ok (.if_icmp .ge 50, 3) := by decide +kernel
theorem dX10_beside_163 : decode cX10_beside 163 = .ok (.lload 7, 2) := by decide +kernel
theorem dX10_beside_165 : decode cX10_beside 165 = .ok (.iload_n 3, 1) := by decide +kernel
theorem dX10_beside_166 : decode cX10_beside 166 = .ok (.ifCond .ne 13, 3) := by decide +kernel
theorem dX10_beside_169 : decode cX10_beside 169 = .ok (.aload_n 0, 1) := by decide +kernel
theorem dX10_beside_170 : decode cX10_beside 170 = .ok (.getfield 63, 3) := by decide +kernel
theorem dX10_beside_173 : decode cX10_beside 173 = .ok (.iload 9, 2) := by decide +kernel
theorem dX10_beside_175 : decode cX10_beside 175 = .ok (.laload, 1) := by decide +kernel
theorem dX10_beside_176 : decode cX10_beside 176 = .ok (.goto 25, 3) := by decide +kernel
theorem dX10_beside_179 : decode cX10_beside 179 = .ok (.iload_n 3, 1) := by decide +kernel
theorem dX10_beside_180 : decode cX10_beside 180 = .ok (.iconst 1, 1) := by decide +kernel
theorem dX10_beside_181 : decode cX10_beside 181 = .ok (.if_icmp .ne 13, 3) := by decide +kernel
theorem dX10_beside_184 : decode cX10_beside 184 = .ok (.aload_n 0, 1) := by decide +kernel
theorem dX10_beside_185 : decode cX10_beside 185 = .ok (.getfield 45, 3) := by decide +kernel
theorem dX10_beside_188 : decode cX10_beside 188 = .ok (.iload 9, 2) := by decide +kernel
theorem dX10_beside_190 : decode cX10_beside 190 = .ok (.laload, 1) := by decide +kernel
theorem dX10_beside_191 : decode cX10_beside 191 = .ok (.goto 10, 3) := by decide +kernel
theorem dX10_beside_194 : decode cX10_beside 194 = .ok (.aload_n 0, 1) := by decide +kernel
theorem dX10_beside_195 : decode cX10_beside 195 = .ok (.getfield 41, 3) := by decide +kernel
theorem dX10_beside_198 : decode cX10_beside 198 = .ok (.iload 9, 2) := by decide +kernel
theorem dX10_beside_200 : decode cX10_beside 200 = .ok (.laload, 1) := by decide +kernel
theorem dX10_beside_201 : decode cX10_beside 201 = .ok (.ladd, 1) := by decide +kernel
theorem dX10_beside_202 : decode cX10_beside 202 = .ok (.lstore 7, 2) := by decide +kernel
theorem dX10_beside_204 : decode cX10_beside 204 = .ok (.iinc 9 1, 3) := by decide +kernel
theorem dX10_beside_207 : decode cX10_beside 207 = .ok (.goto (-58), 3) := by decide +kernel
theorem dX10_beside_210 : decode cX10_beside 210 = .ok (.aload_n 0, 1) := by decide +kernel
theorem dX10_beside_211 : decode cX10_beside 211 = .ok (.iconst 0, 1) := by decide +kernel
theorem dX10_beside_212 : decode cX10_beside 212 = .ok (.invokevirtual 508, 3) := by decide +kernel
theorem dX10_beside_215 : decode cX10_beside 215 = .ok (.lload 7, 2) := by decide +kernel
theorem dX10_beside_217 : decode cX10_beside 217 = .ok (.lreturn, 1) := by decide +kernel
theorem dX10_count_0 : decode cX10_count 0 = .ok (.iload_n 1, 1) := by decide +kernel
theorem dX10_count_1 : decode cX10_count 1 = .ok (.tableswitch 133 0 11 #[63, 68, 73, 78, 83, 88, 93, 98, 103, 109, 114, 127], 63) := by decide +kernel
theorem dX10_count_64 : decode cX10_count 64 = .ok (.aload_n 0, 1) := by decide +kernel
theorem dX10_count_65 : decode cX10_count 65 = .ok (.getfield 183, 3) := by decide +kernel
theorem dX10_count_68 : decode cX10_count 68 = .ok (.ireturn, 1) := by decide +kernel
theorem dX10_count_69 : decode cX10_count 69 = .ok (.aload_n 0, 1) := by decide +kernel
theorem dX10_count_70 : decode cX10_count 70 = .ok (.getfield 444, 3) := by decide +kernel
theorem dX10_count_73 : decode cX10_count 73 = .ok (.ireturn, 1) := by decide +kernel
theorem dX10_count_74 : decode cX10_count 74 = .ok (.aload_n 0, 1) := by decide +kernel
theorem dX10_count_75 : decode cX10_count 75 = .ok (.getfield 175, 3) := by decide +kernel
theorem dX10_count_78 : decode cX10_count 78 = .ok (.ireturn, 1) := by decide +kernel
theorem dX10_count_79 : decode cX10_count 79 = .ok (.aload_n 0, 1) := by decide +kernel
theorem dX10_count_80 : decode cX10_count 80 = .ok (.getfield 178, 3) := by decide +kernel
theorem dX10_count_83 : decode cX10_count 83 = .ok (.ireturn, 1) := by decide +kernel
theorem dX10_count_84 : decode cX10_count 84 = .ok (.aload_n 0, 1) := by decide +kernel
theorem dX10_count_85 : decode cX10_count 85 = .ok (.getfield 267, 3) := by decide +kernel
theorem dX10_count_88 : decode cX10_count 88 = .ok (.ireturn, 1) := by decide +kernel
theorem dX10_count_89 : decode cX10_count 89 = .ok (.aload_n 0, 1) := by decide +kernel
theorem dX10_count_90 : decode cX10_count 90 = .ok (.getfield 195, 3) := by decide +kernel
theorem dX10_count_93 : decode cX10_count 93 = .ok (.ireturn, 1) := by decide +kernel
theorem dX10_count_94 : decode cX10_count 94 = .ok (.aload_n 0, 1) := by decide +kernel
theorem dX10_count_95 : decode cX10_count 95 = .ok (.getfield 400, 3) := by decide +kernel
theorem dX10_count_98 : decode cX10_count 98 = .ok (.ireturn, 1) := by decide +kernel
theorem dX10_count_99 : decode cX10_count 99 = .ok (.aload_n 0, 1) := by decide +kernel
theorem dX10_count_100 : decode cX10_count 100 = .ok (.invokevirtual 248, 3) := by decide +kernel
theorem dX10_count_103 : decode cX10_count 103 = .ok (.ireturn, 1) := by decide +kernel
theorem dX10_count_104 : decode cX10_count 104 = .ok (.aload_n 0, 1) := by decide +kernel
theorem dX10_count_105 : decode cX10_count 105 = .ok (.getfield 472, 3) := by decide +kernel
theorem dX10_count_108 : decode cX10_count 108 = .ok (.l2i, 1) := by decide +kernel
theorem dX10_count_109 : decode cX10_count 109 = .ok (.ireturn, 1) := by decide +kernel
theorem dX10_count_110 : decode cX10_count 110 = .ok (.aload_n 0, 1) := by decide +kernel
theorem dX10_count_111 : decode cX10_count 111 = .ok (.getfield 264, 3) := by decide +kernel
theorem dX10_count_114 : decode cX10_count 114 = .ok (.ireturn, 1) := by decide +kernel
theorem dX10_count_115 : decode cX10_count 115 = .ok (.aload_n 0, 1) := by decide +kernel
theorem dX10_count_116 : decode cX10_count 116 = .ok (.getfield 463, 3) := by decide +kernel
theorem dX10_count_119 : decode cX10_count 119 = .ok (.ifCond .eq 7, 3) := by decide +kernel
theorem dX10_count_122 : decode cX10_count 122 = .ok (.iconst 1, 1) := by decide +kernel
theorem dX10_count_123 : decode cX10_count 123 = .ok (.goto 4, 3) := by decide +kernel
theorem dX10_count_126 : decode cX10_count 126 = .ok (.iconst 0, 1) := by decide +kernel
theorem dX10_count_127 : decode cX10_count 127 = .ok (.ireturn, 1) := by decide +kernel
theorem dX10_count_128 : decode cX10_count 128 = .ok (.aload_n 0, 1) := by decide +kernel
theorem dX10_count_129 : decode cX10_count 129 = .ok (.getfield 486, 3) := by decide +kernel
theorem dX10_count_132 : decode cX10_count 132 = .ok (.l2i, 1) := by decide +kernel
theorem dX10_count_133 : decode cX10_count 133 = .ok (.ireturn, 1) := by decide +kernel
theorem dX10_count_134 : decode cX10_count 134 = .ok (.bipush (-2), 2) := by decide +kernel
theorem dX10_count_136 : decode cX10_count 136 = .ok (.ireturn, 1) := by decide +kernel
theorem dX10_isSheet_0 : decode cX10_isSheet 0 = .ok (.iload_n 0, 1) := by decide +kernel
theorem dX10_isSheet_1 : decode cX10_isSheet 1 = .ok (.iconst 0, 1) := by decide +kernel
theorem dX10_isSheet_2 : decode cX10_isSheet 2 = .ok (.iconst 3, 1) := by decide +kernel
theorem dX10_isSheet_3 : decode cX10_isSheet 3 = .ok (.invokestatic 186, 3) := by decide +kernel
theorem dX10_isSheet_6 : decode cX10_isSheet 6 = .ok (.ireturn, 1) := by decide +kernel
theorem dX10_sheet_0 : decode cX10_sheet 0 = .ok (.iload_n 1, 1) := by decide +kernel
theorem dX10_sheet_1 : decode cX10_sheet 1 = .ok (.invokestatic 512, 3) := by decide +kernel
theorem dX10_sheet_4 : decode cX10_sheet 4 = .ok (.ifCond .eq 22, 3) := by decide +kernel
theorem dX10_sheet_7 : decode cX10_sheet 7 = .ok (.iload_n 2, 1) := by decide +kernel
theorem dX10_sheet_8 : decode cX10_sheet 8 = .ok (.iconst (-1), 1) := by decide +kernel
theorem dX10_sheet_9 : decode cX10_sheet 9 = .ok (.iconst 2, 1) := by decide +kernel
theorem dX10_sheet_10 : decode cX10_sheet 10 = .ok (.invokestatic 186, 3) := by decide +kernel
theorem dX10_sheet_13 : decode cX10_sheet 13 = .ok (.ifCond .eq 13, 3) := by decide +kernel
theorem dX10_sheet_16 : decode cX10_sheet 16 = .ok (.iload_n 2, 1) := by decide +kernel
theorem dX10_sheet_17 : decode cX10_sheet 17 = .ok (.ifCond .lt 12, 3) := by decide +kernel
theorem dX10_sheet_20 : decode cX10_sheet 20 = .ok (.iload_n 3, 1) := by decide +kernel
theorem dX10_sheet_21 : decode cX10_sheet 21 = .ok (.bipush 40, 2) := by decide +kernel
theorem dX10_sheet_23 : decode cX10_sheet 23 = .ok (.if_icmp .le 6, 3) := by decide +kernel
theorem dX10_sheet_26 : decode cX10_sheet 26 = .ok (.bipush (-2), 2) := by decide +kernel
theorem dX10_sheet_28 : decode cX10_sheet 28 = .ok (.ireturn, 1) := by decide +kernel
theorem dX10_sheet_29 : decode cX10_sheet 29 = .ok (.iload_n 2, 1) := by decide +kernel
theorem dX10_sheet_30 : decode cX10_sheet 30 = .ok (.ifCond .lt 10, 3) := by decide +kernel
theorem dX10_sheet_33 : decode cX10_sheet 33 = .ok (.iload_n 3, 1) := by decide +kernel
theorem dX10_sheet_34 : decode cX10_sheet 34 = .ok (.ifCond .ge 6, 3) := by decide +kernel
theorem dX10_sheet_37 : decode cX10_sheet 37 = .ok (.bipush (-14), 2) := by decide +kernel
theorem dX10_sheet_39 : decode cX10_sheet 39 = .ok (.ireturn, 1) := by decide +kernel
theorem dX10_sheet_40 : decode cX10_sheet 40 = .ok (.aload_n 0, 1) := by decide +kernel
theorem dX10_sheet_41 : decode cX10_sheet 41 = .ok (.getfield 151, 3) := by decide +kernel
theorem dX10_sheet_44 : decode cX10_sheet 44 = .ok (.iload_n 1, 1) := by decide +kernel
theorem dX10_sheet_45 : decode cX10_sheet 45 = .ok (.iload_n 2, 1) := by decide +kernel
theorem dX10_sheet_46 : decode cX10_sheet 46 = .ok (.ifCond .lt 7, 3) := by decide +kernel
theorem dX10_sheet_49 : decode cX10_sheet 49 = .ok (.iconst 1, 1) := by decide +kernel
theorem dX10_sheet_50 : decode cX10_sheet 50 = .ok (.goto 4, 3) := by decide +kernel
theorem dX10_sheet_53 : decode cX10_sheet 53 = .ok (.iconst 0, 1) := by decide +kernel
theorem dX10_sheet_54 : decode cX10_sheet 54 = .ok (.bastore, 1) := by decide +kernel
theorem dX10_sheet_55 : decode cX10_sheet 55 = .ok (.aload_n 0, 1) := by decide +kernel
theorem dX10_sheet_56 : decode cX10_sheet 56 = .ok (.getfield 154, 3) := by decide +kernel
theorem dX10_sheet_59 : decode cX10_sheet 59 = .ok (.iload_n 1, 1) := by decide +kernel
theorem dX10_sheet_60 : decode cX10_sheet 60 = .ok (.iload_n 2, 1) := by decide +kernel
theorem dX10_sheet_61 : decode cX10_sheet 61 = .ok (.iastore, 1) := by decide +kernel
theorem dX10_sheet_62 : decode cX10_sheet 62 = .ok (.aload_n 0, 1) := by decide +kernel
theorem dX10_sheet_63 : decode cX10_sheet 63 = .ok (.getfield 157, 3) := by decide +kernel
theorem dX10_sheet_66 : decode cX10_sheet 66 = .ok (.iload_n 1, 1) := by decide +kernel
theorem dX10_sheet_67 : decode cX10_sheet 67 = .ok (.iload_n 3, 1) := by decide +kernel
theorem dX10_sheet_68 : decode cX10_sheet 68 = .ok (.iastore, 1) := by decide +kernel
theorem dX10_sheet_69 : decode cX10_sheet 69 = .ok (.iconst 0, 1) := by decide +kernel
theorem dX10_sheet_70 : decode cX10_sheet 70 = .ok (.istore 4, 2) := by decide +kernel
theorem dX10_sheet_72 : decode cX10_sheet 72 = .ok (.iload 4, 2) := by decide +kernel
theorem dX10_sheet_74 : decode cX10_sheet 74 = .ok (.iload_n 3, 1) := by decide +kernel
theorem dX10_sheet_75 : decode cX10_sheet 75 = .ok (.if_icmp .ge 26, 3) := by decide +kernel
theorem dX10_sheet_78 : decode cX10_sheet 78 = .ok (.iload_n 2, 1) := by decide +kernel
theorem dX10_sheet_79 : decode cX10_sheet 79 = .ok (.ifCond .lt 22, 3) := by decide +kernel
theorem dX10_sheet_82 : decode cX10_sheet 82 = .ok (.aload_n 0, 1) := by decide +kernel
theorem dX10_sheet_83 : decode cX10_sheet 83 = .ok (.getfield 160, 3) := by decide +kernel
theorem dX10_sheet_86 : decode cX10_sheet 86 = .ok (.bipush 40, 2) := by decide +kernel
theorem dX10_sheet_88 : decode cX10_sheet 88 = .ok (.iload_n 1, 1) := by decide +kernel
theorem dX10_sheet_89 : decode cX10_sheet 89 = .ok (.imul, 1) := by decide +kernel
theorem dX10_sheet_90 : decode cX10_sheet 90 = .ok (.iload 4, 2) := by decide +kernel
theorem dX10_sheet_92 : decode cX10_sheet 92 = .ok (.iadd, 1) := by decide +kernel
theorem dX10_sheet_93 : decode cX10_sheet 93 = .ok (.iconst 0, 1) := by decide +kernel
theorem dX10_sheet_94 : decode cX10_sheet 94 = .ok (.iastore, 1) := by decide +kernel
theorem dX10_sheet_95 : decode cX10_sheet 95 = .ok (.iinc 4 1, 3) := by decide +kernel
theorem dX10_sheet_98 : decode cX10_sheet 98 = .ok (.goto (-26), 3) := by decide +kernel
theorem dX10_sheet_101 : decode cX10_sheet 101 = .ok (.iconst 1, 1) := by decide +kernel
theorem dX10_sheet_102 : decode cX10_sheet 102 = .ok (.ireturn, 1) := by decide +kernel
theorem dX10_cell_0 : decode cX10_cell 0 = .ok (.iload_n 1, 1) := by decide +kernel
theorem dX10_cell_1 : decode cX10_cell 1 = .ok (.invokestatic 512, 3) := by decide +kernel
theorem dX10_cell_4 : decode cX10_cell 4 = .ok (.ifCond .ne 6, 3) := by decide +kernel
theorem dX10_cell_7 : decode cX10_cell 7 = .ok (.bipush (-2), 2) := by decide +kernel
theorem dX10_cell_9 : decode cX10_cell 9 = .ok (.ireturn, 1) := by decide +kernel
theorem dX10_cell_10 : decode cX10_cell 10 = .ok (.aload_n 0, 1) := by decide +kernel
theorem dX10_cell_11 : decode cX10_cell 11 = .ok (.getfield 151, 3) := by decide +kernel
theorem dX10_cell_14 : decode cX10_cell 14 = .ok (.iload_n 1, 1) := by decide +kernel
theorem dX10_cell_15 : decode cX10_cell 15 = .ok (.baload, 1) := by decide +kernel
theorem dX10_cell_16 : decode cX10_cell 16 = .ok (.ifCond .ne 6, 3) := by decide +kernel
theorem dX10_cell_19 : decode cX10_cell 19 = .ok (.bipush (-11), 2) := by decide +kernel
theorem dX10_cell_21 : decode cX10_cell 21 = .ok (.ireturn, 1) := by decide +kernel
theorem dX10_cell_22 : decode cX10_cell 22 = .ok (.iload_n 2, 1) := by decide +kernel
theorem dX10_cell_23 : decode cX10_cell 23 = .ok (.iconst 0, 1) := by decide +kernel
theorem dX10_cell_24 : decode cX10_cell 24 = .ok (.aload_n 0, 1) := by decide +kernel
theorem dX10_cell_25 : decode cX10_cell 25 = .ok (.getfield 157, 3) := by decide +kernel
theorem dX10_cell_28 : decode cX10_cell 28 = .ok (.iload_n 1, 1) := by decide +kernel
theorem dX10_cell_29 : decode cX10_cell 29 = .ok (.iaload, 1) := by decide +kernel
theorem dX10_cell_30 : decode cX10_cell 30 = .ok (.iconst 1, 1) := by decide +kernel
theorem dX10_cell_31 : decode cX10_cell 31 = .ok (.isub, 1) := by decide +kernel
theorem dX10_cell_32 : decode cX10_cell 32 = .ok (.invokestatic 186, 3) := by decide +kernel
theorem dX10_cell_35 : decode cX10_cell 35 = .ok (.ifCond .ne 6, 3) := by decide +kernel
theorem dX10_cell_38 : decode cX10_cell 38 = .ok (.bipush (-12), 2) := by decide +kernel
theorem dX10_cell_40 : decode cX10_cell 40 = .ok (.ireturn, 1) := by decide +kernel
theorem dX10_cell_41 : decode cX10_cell 41 = .ok (.aload_n 0, 1) := by decide +kernel
theorem dX10_cell_42 : decode cX10_cell 42 = .ok (.getfield 160, 3) := by decide +kernel
theorem dX10_cell_45 : decode cX10_cell 45 = .ok (.bipush 40, 2) := by decide +kernel
theorem dX10_cell_47 : decode cX10_cell 47 = .ok (.iload_n 1, 1) := by decide +kernel
theorem dX10_cell_48 : decode cX10_cell 48 = .ok (.imul, 1) := by decide +kernel
theorem dX10_cell_49 : decode cX10_cell 49 = .ok (.iload_n 2, 1) := by decide +kernel
theorem dX10_cell_50 : decode cX10_cell 50 = .ok (.iadd, 1) := by decide +kernel
theorem dX10_cell_51 : decode cX10_cell 51 = .ok (.aload_n 0, 1) := by decide +kernel
theorem dX10_cell_52 : decode cX10_cell 52 = .ok (.getfield 154, 3) := by decide +kernel
theorem dX10_cell_55 : decode cX10_cell 55 = .ok (.iload_n 1, 1) := by decide +kernel
theorem dX10_cell_56 : decode cX10_cell 56 = .ok (.iaload, 1) := by decide +kernel
theorem dX10_cell_57 : decode cX10_cell 57 = .ok (.ifCond .ne 8, 3) := by decide +kernel
theorem dX10_cell_60 : decode cX10_cell 60 = .ok (.iload_n 3, 1) := by decide +kernel
theorem dX10_cell_61 : decode cX10_cell 61 = .ok (.i2b, 1) := by decide +kernel
theorem dX10_cell_62 : decode cX10_cell 62 = .ok (.goto 19, 3) := by decide +kernel
theorem dX10_cell_65 : decode cX10_cell 65 = .ok (.aload_n 0, 1) := by decide +kernel
theorem dX10_cell_66 : decode cX10_cell 66 = .ok (.getfield 154, 3) := by decide +kernel
theorem dX10_cell_69 : decode cX10_cell 69 = .ok (.iload_n 1, 1) := by decide +kernel
theorem dX10_cell_70 : decode cX10_cell 70 = .ok (.iaload, 1) := by decide +kernel
theorem dX10_cell_71 : decode cX10_cell 71 = .ok (.iconst 1, 1) := by decide +kernel
theorem dX10_cell_72 : decode cX10_cell 72 = .ok (.if_icmp .ne 8, 3) := by decide +kernel
theorem dX10_cell_75 : decode cX10_cell 75 = .ok (.iload_n 3, 1) := by decide +kernel
theorem dX10_cell_76 : decode cX10_cell 76 = .ok (.i2s, 1) := by decide +kernel
theorem dX10_cell_77 : decode cX10_cell 77 = .ok (.goto 4, 3) := by decide +kernel
theorem dX10_cell_80 : decode cX10_cell 80 = .ok (.iload_n 3, 1) := by decide +kernel
theorem dX10_cell_81 : decode cX10_cell 81 = .ok (.iastore, 1) := by decide +kernel
theorem dX10_cell_82 : decode cX10_cell 82 = .ok (.iconst 1, 1) := by decide +kernel
theorem dX10_cell_83 : decode cX10_cell 83 = .ok (.ireturn, 1) := by decide +kernel
theorem dX10_noRow_0 : decode cX10_noRow 0 = .ok (.aload_n 0, 1) := by decide +kernel
theorem dX10_noRow_1 : decode cX10_noRow 1 = .ok (.getfield 151, 3) := by decide +kernel
theorem dX10_noRow_4 : decode cX10_noRow 4 = .ok (.iload_n 1, 1) := by decide +kernel
theorem dX10_noRow_5 : decode cX10_noRow 5 = .ok (.baload, 1) := by decide +kernel
theorem dX10_noRow_6 : decode cX10_noRow 6 = .ok (.ifCond .eq 16, 3) := by decide +kernel
theorem dX10_noRow_9 : decode cX10_noRow 9 = .ok (.aload_n 0, 1) := by decide +kernel
theorem dX10_noRow_10 : decode cX10_noRow 10 = .ok (.getfield 154, 3) := by decide +kernel
theorem dX10_noRow_13 : decode cX10_noRow 13 = .ok (.iload_n 1, 1) := by decide +kernel
theorem dX10_noRow_14 : decode cX10_noRow 14 = .ok (.iaload, 1) := by decide +kernel
theorem dX10_noRow_15 : decode cX10_noRow 15 = .ok (.iload_n 2, 1) := by decide +kernel
theorem dX10_noRow_16 : decode cX10_noRow 16 = .ok (.if_icmp .eq 6, 3) := by decide +kernel
theorem dX10_noRow_19 : decode cX10_noRow 19 = .ok (.bipush (-13), 2) := by decide +kernel
theorem dX10_noRow_21 : decode cX10_noRow 21 = .ok (.ireturn, 1) := by decide +kernel
theorem dX10_noRow_22 : decode cX10_noRow 22 = .ok (.aload_n 0, 1) := by decide +kernel
theorem dX10_noRow_23 : decode cX10_noRow 23 = .ok (.getfield 151, 3) := by decide +kernel
theorem dX10_noRow_26 : decode cX10_noRow 26 = .ok (.iload_n 1, 1) := by decide +kernel
theorem dX10_noRow_27 : decode cX10_noRow 27 = .ok (.baload, 1) := by decide +kernel
theorem dX10_noRow_28 : decode cX10_noRow 28 = .ok (.ifCond .ne 6, 3) := by decide +kernel
theorem dX10_noRow_31 : decode cX10_noRow 31 = .ok (.bipush (-11), 2) := by decide +kernel
theorem dX10_noRow_33 : decode cX10_noRow 33 = .ok (.ireturn, 1) := by decide +kernel
theorem dX10_noRow_34 : decode cX10_noRow 34 = .ok (.iload 4, 2) := by decide +kernel
theorem dX10_noRow_36 : decode cX10_noRow 36 = .ok (.ifCond .le 25, 3) := by decide +kernel
theorem dX10_noRow_39 : decode cX10_noRow 39 = .ok (.iload_n 3, 1) := by decide +kernel
theorem dX10_noRow_40 : decode cX10_noRow 40 = .ok (.ifCond .lt 16, 3) := by decide +kernel
theorem dX10_noRow_43 : decode cX10_noRow 43 = .ok (.iload_n 3, 1) := by decide +kernel
theorem dX10_noRow_44 : decode cX10_noRow 44 = .ok (.aload_n 0, 1) := by decide +kernel
theorem dX10_noRow_45 : decode cX10_noRow 45 = .ok (.getfield 157, 3) := by decide +kernel
theorem dX10_noRow_48 : decode cX10_noRow 48 = .ok (.iload_n 1, 1) := by decide +kernel
theorem dX10_noRow_49 : decode cX10_noRow 49 = .ok (.iaload, 1) := by decide +kernel
theorem dX10_noRow_50 : decode cX10_noRow 50 = .ok (.iload 4, 2) := by decide +kernel
theorem dX10_noRow_52 : decode cX10_noRow 52 = .ok (.isub, 1) := by decide +kernel
theorem dX10_noRow_53 : decode cX10_noRow 53 = .ok (.if_icmp .le 8, 3) := by decide +kernel
theorem dX10_noRow_56 : decode cX10_noRow 56 = .ok (.bipush (-12), 2) := by decide +kernel
theorem dX10_noRow_58 : decode cX10_noRow 58 = .ok (.goto 4, 3) := by decide +kernel
theorem dX10_noRow_61 : decode cX10_noRow 61 = .ok (.iconst 0, 1) := by decide +kernel
theorem dX10_noRow_62 : decode cX10_noRow 62 = .ok (.ireturn, 1) := by decide +kernel
theorem dX10_report_0 : decode cX10_report 0 = .ok (.iload_n 1, 1) := by decide +kernel
theorem dX10_report_1 : decode cX10_report 1 = .ok (.iconst 1, 1) := by decide +kernel
theorem dX10_report_2 : decode cX10_report 2 = .ok (.aload_n 0, 1) := by decide +kernel
theorem dX10_report_3 : decode cX10_report 3 = .ok (.getfield 195, 3) := by decide +kernel
theorem dX10_report_6 : decode cX10_report 6 = .ok (.invokestatic 186, 3) := by decide +kernel
theorem dX10_report_9 : decode cX10_report 9 = .ok (.ifCond .eq 30, 3) := by decide +kernel
theorem dX10_report_12 : decode cX10_report 12 = .ok (.iload_n 2, 1) := by decide +kernel
theorem dX10_report_13 : decode cX10_report 13 = .ok (.invokestatic 512, 3) := by decide +kernel
theorem dX10_report_16 : decode cX10_report 16 = .ok (.ifCond .eq 23, 3) := by decide +kernel
theorem dX10_report_19 : decode cX10_report 19 = .ok (.iload_n 3, 1) := by decide +kernel
theorem dX10_report_20 : decode cX10_report 20 = .ok (.iconst 0, 1) := by decide +kernel
theorem dX10_report_21 : decode cX10_report 21 = .ok (.iconst 2, 1) := by decide +kernel
theorem dX10_report_22 : decode cX10_report 22 = .ok (.invokestatic 186, 3) := by decide +kernel
theorem dX10_report_25 : decode cX10_report 25 = .ok (.ifCond .eq 14, 3) := by decide +kernel
theorem dX10_report_28 : decode cX10_report 28 = .ok (.iload 5, 2) := by decide +kernel
theorem dX10_report_30 : decode cX10_report 30 = .ok (.iconst 0, 1) := by decide +kernel
theorem dX10_report_31 : decode cX10_report 31 = .ok (.bipush 10, 2) := by decide +kernel
theorem dX10_report_33 : decode cX10_report 33 = .ok (.invokestatic 186, 3) := by decide +kernel
theorem dX10_report_36 : decode cX10_report 36 = .ok (.ifCond .ne 6, 3) := by decide +kernel
theorem dX10_report_39 : decode cX10_report 39 = .ok (.bipush (-2), 2) := by decide +kernel
theorem dX10_report_41 : decode cX10_report 41 = .ok (.ireturn, 1) := by decide +kernel
theorem dX10_report_42 : decode cX10_report 42 = .ok (.aload_n 0, 1) := by decide +kernel
theorem dX10_report_43 : decode cX10_report 43 = .ok (.iload_n 2, 1) := by decide +kernel
theorem dX10_report_44 : decode cX10_report 44 = .ok (.iload_n 3, 1) := by decide +kernel
theorem dX10_report_45 : decode cX10_report 45 = .ok (.iload 4, 2) := by decide +kernel
theorem dX10_report_47 : decode cX10_report 47 = .ok (.iload 5, 2) := by decide +kernel
theorem dX10_report_49 : decode cX10_report 49 = .ok (.invokevirtual 515, 3) := by decide +kernel
theorem dX10_report_52 : decode cX10_report 52 = .ok (.istore 6, 2) := by decide +kernel
theorem dX10_report_54 : decode cX10_report 54 = .ok (.iload 6, 2) := by decide +kernel
theorem dX10_report_56 : decode cX10_report 56 = .ok (.ifCond .ge 6, 3) := by decide +kernel
theorem dX10_report_59 : decode cX10_report 59 = .ok (.iload 6, 2) := by decide +kernel
theorem dX10_report_61 : decode cX10_report 61 = .ok (.ireturn, 1) := by decide +kernel
theorem dX10_report_62 : decode cX10_report 62 = .ok (.iconst 0, 1) := by decide +kernel
theorem dX10_report_63 : decode cX10_report 63 = .ok (.istore 7, 2) := by decide +kernel
theorem dX10_report_65 : decode cX10_report 65 = .ok (.iload 7, 2) := by decide +kernel
theorem dX10_report_67 : decode cX10_report 67 = .ok (.iload 5, 2) := by decide +kernel
theorem dX10_report_69 : decode cX10_report 69 = .ok (.if_icmp .ge 44, 3) := by decide +kernel
theorem dX10_report_72 : decode cX10_report 72 = .ok (.aload_n 0, 1) := by decide +kernel
theorem dX10_report_73 : decode cX10_report 73 = .ok (.getfield 160, 3) := by decide +kernel
theorem dX10_report_76 : decode cX10_report 76 = .ok (.bipush 40, 2) := by decide +kernel
theorem dX10_report_78 : decode cX10_report 78 = .ok (.iload_n 2, 1) := by decide +kernel
theorem dX10_report_79 : decode cX10_report 79 = .ok (.imul, 1) := by decide +kernel
theorem dX10_report_80 : decode cX10_report 80 = .ok (.iload 4, 2) := by decide +kernel
theorem dX10_report_82 : decode cX10_report 82 = .ok (.iadd, 1) := by decide +kernel
theorem dX10_report_83 : decode cX10_report 83 = .ok (.iload 7, 2) := by decide +kernel
theorem dX10_report_85 : decode cX10_report 85 = .ok (.iadd, 1) := by decide +kernel
theorem dX10_report_86 : decode cX10_report 86 = .ok (.iaload, 1) := by decide +kernel
theorem dX10_report_87 : decode cX10_report 87 = .ok (.i2l, 1) := by decide +kernel
theorem dX10_report_88 : decode cX10_report 88 = .ok (.aload_n 0, 1) := by decide +kernel
theorem dX10_report_89 : decode cX10_report 89 = .ok (.getfield 145, 3) := by decide +kernel
theorem dX10_report_92 : decode cX10_report 92 = .ok (.bipush 10, 2) := by decide +kernel
theorem dX10_report_94 : decode cX10_report 94 = .ok (.iload_n 1, 1) := by decide +kernel
theorem dX10_report_95 : decode cX10_report 95 = .ok (.imul, 1) := by decide +kernel
theorem dX10_report_96 : decode cX10_report 96 = .ok (.iload 7, 2) := by decide +kernel
theorem dX10_report_98 : decode cX10_report 98 = .ok (.iadd, 1) := by decide +kernel
theorem dX10_report_99 : decode cX10_report 99 = .ok (.laload, 1) := by decide +kernel
theorem dX10_report_100 : decode cX10_report 100 = .ok (.lcmp, 1) := by decide +kernel
theorem dX10_report_101 : decode cX10_report 101 = .ok (.ifCond .eq 6, 3) := by decide +kernel
theorem dX10_report_104 : decode cX10_report 104 = .ok (.iload 7, 2) := by decide +kernel
theorem dX10_report_106 : decode cX10_report 106 = .ok (.ireturn, 1) := by decide +kernel
theorem dX10_report_107 : decode cX10_report 107 = .ok (.iinc 7 1, 3) := by decide +kernel
theorem dX10_report_110 : decode cX10_report 110 = .ok (.goto (-45), 3) := by decide +kernel
theorem dX10_report_113 : decode cX10_report 113 = .ok (.iconst (-1), 1) := by decide +kernel
theorem dX10_report_114 : decode cX10_report 114 = .ok (.ireturn, 1) := by decide +kernel
theorem dX10_loans_0 : decode cX10_loans 0 = .ok (.iload_n 1, 1) := by decide +kernel
theorem dX10_loans_1 : decode cX10_loans 1 = .ok (.invokestatic 512, 3) := by decide +kernel
theorem dX10_loans_4 : decode cX10_loans 4 = .ok (.ifCond .eq 23, 3) := by decide +kernel
theorem dX10_loans_7 : decode cX10_loans 7 = .ok (.iload_n 2, 1) := by decide +kernel
theorem dX10_loans_8 : decode cX10_loans 8 = .ok (.iconst 0, 1) := by decide +kernel
theorem dX10_loans_9 : decode cX10_loans 9 = .ok (.iconst 2, 1) := by decide +kernel
theorem dX10_loans_10 : decode cX10_loans 10 = .ok (.invokestatic 186, 3) := by decide +kernel
theorem dX10_loans_13 : decode cX10_loans 13 = .ok (.ifCond .eq 14, 3) := by decide +kernel
theorem dX10_loans_16 : decode cX10_loans 16 = .ok (.iload 4, 2) := by decide +kernel
theorem dX10_loans_18 : decode cX10_loans 18 = .ok (.iconst 0, 1) := by decide +kernel
theorem dX10_loans_19 : decode cX10_loans 19 = .ok (.bipush 10, 2) := by decide +kernel
theorem dX10_loans_21 : decode cX10_loans 21 = .ok (.invokestatic 186, 3) := by decide +kernel
theorem dX10_loans_24 : decode cX10_loans 24 = .ok (.ifCond .ne 6, 3) := by decide +kernel
theorem dX10_loans_27 : decode cX10_loans 27 = .ok (.bipush (-2), 2) := by decide +kernel
theorem dX10_loans_29 : decode cX10_loans 29 = .ok (.ireturn, 1) := by decide +kernel
theorem dX10_loans_30 : decode cX10_loans 30 = .ok (.aload_n 0, 1) := by decide +kernel
theorem dX10_loans_31 : decode cX10_loans 31 = .ok (.iload_n 1, 1) := by decide +kernel
theorem dX10_loans_32 : decode cX10_loans 32 = .ok (.iload_n 2, 1) := by decide +kernel
theorem dX10_loans_33 : decode cX10_loans 33 = .ok (.iload_n 3, 1) := by decide +kernel
theorem dX10_loans_34 : decode cX10_loans 34 = .ok (.iconst 0, 1) := by decide +kernel
theorem dX10_loans_35 : decode cX10_loans 35 = .ok (.invokevirtual 515, 3) := by decide +kernel
theorem dX10_loans_38 : decode cX10_loans 38 = .ok (.istore 5, 2) := by decide +kernel
theorem dX10_loans_40 : decode cX10_loans 40 = .ok (.iload 5, 2) := by decide +kernel
theorem dX10_loans_42 : decode cX10_loans 42 = .ok (.ifCond .ge 6, 3) := by decide +kernel
theorem dX10_loans_45 : decode cX10_loans 45 = .ok (.iload 5, 2) := by decide +kernel
theorem dX10_loans_47 : decode cX10_loans 47 = .ok (.ireturn, 1) := by decide +kernel
theorem dX10_loans_48 : decode cX10_loans 48 = .ok (.iload 4, 2) := by decide +kernel
theorem dX10_loans_50 : decode cX10_loans 50 = .ok (.ifCond .le 10, 3) := by decide +kernel
theorem dX10_loans_53 : decode cX10_loans 53 = .ok (.iload_n 3, 1) := by decide +kernel
theorem dX10_loans_54 : decode cX10_loans 54 = .ok (.ifCond .ge 6, 3) := by decide +kernel
theorem dX10_loans_57 : decode cX10_loans 57 = .ok (.bipush (-12), 2) := by decide +kernel
theorem dX10_loans_59 : decode cX10_loans 59 = .ok (.ireturn, 1) := by decide +kernel
theorem dX10_loans_60 : decode cX10_loans 60 = .ok (.iconst 0, 1) := by decide +kernel
theorem dX10_loans_61 : decode cX10_loans 61 = .ok (.istore 6, 2) := by decide +kernel
theorem dX10_loans_63 : decode cX10_loans 63 = .ok (.iconst 0, 1) := by decide +kernel
theorem dX10_loans_64 : decode cX10_loans 64 = .ok (.istore 7, 2) := by decide +kernel
theorem dX10_loans_66 : decode cX10_loans 66 = .ok (.iload 7, 2) := by decide +kernel
theorem dX10_loans_68 : decode cX10_loans 68 = .ok (.iload 4, 2) := by decide +kernel
theorem dX10_loans_70 : decode cX10_loans 70 = .ok (.if_icmp .ge 86, 3) := by decide +kernel
theorem dX10_loans_73 : decode cX10_loans 73 = .ok (.iload_n 3, 1) := by decide +kernel
theorem dX10_loans_74 : decode cX10_loans 74 = .ok (.aload_n 0, 1) := by decide +kernel
theorem dX10_loans_75 : decode cX10_loans 75 = .ok (.getfield 157, 3) := by decide +kernel
theorem dX10_loans_78 : decode cX10_loans 78 = .ok (.iload_n 1, 1) := by decide +kernel
theorem dX10_loans_79 : decode cX10_loans 79 = .ok (.iaload, 1) := by decide +kernel
theorem dX10_loans_80 : decode cX10_loans 80 = .ok (.iconst 4, 1) := by decide +kernel
theorem dX10_loans_81 : decode cX10_loans 81 = .ok (.iload 7, 2) := by decide +kernel
theorem dX10_loans_83 : decode cX10_loans 83 = .ok (.imul, 1) := by decide +kernel
theorem dX10_loans_84 : decode cX10_loans 84 = .ok (.isub, 1) := by decide +kernel
theorem dX10_loans_85 : decode cX10_loans 85 = .ok (.iconst 4, 1) := by decide +kernel
theorem dX10_loans_86 : decode cX10_loans 86 = .ok (.isub, 1) := by decide +kernel
theorem dX10_loans_87 : decode cX10_loans 87 = .ok (.if_icmp .le 6, 3) := by decide +kernel
theorem dX10_loans_90 : decode cX10_loans 90 = .ok (.bipush (-12), 2) := by decide +kernel
theorem dX10_loans_92 : decode cX10_loans 92 = .ok (.ireturn, 1) := by decide +kernel
theorem dX10_loans_93 : decode cX10_loans 93 = .ok (.bipush 40, 2) := by decide +kernel
theorem dX10_loans_95 : decode cX10_loans 95 = .ok (.iload_n 1, 1) := by decide +kernel
theorem dX10_loans_96 : decode cX10_loans 96 = .ok (.imul, 1) := by decide +kernel
theorem dX10_loans_97 : decode cX10_loans 97 = .ok (.iload_n 3, 1) := by decide +kernel
theorem dX10_loans_98 : decode cX10_loans 98 = .ok (.iadd, 1) := by decide +kernel
theorem dX10_loans_99 : decode cX10_loans 99 = .ok (.iconst 4, 1) := by decide +kernel
theorem dX10_loans_100 : decode cX10_loans 100 = .ok (.iload 7, 2) := by decide +kernel
theorem dX10_loans_102 : decode cX10_loans 102 = .ok (.imul, 1) := by decide +kernel
theorem dX10_loans_103 : decode cX10_loans 103 = .ok (.iadd, 1) := by decide +kernel
theorem dX10_loans_104 : decode cX10_loans 104 = .ok (.istore 8, 2) := by decide +kernel
theorem dX10_loans_106 : decode cX10_loans 106 = .ok (.aload_n 0, 1) := by decide +kernel
theorem dX10_loans_107 : decode cX10_loans 107 = .ok (.aload_n 0, 1) := by decide +kernel
theorem dX10_loans_108 : decode cX10_loans 108 = .ok (.getfield 160, 3) := by decide +kernel
theorem dX10_loans_111 : decode cX10_loans 111 = .ok (.iload 8, 2) := by decide +kernel
theorem dX10_loans_113 : decode cX10_loans 113 = .ok (.iaload, 1) := by decide +kernel
theorem dX10_loans_114 : decode cX10_loans 114 = .ok (.aload_n 0, 1) := by decide +kernel
theorem dX10_loans_115 : decode cX10_loans 115 = .ok (.getfield 160, 3) := by decide +kernel
theorem dX10_loans_118 : decode cX10_loans 118 = .ok (.iload 8, 2) := by decide +kernel
theorem dX10_loans_120 : decode cX10_loans 120 = .ok (.iconst 1, 1) := by decide +kernel
theorem dX10_loans_121 : decode cX10_loans 121 = .ok (.iadd, 1) := by decide +kernel
theorem dX10_loans_122 : decode cX10_loans 122 = .ok (.iaload, 1) := by decide +kernel
theorem dX10_loans_123 : decode cX10_loans 123 = .ok (.aload_n 0, 1) := by decide +kernel
theorem dX10_loans_124 : decode cX10_loans 124 = .ok (.getfield 160, 3) := by decide +kernel
theorem dX10_loans_127 : decode cX10_loans 127 = .ok (.iload 8, 2) := by decide +kernel
theorem dX10_loans_129 : decode cX10_loans 129 = .ok (.iconst 2, 1) := by decide +kernel
theorem dX10_loans_130 : decode cX10_loans 130 = .ok (.iadd, 1) := by decide +kernel
theorem dX10_loans_131 : decode cX10_loans 131 = .ok (.iaload, 1) := by decide +kernel
theorem dX10_loans_132 : decode cX10_loans 132 = .ok (.aload_n 0, 1) := by decide +kernel
theorem dX10_loans_133 : decode cX10_loans 133 = .ok (.getfield 160, 3) := by decide +kernel
theorem dX10_loans_136 : decode cX10_loans 136 = .ok (.iload 8, 2) := by decide +kernel
theorem dX10_loans_138 : decode cX10_loans 138 = .ok (.iconst 3, 1) := by decide +kernel
theorem dX10_loans_139 : decode cX10_loans 139 = .ok (.iadd, 1) := by decide +kernel
theorem dX10_loans_140 : decode cX10_loans 140 = .ok (.iaload, 1) := by decide +kernel
theorem dX10_loans_141 : decode cX10_loans 141 = .ok (.invokevirtual 518, 3) := by decide +kernel
theorem dX10_loans_144 : decode cX10_loans 144 = .ok (.ifCond .lt 6, 3) := by decide +kernel
theorem dX10_loans_147 : decode cX10_loans 147 = .ok (.iinc 6 1, 3) := by decide +kernel
theorem dX10_loans_150 : decode cX10_loans 150 = .ok (.iinc 7 1, 3) := by decide +kernel
theorem dX10_loans_153 : decode cX10_loans 153 = .ok (.goto (-87), 3) := by decide +kernel
theorem dX10_loans_156 : decode cX10_loans 156 = .ok (.iload 6, 2) := by decide +kernel
theorem dX10_loans_158 : decode cX10_loans 158 = .ok (.ireturn, 1) := by decide +kernel
theorem dX10_over_0 : decode cX10_over 0 = .ok (.iload_n 0, 1) := by decide +kernel
theorem dX10_over_1 : decode cX10_over 1 = .ok (.ifCond .ne 7, 3) := by decide +kernel
theorem dX10_over_4 : decode cX10_over 4 = .ok (.iconst (-1), 1) := by decide +kernel
theorem dX10_over_5 : decode cX10_over 5 = .ok (.goto 31, 3) := by decide +kernel
theorem dX10_over_8 : decode cX10_over 8 = .ok (.iload_n 0, 1) := by decide +kernel
theorem dX10_over_9 : decode cX10_over 9 = .ok (.iconst 2, 1) := by decide +kernel
theorem dX10_over_10 : decode cX10_over 10 = .ok (.if_icmp .ne 7, 3) := by decide +kernel
theorem dX10_over_13 : decode cX10_over 13 = .ok (.iconst 1, 1) := by decide +kernel
theorem dX10_over_14 : decode cX10_over 14 = .ok (.goto 22, 3) := by decide +kernel
theorem dX10_over_17 : decode cX10_over 17 = .ok (.iload_n 0, 1) := by decide +kernel
theorem dX10_over_18 : decode cX10_over 18 = .ok (.iconst 4, 1) := by decide +kernel
theorem dX10_over_19 : decode cX10_over 19 = .ok (.if_icmp .ne 7, 3) := by decide +kernel
theorem dX10_over_22 : decode cX10_over 22 = .ok (.iconst 2, 1) := by decide +kernel
theorem dX10_over_23 : decode cX10_over 23 = .ok (.goto 13, 3) := by decide +kernel
theorem dX10_over_26 : decode cX10_over 26 = .ok (.iload_n 0, 1) := by decide +kernel
theorem dX10_over_27 : decode cX10_over 27 = .ok (.iconst 5, 1) := by decide +kernel
theorem dX10_over_28 : decode cX10_over 28 = .ok (.if_icmp .ne 7, 3) := by decide +kernel
theorem dX10_over_31 : decode cX10_over 31 = .ok (.iconst 3, 1) := by decide +kernel
theorem dX10_over_32 : decode cX10_over 32 = .ok (.goto 4, 3) := by decide +kernel
theorem dX10_over_35 : decode cX10_over 35 = .ok (.iconst 0, 1) := by decide +kernel
theorem dX10_over_36 : decode cX10_over 36 = .ok (.ireturn, 1) := by decide +kernel
theorem dX10_taken_0 : decode cX10_taken 0 = .ok (.iload_n 2, 1) := by decide +kernel
theorem dX10_taken_1 : decode cX10_taken 1 = .ok (.iconst 0, 1) := by decide +kernel
theorem dX10_taken_2 : decode cX10_taken 2 = .ok (.iconst 5, 1) := by decide +kernel
theorem dX10_taken_3 : decode cX10_taken 3 = .ok (.invokestatic 186, 3) := by decide +kernel
theorem dX10_taken_6 : decode cX10_taken 6 = .ok (.ifCond .ne 6, 3) := by decide +kernel
theorem dX10_taken_9 : decode cX10_taken 9 = .ok (.bipush (-2), 2) := by decide +kernel
theorem dX10_taken_11 : decode cX10_taken 11 = .ok (.ireturn, 1) := by decide +kernel
theorem dX10_taken_12 : decode cX10_taken 12 = .ok (.aload_n 0, 1) := by decide +kernel
theorem dX10_taken_13 : decode cX10_taken 13 = .ok (.iload_n 1, 1) := by decide +kernel
theorem dX10_taken_14 : decode cX10_taken 14 = .ok (.invokevirtual 198, 3) := by decide +kernel
theorem dX10_taken_17 : decode cX10_taken 17 = .ok (.ifCond .ne 6, 3) := by decide +kernel
theorem dX10_taken_20 : decode cX10_taken 20 = .ok (.bipush (-11), 2) := by decide +kernel
theorem dX10_taken_22 : decode cX10_taken 22 = .ok (.ireturn, 1) := by decide +kernel
theorem dX10_taken_23 : decode cX10_taken 23 = .ok (.aload_n 0, 1) := by decide +kernel
theorem dX10_taken_24 : decode cX10_taken 24 = .ok (.getfield 13, 3) := by decide +kernel
theorem dX10_taken_27 : decode cX10_taken 27 = .ok (.iload_n 1, 1) := by decide +kernel
theorem dX10_taken_28 : decode cX10_taken 28 = .ok (.iaload, 1) := by decide +kernel
theorem dX10_taken_29 : decode cX10_taken 29 = .ok (.istore_n 3, 1) := by decide +kernel
theorem dX10_taken_30 : decode cX10_taken 30 = .ok (.iload_n 3, 1) := by decide +kernel
theorem dX10_taken_31 : decode cX10_taken 31 = .ok (.iconst (-1), 1) := by decide +kernel
theorem dX10_taken_32 : decode cX10_taken 32 = .ok (.if_icmp .eq 16, 3) := by decide +kernel
theorem dX10_taken_35 : decode cX10_taken 35 = .ok (.iload_n 3, 1) := by decide +kernel
theorem dX10_taken_36 : decode cX10_taken 36 = .ok (.iload_n 2, 1) := by decide +kernel
theorem dX10_taken_37 : decode cX10_taken 37 = .ok (.if_icmp .eq 11, 3) := by decide +kernel
theorem dX10_taken_40 : decode cX10_taken 40 = .ok (.iload_n 3, 1) := by decide +kernel
theorem dX10_taken_41 : decode cX10_taken 41 = .ok (.invokestatic 521, 3) := by decide +kernel
theorem dX10_taken_44 : decode cX10_taken 44 = .ok (.istore_n 3, 1) := by decide +kernel
theorem dX10_taken_45 : decode cX10_taken 45 = .ok (.goto (-15), 3) := by decide +kernel
theorem dX10_taken_48 : decode cX10_taken 48 = .ok (.iload_n 3, 1) := by decide +kernel
theorem dX10_taken_49 : decode cX10_taken 49 = .ok (.iload_n 2, 1) := by decide +kernel
theorem dX10_taken_50 : decode cX10_taken 50 = .ok (.if_icmp .ne 12, 3) := by decide +kernel
theorem dX10_taken_53 : decode cX10_taken 53 = .ok (.aload_n 0, 1) := by decide +kernel
theorem dX10_taken_54 : decode cX10_taken 54 = .ok (.getfield 17, 3) := by decide +kernel
theorem dX10_taken_57 : decode cX10_taken 57 = .ok (.iload_n 1, 1) := by decide +kernel
theorem dX10_taken_58 : decode cX10_taken 58 = .ok (.iaload, 1) := by decide +kernel
theorem dX10_taken_59 : decode cX10_taken 59 = .ok (.goto 5, 3) := by decide +kernel
theorem dX10_taken_62 : decode cX10_taken 62 = .ok (.bipush (-13), 2) := by decide +kernel
theorem dX10_taken_64 : decode cX10_taken 64 = .ok (.ireturn, 1) := by decide +kernel
