theorem dL_acts_0 : decode cL_acts 0 = .ok (.iload_n 1, 1) := by decide +kernel
theorem dL_acts_1 : decode cL_acts 1 = .ok (.bipush 16, 2) := by decide +kernel
theorem dL_acts_3 : decode cL_acts 3 = .ok (.idiv, 1) := by decide +kernel
theorem dL_acts_4 : decode cL_acts 4 = .ok (.istore_n 2, 1) := by decide +kernel
theorem dL_acts_5 : decode cL_acts 5 = .ok (.iload_n 2, 1) := by decide +kernel
theorem dL_acts_6 : decode cL_acts 6 = .ok (.iconst 5, 1) := by decide +kernel
theorem dL_acts_7 : decode cL_acts 7 = .ok (.irem, 1) := by decide +kernel
theorem dL_acts_8 : decode cL_acts 8 = .ok (.istore_n 3, 1) := by decide +kernel
theorem dL_acts_9 : decode cL_acts 9 = .ok (.aload_n 0, 1) := by decide +kernel
theorem dL_acts_10 : decode cL_acts 10 = .ok (.iconst 5, 1) := by decide +kernel
theorem dL_acts_11 : decode cL_acts 11 = .ok (.invokevirtual 19, 3) := by decide +kernel
theorem dL_acts_14 : decode cL_acts 14 = .ok (.istore 4, 2) := by decide +kernel
theorem dL_acts_16 : decode cL_acts 16 = .ok (.iload_n 1, 1) := by decide +kernel
theorem dL_acts_17 : decode cL_acts 17 = .ok (.bipush 16, 2) := by decide +kernel
theorem dL_acts_19 : decode cL_acts 19 = .ok (.irem, 1) := by decide +kernel
theorem dL_acts_20 : decode cL_acts 20 = .ok (.tableswitch 662 0 14 #[76, 76, 76, 76, 179, 179, 302, 302, 360, 360, 360, 434, 434, 519, 545], 76) := by decide +kernel
theorem dL_acts_96 : decode cL_acts 96 = .ok (.aload_n 0, 1) := by decide +kernel
theorem dL_acts_97 : decode cL_acts 97 = .ok (.iload_n 3, 1) := by decide +kernel
theorem dL_acts_98 : decode cL_acts 98 = .ok (.iconst 4, 1) := by decide +kernel
theorem dL_acts_99 : decode cL_acts 99 = .ok (.invokevirtual 15, 3) := by decide +kernel
theorem dL_acts_102 : decode cL_acts 102 = .ok (.istore 5, 2) := by decide +kernel
theorem dL_acts_104 : decode cL_acts 104 = .ok (.aload_n 0, 1) := by decide +kernel
theorem dL_acts_105 : decode cL_acts 105 = .ok (.iconst 2, 1) := by decide +kernel
theorem dL_acts_106 : decode cL_acts 106 = .ok (.invokevirtual 19, 3) := by decide +kernel
theorem dL_acts_109 : decode cL_acts 109 = .ok (.istore 6, 2) := by decide +kernel
theorem dL_acts_111 : decode cL_acts 111 = .ok (.aload_n 0, 1) := by decide +kernel
theorem dL_acts_112 : decode cL_acts 112 = .ok (.iload_n 3, 1) := by decide +kernel
theorem dL_acts_113 : decode cL_acts 113 = .ok (.iload_n 2, 1) := by decide +kernel
theorem dL_acts_114 : decode cL_acts 114 = .ok (.bipush 8, 2) := by decide +kernel
theorem dL_acts_116 : decode cL_acts 116 = .ok (.idiv, 1) := by decide +kernel
theorem dL_acts_117 : decode cL_acts 117 = .ok (.sipush 256, 3) := by decide +kernel
theorem dL_acts_120 : decode cL_acts 120 = .ok (.irem, 1) := by decide +kernel
theorem dL_acts_121 : decode cL_acts 121 = .ok (.invokevirtual 32, 3) := by decide +kernel
theorem dL_acts_124 : decode cL_acts 124 = .ok (.istore 7, 2) := by decide +kernel
theorem dL_acts_126 : decode cL_acts 126 = .ok (.iload 7, 2) := by decide +kernel
theorem dL_acts_128 : decode cL_acts 128 = .ok (.ifCond .lt 48, 3) := by decide +kernel
theorem dL_acts_131 : decode cL_acts 131 = .ok (.iload 7, 2) := by decide +kernel
theorem dL_acts_133 : decode cL_acts 133 = .ok (.iload 6, 2) := by decide +kernel
theorem dL_acts_135 : decode cL_acts 135 = .ok (.if_icmp .ne 37, 3) := by decide +kernel
theorem dL_acts_138 : decode cL_acts 138 = .ok (.aload_n 0, 1) := by decide +kernel
theorem dL_acts_139 : decode cL_acts 139 = .ok (.iload 7, 2) := by decide +kernel
theorem dL_acts_141 : decode cL_acts 141 = .ok (.invokevirtual 26, 3) := by decide +kernel
theorem dL_acts_144 : decode cL_acts 144 = .ok (.iload_n 2, 1) := by decide +kernel
theorem dL_acts_145 : decode cL_acts 145 = .ok (.bipush 8, 2) := by decide +kernel
theorem dL_acts_147 : decode cL_acts 147 = .ok (.idiv, 1) := by decide +kernel
theorem dL_acts_148 : decode cL_acts 148 = .ok (.sipush 256, 3) := by decide +kernel
theorem dL_acts_151 : decode cL_acts 151 = .ok (.irem, 1) := by decide +kernel
theorem dL_acts_152 : decode cL_acts 152 = .ok (.if_icmp .ne 20, 3) := by decide +kernel
theorem dL_acts_155 : decode cL_acts 155 = .ok (.aload_n 0, 1) := by decide +kernel
theorem dL_acts_156 : decode cL_acts 156 = .ok (.iload_n 3, 1) := by decide +kernel
theorem dL_acts_157 : decode cL_acts 157 = .ok (.iconst 4, 1) := by decide +kernel
theorem dL_acts_158 : decode cL_acts 158 = .ok (.invokevirtual 15, 3) := by decide +kernel
theorem dL_acts_161 : decode cL_acts 161 = .ok (.iload 5, 2) := by decide +kernel
theorem dL_acts_163 : decode cL_acts 163 = .ok (.iconst 1, 1) := by decide +kernel
theorem dL_acts_164 : decode cL_acts 164 = .ok (.isub, 1) := by decide +kernel
theorem dL_acts_165 : decode cL_acts 165 = .ok (.if_icmp .ne 7, 3) := by decide +kernel
theorem dL_acts_168 : decode cL_acts 168 = .ok (.iconst 1, 1) := by decide +kernel
theorem dL_acts_169 : decode cL_acts 169 = .ok (.goto 29, 3) := by decide +kernel
theorem dL_acts_172 : decode cL_acts 172 = .ok (.iconst 0, 1) := by decide +kernel
theorem dL_acts_173 : decode cL_acts 173 = .ok (.goto 25, 3) := by decide +kernel
theorem dL_acts_176 : decode cL_acts 176 = .ok (.iload 7, 2) := by decide +kernel
theorem dL_acts_178 : decode cL_acts 178 = .ok (.iload 5, 2) := by decide +kernel
theorem dL_acts_180 : decode cL_acts 180 = .ok (.ifCond .ne 8, 3) := by decide +kernel
theorem dL_acts_183 : decode cL_acts 183 = .ok (.ldc 35, 2) := by decide +kernel
theorem dL_acts_185 : decode cL_acts 185 = .ok (.goto 5, 3) := by decide +kernel
theorem dL_acts_188 : decode cL_acts 188 = .ok (.ldc 36, 2) := by decide +kernel
theorem dL_acts_190 : decode cL_acts 190 = .ok (.if_icmp .ne 7, 3) := by decide +kernel
theorem dL_acts_193 : decode cL_acts 193 = .ok (.iconst 1, 1) := by decide +kernel
theorem dL_acts_194 : decode cL_acts 194 = .ok (.goto 4, 3) := by decide +kernel
theorem dL_acts_197 : decode cL_acts 197 = .ok (.iconst 0, 1) := by decide +kernel
theorem dL_acts_198 : decode cL_acts 198 = .ok (.ireturn, 1) := by decide +kernel
theorem dL_acts_199 : decode cL_acts 199 = .ok (.aload_n 0, 1) := by decide +kernel
theorem dL_acts_200 : decode cL_acts 200 = .ok (.iload_n 3, 1) := by decide +kernel
theorem dL_acts_201 : decode cL_acts 201 = .ok (.iconst 1, 1) := by decide +kernel
theorem dL_acts_202 : decode cL_acts 202 = .ok (.invokevirtual 15, 3) := by decide +kernel
theorem dL_acts_205 : decode cL_acts 205 = .ok (.ifCond .ne 19, 3) := by decide +kernel
theorem dL_acts_208 : decode cL_acts 208 = .ok (.aload_n 0, 1) := by decide +kernel
theorem dL_acts_209 : decode cL_acts 209 = .ok (.iload_n 3, 1) := by decide +kernel
theorem dL_acts_210 : decode cL_acts 210 = .ok (.invokevirtual 37, 3) := by decide +kernel
theorem dL_acts_213 : decode cL_acts 213 = .ok (.ldc 35, 2) := by decide +kernel
theorem dL_acts_215 : decode cL_acts 215 = .ok (.if_icmp .ne 7, 3) := by decide +kernel
theorem dL_acts_218 : decode cL_acts 218 = .ok (.iconst 1, 1) := by decide +kernel
theorem dL_acts_219 : decode cL_acts 219 = .ok (.goto 4, 3) := by decide +kernel
theorem dL_acts_222 : decode cL_acts 222 = .ok (.iconst 0, 1) := by decide +kernel
theorem dL_acts_223 : decode cL_acts 223 = .ok (.ireturn, 1) := by decide +kernel
theorem dL_acts_224 : decode cL_acts 224 = .ok (.aload_n 0, 1) := by decide +kernel
theorem dL_acts_225 : decode cL_acts 225 = .ok (.invokevirtual 40, 3) := by decide +kernel
theorem dL_acts_228 : decode cL_acts 228 = .ok (.iload_n 3, 1) := by decide +kernel
theorem dL_acts_229 : decode cL_acts 229 = .ok (.ishr, 1) := by decide +kernel
theorem dL_acts_230 : decode cL_acts 230 = .ok (.iconst 1, 1) := by decide +kernel
theorem dL_acts_231 : decode cL_acts 231 = .ok (.iand, 1) := by decide +kernel
theorem dL_acts_232 : decode cL_acts 232 = .ok (.istore 8, 2) := by decide +kernel
theorem dL_acts_234 : decode cL_acts 234 = .ok (.iload_n 2, 1) := by decide +kernel
theorem dL_acts_235 : decode cL_acts 235 = .ok (.bipush 8, 2) := by decide +kernel
theorem dL_acts_237 : decode cL_acts 237 = .ok (.idiv, 1) := by decide +kernel
theorem dL_acts_238 : decode cL_acts 238 = .ok (.iconst 3, 1) := by decide +kernel
theorem dL_acts_239 : decode cL_acts 239 = .ok (.irem, 1) := by decide +kernel
theorem dL_acts_240 : decode cL_acts 240 = .ok (.ifCond .le 23, 3) := by decide +kernel
theorem dL_acts_243 : decode cL_acts 243 = .ok (.iload 8, 2) := by decide +kernel
theorem dL_acts_245 : decode cL_acts 245 = .ok (.ifCond .ne 18, 3) := by decide +kernel
theorem dL_acts_248 : decode cL_acts 248 = .ok (.aload_n 0, 1) := by decide +kernel
theorem dL_acts_249 : decode cL_acts 249 = .ok (.iload_n 3, 1) := by decide +kernel
theorem dL_acts_250 : decode cL_acts 250 = .ok (.iconst (-1), 1) := by decide +kernel
theorem dL_acts_251 : decode cL_acts 251 = .ok (.invokevirtual 44, 3) := by decide +kernel
theorem dL_acts_254 : decode cL_acts 254 = .ok (.ifCond .le 7, 3) := by decide +kernel
theorem dL_acts_257 : decode cL_acts 257 = .ok (.iconst 1, 1) := by decide +kernel
theorem dL_acts_258 : decode cL_acts 258 = .ok (.goto 4, 3) := by decide +kernel
theorem dL_acts_261 : decode cL_acts 261 = .ok (.iconst 0, 1) := by decide +kernel
theorem dL_acts_262 : decode cL_acts 262 = .ok (.ireturn, 1) := by decide +kernel
theorem dL_acts_263 : decode cL_acts 263 = .ok (.aload_n 0, 1) := by decide +kernel
theorem dL_acts_264 : decode cL_acts 264 = .ok (.iload_n 3, 1) := by decide +kernel
theorem dL_acts_265 : decode cL_acts 265 = .ok (.invokevirtual 37, 3) := by decide +kernel
theorem dL_acts_268 : decode cL_acts 268 = .ok (.istore 9, 2) := by decide +kernel
theorem dL_acts_270 : decode cL_acts 270 = .ok (.aload_n 0, 1) := by decide +kernel
theorem dL_acts_271 : decode cL_acts 271 = .ok (.iconst 5, 1) := by decide +kernel
theorem dL_acts_272 : decode cL_acts 272 = .ok (.invokevirtual 19, 3) := by decide +kernel
theorem dL_acts_275 : decode cL_acts 275 = .ok (.iload 4, 2) := by decide +kernel
theorem dL_acts_277 : decode cL_acts 277 = .ok (.iload 9, 2) := by decide +kernel
theorem dL_acts_279 : decode cL_acts 279 = .ok (.iadd, 1) := by decide +kernel
theorem dL_acts_280 : decode cL_acts 280 = .ok (.if_icmp .ne 40, 3) := by decide +kernel
theorem dL_acts_283 : decode cL_acts 283 = .ok (.iload 8, 2) := by decide +kernel
theorem dL_acts_285 : decode cL_acts 285 = .ok (.iconst 1, 1) := by decide +kernel
theorem dL_acts_286 : decode cL_acts 286 = .ok (.if_icmp .ne 7, 3) := by decide +kernel
theorem dL_acts_289 : decode cL_acts 289 = .ok (.iconst 1, 1) := by decide +kernel
theorem dL_acts_290 : decode cL_acts 290 = .ok (.goto 4, 3) := by decide +kernel
theorem dL_acts_293 : decode cL_acts 293 = .ok (.iconst 0, 1) := by decide +kernel
theorem dL_acts_294 : decode cL_acts 294 = .ok (.iload 9, 2) := by decide +kernel
theorem dL_acts_296 : decode cL_acts 296 = .ok (.ifCond .ne 7, 3) := by decide +kernel
theorem dL_acts_299 : decode cL_acts 299 = .ok (.iconst 1, 1) := by decide +kernel
theorem dL_acts_300 : decode cL_acts 300 = .ok (.goto 4, 3) := by decide +kernel
theorem dL_acts_303 : decode cL_acts 303 = .ok (.iconst 0, 1) := by decide +kernel
theorem dL_acts_304 : decode cL_acts 304 = .ok (.if_icmp .ne 16, 3) := by decide +kernel
theorem dL_acts_307 : decode cL_acts 307 = .ok (.aload_n 0, 1) := by decide +kernel
theorem dL_acts_308 : decode cL_acts 308 = .ok (.iload_n 3, 1) := by decide +kernel
theorem dL_acts_309 : decode cL_acts 309 = .ok (.iconst 1, 1) := by decide +kernel
theorem dL_acts_310 : decode cL_acts 310 = .ok (.invokevirtual 15, 3) := by decide +kernel
theorem dL_acts_313 : decode cL_acts 313 = .ok (.ifCond .ne 7, 3) := by decide +kernel
theorem dL_acts_316 : decode cL_acts 316 = .ok (.iconst 1, 1) := by decide +kernel
theorem dL_acts_317 : decode cL_acts 317 = .ok (.goto 4, 3) := by decide +kernel
theorem dL_acts_320 : decode cL_acts 320 = .ok (.iconst 0, 1) := by decide +kernel
theorem dL_acts_321 : decode cL_acts 321 = .ok (.ireturn, 1) := by decide +kernel
theorem dL_acts_322 : decode cL_acts 322 = .ok (.aload_n 0, 1) := by decide +kernel
theorem dL_acts_323 : decode cL_acts 323 = .ok (.iload_n 3, 1) := by decide +kernel
theorem dL_acts_324 : decode cL_acts 324 = .ok (.iload_n 2, 1) := by decide +kernel
theorem dL_acts_325 : decode cL_acts 325 = .ok (.bipush 8, 2) := by decide +kernel
theorem dL_acts_327 : decode cL_acts 327 = .ok (.idiv, 1) := by decide +kernel
theorem dL_acts_328 : decode cL_acts 328 = .ok (.bipush 6, 2) := by decide +kernel
theorem dL_acts_330 : decode cL_acts 330 = .ok (.irem, 1) := by decide +kernel
theorem dL_acts_331 : decode cL_acts 331 = .ok (.invokevirtual 47, 3) := by decide +kernel
theorem dL_acts_334 : decode cL_acts 334 = .ok (.istore 10, 2) := by decide +kernel
theorem dL_acts_336 : decode cL_acts 336 = .ok (.iload 10, 2) := by decide +kernel
theorem dL_acts_338 : decode cL_acts 338 = .ok (.ldc 35, 2) := by decide +kernel
theorem dL_acts_340 : decode cL_acts 340 = .ok (.if_icmp .ne 21, 3) := by decide +kernel
theorem dL_acts_343 : decode cL_acts 343 = .ok (.aload_n 0, 1) := by decide +kernel
theorem dL_acts_344 : decode cL_acts 344 = .ok (.iconst 5, 1) := by decide +kernel
theorem dL_acts_345 : decode cL_acts 345 = .ok (.invokevirtual 19, 3) := by decide +kernel
theorem dL_acts_348 : decode cL_acts 348 = .ok (.iload 4, 2) := by decide +kernel
theorem dL_acts_350 : decode cL_acts 350 = .ok (.if_icmp .ne 7, 3) := by decide +kernel
theorem dL_acts_353 : decode cL_acts 353 = .ok (.iconst 1, 1) := by decide +kernel
theorem dL_acts_354 : decode cL_acts 354 = .ok (.goto 25, 3) := by decide +kernel
theorem dL_acts_357 : decode cL_acts 357 = .ok (.iconst 0, 1) := by decide +kernel
theorem dL_acts_358 : decode cL_acts 358 = .ok (.goto 21, 3) := by decide +kernel
theorem dL_acts_361 : decode cL_acts 361 = .ok (.aload_n 0, 1) := by decide +kernel
theorem dL_acts_362 : decode cL_acts 362 = .ok (.iconst 5, 1) := by decide +kernel
theorem dL_acts_363 : decode cL_acts 363 = .ok (.invokevirtual 19, 3) := by decide +kernel
theorem dL_acts_366 : decode cL_acts 366 = .ok (.iload 4, 2) := by decide +kernel
theorem dL_acts_368 : decode cL_acts 368 = .ok (.iload 10, 2) := by decide +kernel
theorem dL_acts_370 : decode cL_acts 370 = .ok (.iadd, 1) := by decide +kernel
theorem dL_acts_371 : decode cL_acts 371 = .ok (.if_icmp .ne 7, 3) := by decide +kernel
theorem dL_acts_374 : decode cL_acts 374 = .ok (.iconst 1, 1) := by decide +kernel
theorem dL_acts_375 : decode cL_acts 375 = .ok (.goto 4, 3) := by decide +kernel
theorem dL_acts_378 : decode cL_acts 378 = .ok (.iconst 0, 1) := by decide +kernel
theorem dL_acts_379 : decode cL_acts 379 = .ok (.ireturn, 1) := by decide +kernel
theorem dL_acts_380 : decode cL_acts 380 = .ok (.aload_n 0, 1) := by decide +kernel
theorem dL_acts_381 : decode cL_acts 381 = .ok (.bipush 7, 2) := by decide +kernel
theorem dL_acts_383 : decode cL_acts 383 = .ok (.invokevirtual 19, 3) := by decide +kernel
theorem dL_acts_386 : decode cL_acts 386 = .ok (.istore 11, 2) := by decide +kernel
theorem dL_acts_388 : decode cL_acts 388 = .ok (.aload_n 0, 1) := by decide +kernel
theorem dL_acts_389 : decode cL_acts 389 = .ok (.bipush 6, 2) := by decide +kernel
theorem dL_acts_391 : decode cL_acts 391 = .ok (.invokevirtual 19, 3) := by decide +kernel
theorem dL_acts_394 : decode cL_acts 394 = .ok (.istore 12, 2) := by decide +kernel
theorem dL_acts_396 : decode cL_acts 396 = .ok (.aload_n 0, 1) := by decide +kernel
theorem dL_acts_397 : decode cL_acts 397 = .ok (.iconst 1, 1) := by decide +kernel
theorem dL_acts_398 : decode cL_acts 398 = .ok (.iload_n 2, 1) := by decide +kernel
theorem dL_acts_399 : decode cL_acts 399 = .ok (.iconst 4, 1) := by decide +kernel
theorem dL_acts_400 : decode cL_acts 400 = .ok (.irem, 1) := by decide +kernel
theorem dL_acts_401 : decode cL_acts 401 = .ok (.iadd, 1) := by decide +kernel
theorem dL_acts_402 : decode cL_acts 402 = .ok (.invokevirtual 50, 3) := by decide +kernel
theorem dL_acts_405 : decode cL_acts 405 = .ok (.istore 13, 2) := by decide +kernel
theorem dL_acts_407 : decode cL_acts 407 = .ok (.aload_n 0, 1) := by decide +kernel
theorem dL_acts_408 : decode cL_acts 408 = .ok (.bipush 7, 2) := by decide +kernel
theorem dL_acts_410 : decode cL_acts 410 = .ok (.invokevirtual 19, 3) := by decide +kernel
theorem dL_acts_413 : decode cL_acts 413 = .ok (.iload 11, 2) := by decide +kernel
theorem dL_acts_415 : decode cL_acts 415 = .ok (.iload 13, 2) := by decide +kernel
theorem dL_acts_417 : decode cL_acts 417 = .ok (.iadd, 1) := by decide +kernel
theorem dL_acts_418 : decode cL_acts 418 = .ok (.if_icmp .ne 34, 3) := by decide +kernel
theorem dL_acts_421 : decode cL_acts 421 = .ok (.aload_n 0, 1) := by decide +kernel
theorem dL_acts_422 : decode cL_acts 422 = .ok (.bipush 6, 2) := by decide +kernel
theorem dL_acts_424 : decode cL_acts 424 = .ok (.invokevirtual 19, 3) := by decide +kernel
theorem dL_acts_427 : decode cL_acts 427 = .ok (.iload 12, 2) := by decide +kernel
theorem dL_acts_429 : decode cL_acts 429 = .ok (.iconst 1, 1) := by decide +kernel
theorem dL_acts_430 : decode cL_acts 430 = .ok (.iadd, 1) := by decide +kernel
theorem dL_acts_431 : decode cL_acts 431 = .ok (.iload_n 2, 1) := by decide +kernel
theorem dL_acts_432 : decode cL_acts 432 = .ok (.iconst 4, 1) := by decide +kernel
theorem dL_acts_433 : decode cL_acts 433 = .ok (.irem, 1) := by decide +kernel
theorem dL_acts_434 : decode cL_acts 434 = .ok (.iadd, 1) := by decide +kernel
theorem dL_acts_435 : decode cL_acts 435 = .ok (.if_icmp .ne 17, 3) := by decide +kernel
theorem dL_acts_438 : decode cL_acts 438 = .ok (.aload_n 0, 1) := by decide +kernel
theorem dL_acts_439 : decode cL_acts 439 = .ok (.iconst 5, 1) := by decide +kernel
theorem dL_acts_440 : decode cL_acts 440 = .ok (.invokevirtual 19, 3) := by decide +kernel
theorem dL_acts_443 : decode cL_acts 443 = .ok (.iload 4, 2) := by decide +kernel
theorem dL_acts_445 : decode cL_acts 445 = .ok (.if_icmp .ne 7, 3) := by decide +kernel
theorem dL_acts_448 : decode cL_acts 448 = .ok (.iconst 1, 1) := by decide +kernel
theorem dL_acts_449 : decode cL_acts 449 = .ok (.goto 4, 3) := by decide +kernel
theorem dL_acts_452 : decode cL_acts 452 = .ok (.iconst 0, 1) := by decide +kernel
theorem dL_acts_453 : decode cL_acts 453 = .ok (.ireturn, 1) := by decide +kernel
theorem dL_acts_454 : decode cL_acts 454 = .ok (.aload_n 0, 1) := by decide +kernel
theorem dL_acts_455 : decode cL_acts 455 = .ok (.iload_n 3, 1) := by decide +kernel
theorem dL_acts_456 : decode cL_acts 456 = .ok (.iconst 0, 1) := by decide +kernel
theorem dL_acts_457 : decode cL_acts 457 = .ok (.invokevirtual 15, 3) := by decide +kernel
theorem dL_acts_460 : decode cL_acts 460 = .ok (.istore 14, 2) := by decide +kernel
theorem dL_acts_462 : decode cL_acts 462 = .ok (.aload_n 0, 1) := by decide +kernel
theorem dL_acts_463 : decode cL_acts 463 = .ok (.iload 14, 2) := by decide +kernel
theorem dL_acts_465 : decode cL_acts 465 = .ok (.iconst 0, 1) := by decide +kernel
theorem dL_acts_466 : decode cL_acts 466 = .ok (.invokevirtual 9, 3) := by decide +kernel
theorem dL_acts_469 : decode cL_acts 469 = .ok (.istore 15, 2) := by decide +kernel
theorem dL_acts_471 : decode cL_acts 471 = .ok (.aload_n 0, 1) := by decide +kernel
theorem dL_acts_472 : decode cL_acts 472 = .ok (.iload_n 3, 1) := by decide +kernel
theorem dL_acts_473 : decode cL_acts 473 = .ok (.invokevirtual 53, 3) := by decide +kernel
theorem dL_acts_476 : decode cL_acts 476 = .ok (.istore 16, 2) := by decide +kernel
theorem dL_acts_478 : decode cL_acts 478 = .ok (.iload 16, 2) := by decide +kernel
theorem dL_acts_480 : decode cL_acts 480 = .ok (.ldc 35, 2) := by decide +kernel
theorem dL_acts_482 : decode cL_acts 482 = .ok (.if_icmp .ne 23, 3) := by decide +kernel
theorem dL_acts_485 : decode cL_acts 485 = .ok (.aload_n 0, 1) := by decide +kernel
theorem dL_acts_486 : decode cL_acts 486 = .ok (.iload 14, 2) := by decide +kernel
theorem dL_acts_488 : decode cL_acts 488 = .ok (.iconst 0, 1) := by decide +kernel
theorem dL_acts_489 : decode cL_acts 489 = .ok (.invokevirtual 9, 3) := by decide +kernel
theorem dL_acts_492 : decode cL_acts 492 = .ok (.iload 15, 2) := by decide +kernel
theorem dL_acts_494 : decode cL_acts 494 = .ok (.if_icmp .ne 7, 3) := by decide +kernel
theorem dL_acts_497 : decode cL_acts 497 = .ok (.iconst 1, 1) := by decide +kernel
theorem dL_acts_498 : decode cL_acts 498 = .ok (.goto 40, 3) := by decide +kernel
theorem dL_acts_501 : decode cL_acts 501 = .ok (.iconst 0, 1) := by decide +kernel
theorem dL_acts_502 : decode cL_acts 502 = .ok (.goto 36, 3) := by decide +kernel
theorem dL_acts_505 : decode cL_acts 505 = .ok (.iload 15, 2) := by decide +kernel
theorem dL_acts_507 : decode cL_acts 507 = .ok (.ldc 18, 2) := by decide +kernel
theorem dL_acts_509 : decode cL_acts 509 = .ok (.if_icmp .ne 28, 3) := by decide +kernel
theorem dL_acts_512 : decode cL_acts 512 = .ok (.aload_n 0, 1) := by decide +kernel
theorem dL_acts_513 : decode cL_acts 513 = .ok (.iload 14, 2) := by decide +kernel
theorem dL_acts_515 : decode cL_acts 515 = .ok (.iconst 0, 1) := by decide +kernel
theorem dL_acts_516 : decode cL_acts 516 = .ok (.invokevirtual 9, 3) := by decide +kernel
theorem dL_acts_519 : decode cL_acts 519 = .ok (.iload_n 3, 1) := by decide +kernel
theorem dL_acts_520 : decode cL_acts 520 = .ok (.if_icmp .ne 17, 3) := by decide +kernel
theorem dL_acts_523 : decode cL_acts 523 = .ok (.aload_n 0, 1) := by decide +kernel
theorem dL_acts_524 : decode cL_acts 524 = .ok (.iload_n 3, 1) := by decide +kernel
theorem dL_acts_525 : decode cL_acts 525 = .ok (.iconst 2, 1) := by decide +kernel
theorem dL_acts_526 : decode cL_acts 526 = .ok (.invokevirtual 15, 3) := by decide +kernel
theorem dL_acts_529 : decode cL_acts 529 = .ok (.iconst 1, 1) := by decide +kernel
theorem dL_acts_530 : decode cL_acts 530 = .ok (.if_icmp .ne 7, 3) := by decide +kernel
theorem dL_acts_533 : decode cL_acts 533 = .ok (.iconst 1, 1) := by decide +kernel
theorem dL_acts_534 : decode cL_acts 534 = .ok (.goto 4, 3) := by decide +kernel
theorem dL_acts_537 : decode cL_acts 537 = .ok (.iconst 0, 1) := by decide +kernel
theorem dL_acts_538 : decode cL_acts 538 = .ok (.ireturn, 1) := by decide +kernel
theorem dL_acts_539 : decode cL_acts 539 = .ok (.aload_n 0, 1) := by decide +kernel
theorem dL_acts_540 : decode cL_acts 540 = .ok (.iload_n 3, 1) := by decide +kernel
theorem dL_acts_541 : decode cL_acts 541 = .ok (.invokevirtual 56, 3) := by decide +kernel
theorem dL_acts_544 : decode cL_acts 544 = .ok (.ldc 59, 2) := by decide +kernel
theorem dL_acts_546 : decode cL_acts 546 = .ok (.if_icmp .eq 17, 3) := by decide +kernel
theorem dL_acts_549 : decode cL_acts 549 = .ok (.aload_n 0, 1) := by decide +kernel
theorem dL_acts_550 : decode cL_acts 550 = .ok (.iconst 5, 1) := by decide +kernel
theorem dL_acts_551 : decode cL_acts 551 = .ok (.invokevirtual 19, 3) := by decide +kernel
theorem dL_acts_554 : decode cL_acts 554 = .ok (.iload 4, 2) := by decide +kernel
theorem dL_acts_556 : decode cL_acts 556 = .ok (.if_icmp .ne 7, 3) := by decide +kernel
theorem dL_acts_559 : decode cL_acts 559 = .ok (.iconst 1, 1) := by decide +kernel
theorem dL_acts_560 : decode cL_acts 560 = .ok (.goto 4, 3) := by decide +kernel
theorem dL_acts_563 : decode cL_acts 563 = .ok (.iconst 0, 1) := by decide +kernel
theorem dL_acts_564 : decode cL_acts 564 = .ok (.ireturn, 1) := by decide +kernel
theorem dL_acts_565 : decode cL_acts 565 = .ok (.aload_n 0, 1) := by decide +kernel
theorem dL_acts_566 : decode cL_acts 566 = .ok (.iconst 2, 1) := by decide +kernel
theorem dL_acts_567 : decode cL_acts 567 = .ok (.invokevirtual 19, 3) := by decide +kernel
theorem dL_acts_570 : decode cL_acts 570 = .ok (.ifCond .ne 19, 3) := by decide +kernel
theorem dL_acts_573 : decode cL_acts 573 = .ok (.aload_n 0, 1) := by decide +kernel
theorem dL_acts_574 : decode cL_acts 574 = .ok (.iconst 0, 1) := by decide +kernel
theorem dL_acts_575 : decode cL_acts 575 = .ok (.invokevirtual 26, 3) := by decide +kernel
theorem dL_acts_578 : decode cL_acts 578 = .ok (.ldc 59, 2) := by decide +kernel
theorem dL_acts_580 : decode cL_acts 580 = .ok (.if_icmp .ne 7, 3) := by decide +kernel
theorem dL_acts_583 : decode cL_acts 583 = .ok (.iconst 1, 1) := by decide +kernel
theorem dL_acts_584 : decode cL_acts 584 = .ok (.goto 4, 3) := by decide +kernel
theorem dL_acts_587 : decode cL_acts 587 = .ok (.iconst 0, 1) := by decide +kernel
theorem dL_acts_588 : decode cL_acts 588 = .ok (.ireturn, 1) := by decide +kernel
theorem dL_acts_589 : decode cL_acts 589 = .ok (.iload_n 2, 1) := by decide +kernel
theorem dL_acts_590 : decode cL_acts 590 = .ok (.bipush 8, 2) := by decide +kernel
theorem dL_acts_592 : decode cL_acts 592 = .ok (.idiv, 1) := by decide +kernel
theorem dL_acts_593 : decode cL_acts 593 = .ok (.aload_n 0, 1) := by decide +kernel
theorem dL_acts_594 : decode cL_acts 594 = .ok (.iconst 2, 1) := by decide +kernel
theorem dL_acts_595 : decode cL_acts 595 = .ok (.invokevirtual 19, 3) := by decide +kernel
theorem dL_acts_598 : decode cL_acts 598 = .ok (.irem, 1) := by decide +kernel
theorem dL_acts_599 : decode cL_acts 599 = .ok (.istore 17, 2) := by decide +kernel
theorem dL_acts_601 : decode cL_acts 601 = .ok (.aload_n 0, 1) := by decide +kernel
theorem dL_acts_602 : decode cL_acts 602 = .ok (.iload 17, 2) := by decide +kernel
theorem dL_acts_604 : decode cL_acts 604 = .ok (.invokevirtual 26, 3) := by decide +kernel
theorem dL_acts_607 : decode cL_acts 607 = .ok (.istore 18, 2) := by decide +kernel
theorem dL_acts_609 : decode cL_acts 609 = .ok (.aload_n 0, 1) := by decide +kernel
theorem dL_acts_610 : decode cL_acts 610 = .ok (.iload 17, 2) := by decide +kernel
theorem dL_acts_612 : decode cL_acts 612 = .ok (.iload_n 2, 1) := by decide +kernel
theorem dL_acts_613 : decode cL_acts 613 = .ok (.sipush 256, 3) := by decide +kernel
theorem dL_acts_616 : decode cL_acts 616 = .ok (.idiv, 1) := by decide +kernel
theorem dL_acts_617 : decode cL_acts 617 = .ok (.sipush 256, 3) := by decide +kernel
theorem dL_acts_620 : decode cL_acts 620 = .ok (.irem, 1) := by decide +kernel
theorem dL_acts_621 : decode cL_acts 621 = .ok (.invokevirtual 60, 3) := by decide +kernel
theorem dL_acts_624 : decode cL_acts 624 = .ok (.istore 19, 2) := by decide +kernel
theorem dL_acts_626 : decode cL_acts 626 = .ok (.iload 19, 2) := by decide +kernel
theorem dL_acts_628 : decode cL_acts 628 = .ok (.ldc 35, 2) := by decide +kernel
theorem dL_acts_630 : decode cL_acts 630 = .ok (.if_icmp .ne 21, 3) := by decide +kernel
theorem dL_acts_633 : decode cL_acts 633 = .ok (.aload_n 0, 1) := by decide +kernel
theorem dL_acts_634 : decode cL_acts 634 = .ok (.iload 17, 2) := by decide +kernel
theorem dL_acts_636 : decode cL_acts 636 = .ok (.iconst 0, 1) := by decide +kernel
theorem dL_acts_637 : decode cL_acts 637 = .ok (.invokevirtual 23, 3) := by decide +kernel
theorem dL_acts_640 : decode cL_acts 640 = .ok (.ifCond .le 7, 3) := by decide +kernel
theorem dL_acts_643 : decode cL_acts 643 = .ok (.iconst 1, 1) := by decide +kernel
theorem dL_acts_644 : decode cL_acts 644 = .ok (.goto 37, 3) := by decide +kernel
theorem dL_acts_647 : decode cL_acts 647 = .ok (.iconst 0, 1) := by decide +kernel
theorem dL_acts_648 : decode cL_acts 648 = .ok (.goto 33, 3) := by decide +kernel
theorem dL_acts_651 : decode cL_acts 651 = .ok (.iload 19, 2) := by decide +kernel
theorem dL_acts_653 : decode cL_acts 653 = .ok (.iload 18, 2) := by decide +kernel
theorem dL_acts_655 : decode cL_acts 655 = .ok (.if_icmp .ne 25, 3) := by decide +kernel
theorem dL_acts_658 : decode cL_acts 658 = .ok (.aload_n 0, 1) := by decide +kernel
theorem dL_acts_659 : decode cL_acts 659 = .ok (.iload 17, 2) := by decide +kernel
theorem dL_acts_661 : decode cL_acts 661 = .ok (.invokevirtual 26, 3) := by decide +kernel
theorem dL_acts_664 : decode cL_acts 664 = .ok (.iload_n 2, 1) := by decide +kernel
theorem dL_acts_665 : decode cL_acts 665 = .ok (.sipush 256, 3) := by decide +kernel
theorem dL_acts_668 : decode cL_acts 668 = .ok (.idiv, 1) := by decide +kernel
theorem dL_acts_669 : decode cL_acts 669 = .ok (.sipush 256, 3) := by decide +kernel
theorem dL_acts_672 : decode cL_acts 672 = .ok (.irem, 1) := by decide +kernel
theorem dL_acts_673 : decode cL_acts 673 = .ok (.if_icmp .ne 7, 3) := by decide +kernel
theorem dL_acts_676 : decode cL_acts 676 = .ok (.iconst 1, 1) := by decide +kernel
theorem dL_acts_677 : decode cL_acts 677 = .ok (.goto 4, 3) := by decide +kernel
theorem dL_acts_680 : decode cL_acts 680 = .ok (.iconst 0, 1) := by decide +kernel
theorem dL_acts_681 : decode cL_acts 681 = .ok (.ireturn, 1) := by decide +kernel
theorem dL_acts_682 : decode cL_acts 682 = .ok (.aload_n 0, 1) := by decide +kernel
theorem dL_acts_683 : decode cL_acts 683 = .ok (.iconst 2, 1) := by decide +kernel
theorem dL_acts_684 : decode cL_acts 684 = .ok (.invokevirtual 19, 3) := by decide +kernel
theorem dL_acts_687 : decode cL_acts 687 = .ok (.ifCond .eq 33, 3) := by decide +kernel
theorem dL_acts_690 : decode cL_acts 690 = .ok (.aload_n 0, 1) := by decide +kernel
theorem dL_acts_691 : decode cL_acts 691 = .ok (.iload_n 2, 1) := by decide +kernel
theorem dL_acts_692 : decode cL_acts 692 = .ok (.bipush 8, 2) := by decide +kernel
theorem dL_acts_694 : decode cL_acts 694 = .ok (.idiv, 1) := by decide +kernel
theorem dL_acts_695 : decode cL_acts 695 = .ok (.aload_n 0, 1) := by decide +kernel
theorem dL_acts_696 : decode cL_acts 696 = .ok (.iconst 2, 1) := by decide +kernel
theorem dL_acts_697 : decode cL_acts 697 = .ok (.invokevirtual 19, 3) := by decide +kernel
theorem dL_acts_700 : decode cL_acts 700 = .ok (.irem, 1) := by decide +kernel
theorem dL_acts_701 : decode cL_acts 701 = .ok (.iload_n 3, 1) := by decide +kernel
theorem dL_acts_702 : decode cL_acts 702 = .ok (.invokevirtual 63, 3) := by decide +kernel
theorem dL_acts_705 : decode cL_acts 705 = .ok (.ldc 59, 2) := by decide +kernel
theorem dL_acts_707 : decode cL_acts 707 = .ok (.if_icmp .eq 17, 3) := by decide +kernel
theorem dL_acts_710 : decode cL_acts 710 = .ok (.aload_n 0, 1) := by decide +kernel
theorem dL_acts_711 : decode cL_acts 711 = .ok (.iconst 5, 1) := by decide +kernel
theorem dL_acts_712 : decode cL_acts 712 = .ok (.invokevirtual 19, 3) := by decide +kernel
theorem dL_acts_715 : decode cL_acts 715 = .ok (.iload 4, 2) := by decide +kernel
theorem dL_acts_717 : decode cL_acts 717 = .ok (.if_icmp .ne 7, 3) := by decide +kernel
theorem dL_acts_720 : decode cL_acts 720 = .ok (.iconst 1, 1) := by decide +kernel
theorem dL_acts_721 : decode cL_acts 721 = .ok (.goto 4, 3) := by decide +kernel
theorem dL_acts_724 : decode cL_acts 724 = .ok (.iconst 0, 1) := by decide +kernel
theorem dL_acts_725 : decode cL_acts 725 = .ok (.ireturn, 1) := by decide +kernel
