theorem dL_cell_0 : decode cL_cell 0 = .ok (.iload_n 1, 1) := by decide +kernel
theorem dL_cell_1 : decode cL_cell 1 = .ok (.aload_n 0, 1) := by decide +kernel
theorem dL_cell_2 : decode cL_cell 2 = .ok (.arraylength, 1) := by decide +kernel
theorem dL_cell_3 : decode cL_cell 3 = .ok (.if_icmp .ge 9, 3) := by decide +kernel
theorem dL_cell_6 : decode cL_cell 6 = .ok (.aload_n 0, 1) := by decide +kernel
theorem dL_cell_7 : decode cL_cell 7 = .ok (.iload_n 1, 1) := by decide +kernel
theorem dL_cell_8 : decode cL_cell 8 = .ok (.iaload, 1) := by decide +kernel
theorem dL_cell_9 : decode cL_cell 9 = .ok (.goto 10, 3) := by decide +kernel
theorem dL_cell_12 : decode cL_cell 12 = .ok (.ldc 7, 2) := by decide +kernel
theorem dL_cell_14 : decode cL_cell 14 = .ok (.iload_n 1, 1) := by decide +kernel
theorem dL_cell_15 : decode cL_cell 15 = .ok (.bipush 31, 2) := by decide +kernel
theorem dL_cell_17 : decode cL_cell 17 = .ok (.iadd, 1) := by decide +kernel
theorem dL_cell_18 : decode cL_cell 18 = .ok (.imul, 1) := by decide +kernel
theorem dL_cell_19 : decode cL_cell 19 = .ok (.ldc 8, 2) := by decide +kernel
theorem dL_cell_21 : decode cL_cell 21 = .ok (.iand, 1) := by decide +kernel
theorem dL_cell_22 : decode cL_cell 22 = .ok (.ireturn, 1) := by decide +kernel
theorem dL_families_0 : decode cL_families 0 = .ok (.iconst 0, 1) := by decide +kernel
theorem dL_families_1 : decode cL_families 1 = .ok (.istore_n 1, 1) := by decide +kernel
theorem dL_families_2 : decode cL_families 2 = .ok (.iconst 0, 1) := by decide +kernel
theorem dL_families_3 : decode cL_families 3 = .ok (.istore_n 2, 1) := by decide +kernel
theorem dL_families_4 : decode cL_families 4 = .ok (.iconst 0, 1) := by decide +kernel
theorem dL_families_5 : decode cL_families 5 = .ok (.istore_n 3, 1) := by decide +kernel
theorem dL_families_6 : decode cL_families 6 = .ok (.iconst 0, 1) := by decide +kernel
theorem dL_families_7 : decode cL_families 7 = .ok (.istore 4, 2) := by decide +kernel
theorem dL_families_9 : decode cL_families 9 = .ok (.iconst 1, 1) := by decide +kernel
theorem dL_families_10 : decode cL_families 10 = .ok (.istore 5, 2) := by decide +kernel
theorem dL_families_12 : decode cL_families 12 = .ok (.iconst 0, 1) := by decide +kernel
theorem dL_families_13 : decode cL_families 13 = .ok (.istore 6, 2) := by decide +kernel
theorem dL_families_15 : decode cL_families 15 = .ok (.iload 6, 2) := by decide +kernel
theorem dL_families_17 : decode cL_families 17 = .ok (.iconst 3, 1) := by decide +kernel
theorem dL_families_18 : decode cL_families 18 = .ok (.if_icmp .ge 413, 3) := by decide +kernel
theorem dL_families_21 : decode cL_families 21 = .ok (.iload 5, 2) := by decide +kernel
theorem dL_families_23 : decode cL_families 23 = .ok (.ifCond .eq 408, 3) := by decide +kernel
theorem dL_families_26 : decode cL_families 26 = .ok (.aload_n 0, 1) := by decide +kernel
theorem dL_families_27 : decode cL_families 27 = .ok (.iload 6, 2) := by decide +kernel
theorem dL_families_29 : decode cL_families 29 = .ok (.iconst 0, 1) := by decide +kernel
theorem dL_families_30 : decode cL_families 30 = .ok (.invokevirtual 9, 3) := by decide +kernel
theorem dL_families_33 : decode cL_families 33 = .ok (.istore 7, 2) := by decide +kernel
theorem dL_families_35 : decode cL_families 35 = .ok (.aload_n 0, 1) := by decide +kernel
theorem dL_families_36 : decode cL_families 36 = .ok (.iload 6, 2) := by decide +kernel
theorem dL_families_38 : decode cL_families 38 = .ok (.iconst 4, 1) := by decide +kernel
theorem dL_families_39 : decode cL_families 39 = .ok (.invokevirtual 9, 3) := by decide +kernel
theorem dL_families_42 : decode cL_families 42 = .ok (.istore 8, 2) := by decide +kernel
theorem dL_families_44 : decode cL_families 44 = .ok (.iload_n 1, 1) := by decide +kernel
theorem dL_families_45 : decode cL_families 45 = .ok (.iload 7, 2) := by decide +kernel
theorem dL_families_47 : decode cL_families 47 = .ok (.ifCond .lt 7, 3) := by decide +kernel
theorem dL_families_50 : decode cL_families 50 = .ok (.iconst 1, 1) := by decide +kernel
theorem dL_families_51 : decode cL_families 51 = .ok (.goto 4, 3) := by decide +kernel
theorem dL_families_54 : decode cL_families 54 = .ok (.iconst 0, 1) := by decide +kernel
theorem dL_families_55 : decode cL_families 55 = .ok (.iadd, 1) := by decide +kernel
theorem dL_families_56 : decode cL_families 56 = .ok (.istore_n 1, 1) := by decide +kernel
theorem dL_families_57 : decode cL_families 57 = .ok (.iload_n 2, 1) := by decide +kernel
theorem dL_families_58 : decode cL_families 58 = .ok (.aload_n 0, 1) := by decide +kernel
theorem dL_families_59 : decode cL_families 59 = .ok (.iload 6, 2) := by decide +kernel
theorem dL_families_61 : decode cL_families 61 = .ok (.iconst 2, 1) := by decide +kernel
theorem dL_families_62 : decode cL_families 62 = .ok (.invokevirtual 9, 3) := by decide +kernel
theorem dL_families_65 : decode cL_families 65 = .ok (.iadd, 1) := by decide +kernel
theorem dL_families_66 : decode cL_families 66 = .ok (.istore_n 2, 1) := by decide +kernel
theorem dL_families_67 : decode cL_families 67 = .ok (.iload_n 3, 1) := by decide +kernel
theorem dL_families_68 : decode cL_families 68 = .ok (.aload_n 0, 1) := by decide +kernel
theorem dL_families_69 : decode cL_families 69 = .ok (.iload 6, 2) := by decide +kernel
theorem dL_families_71 : decode cL_families 71 = .ok (.iconst 3, 1) := by decide +kernel
theorem dL_families_72 : decode cL_families 72 = .ok (.invokevirtual 9, 3) := by decide +kernel
theorem dL_families_75 : decode cL_families 75 = .ok (.iadd, 1) := by decide +kernel
theorem dL_families_76 : decode cL_families 76 = .ok (.istore_n 3, 1) := by decide +kernel
theorem dL_families_77 : decode cL_families 77 = .ok (.aload_n 0, 1) := by decide +kernel
theorem dL_families_78 : decode cL_families 78 = .ok (.iload 6, 2) := by decide +kernel
theorem dL_families_80 : decode cL_families 80 = .ok (.iconst 1, 1) := by decide +kernel
theorem dL_families_81 : decode cL_families 81 = .ok (.invokevirtual 9, 3) := by decide +kernel
theorem dL_families_84 : decode cL_families 84 = .ok (.istore 9, 2) := by decide +kernel
theorem dL_families_86 : decode cL_families 86 = .ok (.iconst 0, 1) := by decide +kernel
theorem dL_families_87 : decode cL_families 87 = .ok (.istore 10, 2) := by decide +kernel
theorem dL_families_89 : decode cL_families 89 = .ok (.iload 10, 2) := by decide +kernel
theorem dL_families_91 : decode cL_families 91 = .ok (.bipush 8, 2) := by decide +kernel
theorem dL_families_93 : decode cL_families 93 = .ok (.if_icmp .ge 21, 3) := by decide +kernel
theorem dL_families_96 : decode cL_families 96 = .ok (.iload 4, 2) := by decide +kernel
theorem dL_families_98 : decode cL_families 98 = .ok (.iload 9, 2) := by decide +kernel
theorem dL_families_100 : decode cL_families 100 = .ok (.iload 10, 2) := by decide +kernel
theorem dL_families_102 : decode cL_families 102 = .ok (.ishr, 1) := by decide +kernel
theorem dL_families_103 : decode cL_families 103 = .ok (.iconst 1, 1) := by decide +kernel
theorem dL_families_104 : decode cL_families 104 = .ok (.iand, 1) := by decide +kernel
theorem dL_families_105 : decode cL_families 105 = .ok (.iadd, 1) := by decide +kernel
theorem dL_families_106 : decode cL_families 106 = .ok (.istore 4, 2) := by decide +kernel
theorem dL_families_108 : decode cL_families 108 = .ok (.iinc 10 1, 3) := by decide +kernel
theorem dL_families_111 : decode cL_families 111 = .ok (.goto (-22), 3) := by decide +kernel
theorem dL_families_114 : decode cL_families 114 = .ok (.iload 7, 2) := by decide +kernel
theorem dL_families_116 : decode cL_families 116 = .ok (.ifCond .lt 55, 3) := by decide +kernel
theorem dL_families_119 : decode cL_families 119 = .ok (.iload 9, 2) := by decide +kernel
theorem dL_families_121 : decode cL_families 121 = .ok (.iload 7, 2) := by decide +kernel
theorem dL_families_123 : decode cL_families 123 = .ok (.ishr, 1) := by decide +kernel
theorem dL_families_124 : decode cL_families 124 = .ok (.iconst 1, 1) := by decide +kernel
theorem dL_families_125 : decode cL_families 125 = .ok (.iand, 1) := by decide +kernel
theorem dL_families_126 : decode cL_families 126 = .ok (.iconst 1, 1) := by decide +kernel
theorem dL_families_127 : decode cL_families 127 = .ok (.if_icmp .ne 116, 3) := by decide +kernel
theorem dL_families_130 : decode cL_families 130 = .ok (.aload_n 0, 1) := by decide +kernel
theorem dL_families_131 : decode cL_families 131 = .ok (.iload 7, 2) := by decide +kernel
theorem dL_families_133 : decode cL_families 133 = .ok (.iconst 2, 1) := by decide +kernel
theorem dL_families_134 : decode cL_families 134 = .ok (.invokevirtual 15, 3) := by decide +kernel
theorem dL_families_137 : decode cL_families 137 = .ok (.iconst 1, 1) := by decide +kernel
theorem dL_families_138 : decode cL_families 138 = .ok (.if_icmp .ne 105, 3) := by decide +kernel
theorem dL_families_141 : decode cL_families 141 = .ok (.aload_n 0, 1) := by decide +kernel
theorem dL_families_142 : decode cL_families 142 = .ok (.iload 7, 2) := by decide +kernel
theorem dL_families_144 : decode cL_families 144 = .ok (.iconst 3, 1) := by decide +kernel
theorem dL_families_145 : decode cL_families 145 = .ok (.invokevirtual 15, 3) := by decide +kernel
theorem dL_families_148 : decode cL_families 148 = .ok (.ifCond .ne 95, 3) := by decide +kernel
theorem dL_families_151 : decode cL_families 151 = .ok (.iload 8, 2) := by decide +kernel
theorem dL_families_153 : decode cL_families 153 = .ok (.bipush 63, 2) := by decide +kernel
theorem dL_families_155 : decode cL_families 155 = .ok (.aload_n 0, 1) := by decide +kernel
theorem dL_families_156 : decode cL_families 156 = .ok (.iload 7, 2) := by decide +kernel
theorem dL_families_158 : decode cL_families 158 = .ok (.iconst 5, 1) := by decide +kernel
theorem dL_families_159 : decode cL_families 159 = .ok (.invokevirtual 15, 3) := by decide +kernel
theorem dL_families_162 : decode cL_families 162 = .ok (.iconst (-1), 1) := by decide +kernel
theorem dL_families_163 : decode cL_families 163 = .ok (.ixor, 1) := by decide +kernel
theorem dL_families_164 : decode cL_families 164 = .ok (.iand, 1) := by decide +kernel
theorem dL_families_165 : decode cL_families 165 = .ok (.if_icmp .ne 78, 3) := by decide +kernel
theorem dL_families_168 : decode cL_families 168 = .ok (.goto 18, 3) := by decide +kernel
theorem dL_families_171 : decode cL_families 171 = .ok (.iload 8, 2) := by decide +kernel
theorem dL_families_173 : decode cL_families 173 = .ok (.ifCond .ne 70, 3) := by decide +kernel
theorem dL_families_176 : decode cL_families 176 = .ok (.aload_n 0, 1) := by decide +kernel
theorem dL_families_177 : decode cL_families 177 = .ok (.iload 6, 2) := by decide +kernel
theorem dL_families_179 : decode cL_families 179 = .ok (.iconst 2, 1) := by decide +kernel
theorem dL_families_180 : decode cL_families 180 = .ok (.invokevirtual 9, 3) := by decide +kernel
theorem dL_families_183 : decode cL_families 183 = .ok (.ifCond .ne 60, 3) := by decide +kernel
theorem dL_families_186 : decode cL_families 186 = .ok (.aload_n 0, 1) := by decide +kernel
theorem dL_families_187 : decode cL_families 187 = .ok (.iload 6, 2) := by decide +kernel
theorem dL_families_189 : decode cL_families 189 = .ok (.bipush 6, 2) := by decide +kernel
theorem dL_families_191 : decode cL_families 191 = .ok (.invokevirtual 9, 3) := by decide +kernel
theorem dL_families_194 : decode cL_families 194 = .ok (.ldc 18, 2) := by decide +kernel
theorem dL_families_196 : decode cL_families 196 = .ok (.if_icmp .ne 7, 3) := by decide +kernel
theorem dL_families_199 : decode cL_families 199 = .ok (.iconst 1, 1) := by decide +kernel
theorem dL_families_200 : decode cL_families 200 = .ok (.goto 4, 3) := by decide +kernel
theorem dL_families_203 : decode cL_families 203 = .ok (.iconst 0, 1) := by decide +kernel
theorem dL_families_204 : decode cL_families 204 = .ok (.aload_n 0, 1) := by decide +kernel
theorem dL_families_205 : decode cL_families 205 = .ok (.iload 6, 2) := by decide +kernel
theorem dL_families_207 : decode cL_families 207 = .ok (.iconst 2, 1) := by decide +kernel
theorem dL_families_208 : decode cL_families 208 = .ok (.invokevirtual 9, 3) := by decide +kernel
theorem dL_families_211 : decode cL_families 211 = .ok (.ifCond .ne 7, 3) := by decide +kernel
theorem dL_families_214 : decode cL_families 214 = .ok (.iconst 1, 1) := by decide +kernel
theorem dL_families_215 : decode cL_families 215 = .ok (.goto 4, 3) := by decide +kernel
theorem dL_families_218 : decode cL_families 218 = .ok (.iconst 0, 1) := by decide +kernel
theorem dL_families_219 : decode cL_families 219 = .ok (.if_icmp .ne 24, 3) := by decide +kernel
theorem dL_families_222 : decode cL_families 222 = .ok (.aload_n 0, 1) := by decide +kernel
theorem dL_families_223 : decode cL_families 223 = .ok (.iload 6, 2) := by decide +kernel
theorem dL_families_225 : decode cL_families 225 = .ok (.iconst 5, 1) := by decide +kernel
theorem dL_families_226 : decode cL_families 226 = .ok (.invokevirtual 9, 3) := by decide +kernel
theorem dL_families_229 : decode cL_families 229 = .ok (.aload_n 0, 1) := by decide +kernel
theorem dL_families_230 : decode cL_families 230 = .ok (.iload 6, 2) := by decide +kernel
theorem dL_families_232 : decode cL_families 232 = .ok (.iconst 3, 1) := by decide +kernel
theorem dL_families_233 : decode cL_families 233 = .ok (.invokevirtual 9, 3) := by decide +kernel
theorem dL_families_236 : decode cL_families 236 = .ok (.if_icmp .gt 7, 3) := by decide +kernel
theorem dL_families_239 : decode cL_families 239 = .ok (.iconst 1, 1) := by decide +kernel
theorem dL_families_240 : decode cL_families 240 = .ok (.goto 4, 3) := by decide +kernel
theorem dL_families_243 : decode cL_families 243 = .ok (.iconst 0, 1) := by decide +kernel
theorem dL_families_244 : decode cL_families 244 = .ok (.istore 5, 2) := by decide +kernel
theorem dL_families_246 : decode cL_families 246 = .ok (.iconst 0, 1) := by decide +kernel
theorem dL_families_247 : decode cL_families 247 = .ok (.istore 10, 2) := by decide +kernel
theorem dL_families_249 : decode cL_families 249 = .ok (.iload 10, 2) := by decide +kernel
theorem dL_families_251 : decode cL_families 251 = .ok (.bipush 6, 2) := by decide +kernel
theorem dL_families_253 : decode cL_families 253 = .ok (.if_icmp .ge 172, 3) := by decide +kernel
theorem dL_families_256 : decode cL_families 256 = .ok (.iload 5, 2) := by decide +kernel
theorem dL_families_258 : decode cL_families 258 = .ok (.ifCond .eq 167, 3) := by decide +kernel
theorem dL_families_261 : decode cL_families 261 = .ok (.iload 7, 2) := by decide +kernel
theorem dL_families_263 : decode cL_families 263 = .ok (.ifCond .lt 162, 3) := by decide +kernel
theorem dL_families_266 : decode cL_families 266 = .ok (.iconst 0, 1) := by decide +kernel
theorem dL_families_267 : decode cL_families 267 = .ok (.istore 11, 2) := by decide +kernel
theorem dL_families_269 : decode cL_families 269 = .ok (.iconst 0, 1) := by decide +kernel
theorem dL_families_270 : decode cL_families 270 = .ok (.istore 12, 2) := by decide +kernel
theorem dL_families_272 : decode cL_families 272 = .ok (.iconst 0, 1) := by decide +kernel
theorem dL_families_273 : decode cL_families 273 = .ok (.istore 13, 2) := by decide +kernel
theorem dL_families_275 : decode cL_families 275 = .ok (.iload 13, 2) := by decide +kernel
theorem dL_families_277 : decode cL_families 277 = .ok (.aload_n 0, 1) := by decide +kernel
theorem dL_families_278 : decode cL_families 278 = .ok (.iconst 2, 1) := by decide +kernel
theorem dL_families_279 : decode cL_families 279 = .ok (.invokevirtual 19, 3) := by decide +kernel
theorem dL_families_282 : decode cL_families 282 = .ok (.if_icmp .ge 86, 3) := by decide +kernel
theorem dL_families_285 : decode cL_families 285 = .ok (.aload_n 0, 1) := by decide +kernel
theorem dL_families_286 : decode cL_families 286 = .ok (.iload 13, 2) := by decide +kernel
theorem dL_families_288 : decode cL_families 288 = .ok (.iconst 3, 1) := by decide +kernel
theorem dL_families_289 : decode cL_families 289 = .ok (.invokevirtual 23, 3) := by decide +kernel
theorem dL_families_292 : decode cL_families 292 = .ok (.iload 6, 2) := by decide +kernel
theorem dL_families_294 : decode cL_families 294 = .ok (.if_icmp .ne 19, 3) := by decide +kernel
theorem dL_families_297 : decode cL_families 297 = .ok (.aload_n 0, 1) := by decide +kernel
theorem dL_families_298 : decode cL_families 298 = .ok (.iload 13, 2) := by decide +kernel
theorem dL_families_300 : decode cL_families 300 = .ok (.iconst 2, 1) := by decide +kernel
theorem dL_families_301 : decode cL_families 301 = .ok (.invokevirtual 23, 3) := by decide +kernel
theorem dL_families_304 : decode cL_families 304 = .ok (.iload 10, 2) := by decide +kernel
theorem dL_families_306 : decode cL_families 306 = .ok (.if_icmp .ne 7, 3) := by decide +kernel
theorem dL_families_309 : decode cL_families 309 = .ok (.iconst 1, 1) := by decide +kernel
theorem dL_families_310 : decode cL_families 310 = .ok (.goto 4, 3) := by decide +kernel
theorem dL_families_313 : decode cL_families 313 = .ok (.iconst 0, 1) := by decide +kernel
theorem dL_families_314 : decode cL_families 314 = .ok (.istore 14, 2) := by decide +kernel
theorem dL_families_316 : decode cL_families 316 = .ok (.iload 11, 2) := by decide +kernel
theorem dL_families_318 : decode cL_families 318 = .ok (.iload 14, 2) := by decide +kernel
theorem dL_families_320 : decode cL_families 320 = .ok (.ifCond .eq 12, 3) := by decide +kernel
theorem dL_families_323 : decode cL_families 323 = .ok (.aload_n 0, 1) := by decide +kernel
theorem dL_families_324 : decode cL_families 324 = .ok (.iload 13, 2) := by decide +kernel
theorem dL_families_326 : decode cL_families 326 = .ok (.invokevirtual 26, 3) := by decide +kernel
theorem dL_families_329 : decode cL_families 329 = .ok (.goto 4, 3) := by decide +kernel
theorem dL_families_332 : decode cL_families 332 = .ok (.iconst 0, 1) := by decide +kernel
theorem dL_families_333 : decode cL_families 333 = .ok (.ixor, 1) := by decide +kernel
theorem dL_families_334 : decode cL_families 334 = .ok (.istore 11, 2) := by decide +kernel
theorem dL_families_336 : decode cL_families 336 = .ok (.iload 12, 2) := by decide +kernel
theorem dL_families_338 : decode cL_families 338 = .ok (.iload 14, 2) := by decide +kernel
theorem dL_families_340 : decode cL_families 340 = .ok (.ifCond .eq 18, 3) := by decide +kernel
theorem dL_families_343 : decode cL_families 343 = .ok (.aload_n 0, 1) := by decide +kernel
theorem dL_families_344 : decode cL_families 344 = .ok (.iload 13, 2) := by decide +kernel
theorem dL_families_346 : decode cL_families 346 = .ok (.iconst 0, 1) := by decide +kernel
theorem dL_families_347 : decode cL_families 347 = .ok (.invokevirtual 23, 3) := by decide +kernel
theorem dL_families_350 : decode cL_families 350 = .ok (.iconst 1, 1) := by decide +kernel
theorem dL_families_351 : decode cL_families 351 = .ok (.if_icmp .ne 7, 3) := by decide +kernel
theorem dL_families_354 : decode cL_families 354 = .ok (.iconst 1, 1) := by decide +kernel
theorem dL_families_355 : decode cL_families 355 = .ok (.goto 4, 3) := by decide +kernel
theorem dL_families_358 : decode cL_families 358 = .ok (.iconst 0, 1) := by decide +kernel
theorem dL_families_359 : decode cL_families 359 = .ok (.iadd, 1) := by decide +kernel
theorem dL_families_360 : decode cL_families 360 = .ok (.istore 12, 2) := by decide +kernel
theorem dL_families_362 : decode cL_families 362 = .ok (.iinc 13 1, 3) := by decide +kernel
theorem dL_families_365 : decode cL_families 365 = .ok (.goto (-90), 3) := by decide +kernel
theorem dL_families_368 : decode cL_families 368 = .ok (.iload 12, 2) := by decide +kernel
theorem dL_families_370 : decode cL_families 370 = .ok (.iload 8, 2) := by decide +kernel
theorem dL_families_372 : decode cL_families 372 = .ok (.iload 10, 2) := by decide +kernel
theorem dL_families_374 : decode cL_families 374 = .ok (.ishr, 1) := by decide +kernel
theorem dL_families_375 : decode cL_families 375 = .ok (.iconst 1, 1) := by decide +kernel
theorem dL_families_376 : decode cL_families 376 = .ok (.iand, 1) := by decide +kernel
theorem dL_families_377 : decode cL_families 377 = .ok (.iconst 1, 1) := by decide +kernel
theorem dL_families_378 : decode cL_families 378 = .ok (.if_icmp .ne 7, 3) := by decide +kernel
theorem dL_families_381 : decode cL_families 381 = .ok (.iconst 1, 1) := by decide +kernel
theorem dL_families_382 : decode cL_families 382 = .ok (.goto 4, 3) := by decide +kernel
theorem dL_families_385 : decode cL_families 385 = .ok (.iconst 0, 1) := by decide +kernel
theorem dL_families_386 : decode cL_families 386 = .ok (.if_icmp .gt 30, 3) := by decide +kernel
theorem dL_families_389 : decode cL_families 389 = .ok (.iload 8, 2) := by decide +kernel
theorem dL_families_391 : decode cL_families 391 = .ok (.iload 10, 2) := by decide +kernel
theorem dL_families_393 : decode cL_families 393 = .ok (.ishr, 1) := by decide +kernel
theorem dL_families_394 : decode cL_families 394 = .ok (.iconst 1, 1) := by decide +kernel
theorem dL_families_395 : decode cL_families 395 = .ok (.iand, 1) := by decide +kernel
theorem dL_families_396 : decode cL_families 396 = .ok (.ifCond .eq 16, 3) := by decide +kernel
theorem dL_families_399 : decode cL_families 399 = .ok (.aload_n 0, 1) := by decide +kernel
theorem dL_families_400 : decode cL_families 400 = .ok (.iload 7, 2) := by decide +kernel
theorem dL_families_402 : decode cL_families 402 = .ok (.iload 10, 2) := by decide +kernel
theorem dL_families_404 : decode cL_families 404 = .ok (.invokevirtual 29, 3) := by decide +kernel
theorem dL_families_407 : decode cL_families 407 = .ok (.iload 11, 2) := by decide +kernel
theorem dL_families_409 : decode cL_families 409 = .ok (.if_icmp .ne 7, 3) := by decide +kernel
theorem dL_families_412 : decode cL_families 412 = .ok (.iconst 1, 1) := by decide +kernel
theorem dL_families_413 : decode cL_families 413 = .ok (.goto 4, 3) := by decide +kernel
theorem dL_families_416 : decode cL_families 416 = .ok (.iconst 0, 1) := by decide +kernel
theorem dL_families_417 : decode cL_families 417 = .ok (.istore 5, 2) := by decide +kernel
theorem dL_families_419 : decode cL_families 419 = .ok (.iinc 10 1, 3) := by decide +kernel
theorem dL_families_422 : decode cL_families 422 = .ok (.goto (-173), 3) := by decide +kernel
theorem dL_families_425 : decode cL_families 425 = .ok (.iinc 6 1, 3) := by decide +kernel
theorem dL_families_428 : decode cL_families 428 = .ok (.goto (-413), 3) := by decide +kernel
theorem dL_families_431 : decode cL_families 431 = .ok (.iload 5, 2) := by decide +kernel
theorem dL_families_433 : decode cL_families 433 = .ok (.ifCond .eq 70, 3) := by decide +kernel
theorem dL_families_436 : decode cL_families 436 = .ok (.aload_n 0, 1) := by decide +kernel
theorem dL_families_437 : decode cL_families 437 = .ok (.bipush 8, 2) := by decide +kernel
theorem dL_families_439 : decode cL_families 439 = .ok (.invokevirtual 19, 3) := by decide +kernel
theorem dL_families_442 : decode cL_families 442 = .ok (.iload_n 1, 1) := by decide +kernel
theorem dL_families_443 : decode cL_families 443 = .ok (.if_icmp .ne 60, 3) := by decide +kernel
theorem dL_families_446 : decode cL_families 446 = .ok (.aload_n 0, 1) := by decide +kernel
theorem dL_families_447 : decode cL_families 447 = .ok (.iconst 4, 1) := by decide +kernel
theorem dL_families_448 : decode cL_families 448 = .ok (.invokevirtual 19, 3) := by decide +kernel
theorem dL_families_451 : decode cL_families 451 = .ok (.iload_n 2, 1) := by decide +kernel
theorem dL_families_452 : decode cL_families 452 = .ok (.if_icmp .ne 51, 3) := by decide +kernel
theorem dL_families_455 : decode cL_families 455 = .ok (.aload_n 0, 1) := by decide +kernel
theorem dL_families_456 : decode cL_families 456 = .ok (.iconst 3, 1) := by decide +kernel
theorem dL_families_457 : decode cL_families 457 = .ok (.invokevirtual 19, 3) := by decide +kernel
theorem dL_families_460 : decode cL_families 460 = .ok (.iload_n 3, 1) := by decide +kernel
theorem dL_families_461 : decode cL_families 461 = .ok (.if_icmp .ne 42, 3) := by decide +kernel
theorem dL_families_464 : decode cL_families 464 = .ok (.aload_n 0, 1) := by decide +kernel
theorem dL_families_465 : decode cL_families 465 = .ok (.iconst 1, 1) := by decide +kernel
theorem dL_families_466 : decode cL_families 466 = .ok (.invokevirtual 19, 3) := by decide +kernel
theorem dL_families_469 : decode cL_families 469 = .ok (.iload 4, 2) := by decide +kernel
theorem dL_families_471 : decode cL_families 471 = .ok (.if_icmp .ne 32, 3) := by decide +kernel
theorem dL_families_474 : decode cL_families 474 = .ok (.aload_n 0, 1) := by decide +kernel
theorem dL_families_475 : decode cL_families 475 = .ok (.iconst 3, 1) := by decide +kernel
theorem dL_families_476 : decode cL_families 476 = .ok (.invokevirtual 19, 3) := by decide +kernel
theorem dL_families_479 : decode cL_families 479 = .ok (.aload_n 0, 1) := by decide +kernel
theorem dL_families_480 : decode cL_families 480 = .ok (.iconst 4, 1) := by decide +kernel
theorem dL_families_481 : decode cL_families 481 = .ok (.invokevirtual 19, 3) := by decide +kernel
theorem dL_families_484 : decode cL_families 484 = .ok (.iadd, 1) := by decide +kernel
theorem dL_families_485 : decode cL_families 485 = .ok (.aload_n 0, 1) := by decide +kernel
theorem dL_families_486 : decode cL_families 486 = .ok (.iconst 5, 1) := by decide +kernel
theorem dL_families_487 : decode cL_families 487 = .ok (.invokevirtual 19, 3) := by decide +kernel
theorem dL_families_490 : decode cL_families 490 = .ok (.iadd, 1) := by decide +kernel
theorem dL_families_491 : decode cL_families 491 = .ok (.aload_n 0, 1) := by decide +kernel
theorem dL_families_492 : decode cL_families 492 = .ok (.iconst 2, 1) := by decide +kernel
theorem dL_families_493 : decode cL_families 493 = .ok (.invokevirtual 19, 3) := by decide +kernel
theorem dL_families_496 : decode cL_families 496 = .ok (.if_icmp .ne 7, 3) := by decide +kernel
theorem dL_families_499 : decode cL_families 499 = .ok (.iconst 1, 1) := by decide +kernel
theorem dL_families_500 : decode cL_families 500 = .ok (.goto 4, 3) := by decide +kernel
theorem dL_families_503 : decode cL_families 503 = .ok (.iconst 0, 1) := by decide +kernel
theorem dL_families_504 : decode cL_families 504 = .ok (.ireturn, 1) := by decide +kernel
theorem dL_words_0 : decode cL_words 0 = .ok (.iconst 0, 1) := by decide +kernel
theorem dL_words_1 : decode cL_words 1 = .ok (.istore_n 1, 1) := by decide +kernel
theorem dL_words_2 : decode cL_words 2 = .ok (.iconst 1, 1) := by decide +kernel
theorem dL_words_3 : decode cL_words 3 = .ok (.istore_n 2, 1) := by decide +kernel
theorem dL_words_4 : decode cL_words 4 = .ok (.iconst 0, 1) := by decide +kernel
theorem dL_words_5 : decode cL_words 5 = .ok (.istore_n 3, 1) := by decide +kernel
theorem dL_words_6 : decode cL_words 6 = .ok (.iload_n 3, 1) := by decide +kernel
theorem dL_words_7 : decode cL_words 7 = .ok (.aload_n 0, 1) := by decide +kernel
theorem dL_words_8 : decode cL_words 8 = .ok (.iconst 2, 1) := by decide +kernel
theorem dL_words_9 : decode cL_words 9 = .ok (.invokevirtual 19, 3) := by decide +kernel
theorem dL_words_12 : decode cL_words 12 = .ok (.if_icmp .ge 214, 3) := by decide +kernel
theorem dL_words_15 : decode cL_words 15 = .ok (.iload_n 2, 1) := by decide +kernel
theorem dL_words_16 : decode cL_words 16 = .ok (.ifCond .eq 210, 3) := by decide +kernel
theorem dL_words_19 : decode cL_words 19 = .ok (.aload_n 0, 1) := by decide +kernel
theorem dL_words_20 : decode cL_words 20 = .ok (.iload_n 3, 1) := by decide +kernel
theorem dL_words_21 : decode cL_words 21 = .ok (.iconst 0, 1) := by decide +kernel
theorem dL_words_22 : decode cL_words 22 = .ok (.invokevirtual 23, 3) := by decide +kernel
theorem dL_words_25 : decode cL_words 25 = .ok (.istore 4, 2) := by decide +kernel
theorem dL_words_27 : decode cL_words 27 = .ok (.iload_n 1, 1) := by decide +kernel
theorem dL_words_28 : decode cL_words 28 = .ok (.aload_n 0, 1) := by decide +kernel
theorem dL_words_29 : decode cL_words 29 = .ok (.iload_n 3, 1) := by decide +kernel
theorem dL_words_30 : decode cL_words 30 = .ok (.iconst 5, 1) := by decide +kernel
theorem dL_words_31 : decode cL_words 31 = .ok (.invokevirtual 23, 3) := by decide +kernel
theorem dL_words_34 : decode cL_words 34 = .ok (.iadd, 1) := by decide +kernel
theorem dL_words_35 : decode cL_words 35 = .ok (.istore_n 1, 1) := by decide +kernel
theorem dL_words_36 : decode cL_words 36 = .ok (.aload_n 0, 1) := by decide +kernel
theorem dL_words_37 : decode cL_words 37 = .ok (.iload_n 3, 1) := by decide +kernel
theorem dL_words_38 : decode cL_words 38 = .ok (.iconst 1, 1) := by decide +kernel
theorem dL_words_39 : decode cL_words 39 = .ok (.invokevirtual 23, 3) := by decide +kernel
theorem dL_words_42 : decode cL_words 42 = .ok (.istore 5, 2) := by decide +kernel
theorem dL_words_44 : decode cL_words 44 = .ok (.aload_n 0, 1) := by decide +kernel
theorem dL_words_45 : decode cL_words 45 = .ok (.iload_n 3, 1) := by decide +kernel
theorem dL_words_46 : decode cL_words 46 = .ok (.iconst 2, 1) := by decide +kernel
theorem dL_words_47 : decode cL_words 47 = .ok (.invokevirtual 23, 3) := by decide +kernel
theorem dL_words_50 : decode cL_words 50 = .ok (.istore 6, 2) := by decide +kernel
theorem dL_words_52 : decode cL_words 52 = .ok (.iload 4, 2) := by decide +kernel
theorem dL_words_54 : decode cL_words 54 = .ok (.ifCond .ne 69, 3) := by decide +kernel
theorem dL_words_57 : decode cL_words 57 = .ok (.aload_n 0, 1) := by decide +kernel
theorem dL_words_58 : decode cL_words 58 = .ok (.iload 5, 2) := by decide +kernel
theorem dL_words_60 : decode cL_words 60 = .ok (.iconst 1, 1) := by decide +kernel
theorem dL_words_61 : decode cL_words 61 = .ok (.invokevirtual 15, 3) := by decide +kernel
theorem dL_words_64 : decode cL_words 64 = .ok (.iconst 1, 1) := by decide +kernel
theorem dL_words_65 : decode cL_words 65 = .ok (.if_icmp .ne 53, 3) := by decide +kernel
theorem dL_words_68 : decode cL_words 68 = .ok (.aload_n 0, 1) := by decide +kernel
theorem dL_words_69 : decode cL_words 69 = .ok (.iload 5, 2) := by decide +kernel
theorem dL_words_71 : decode cL_words 71 = .ok (.iconst 2, 1) := by decide +kernel
theorem dL_words_72 : decode cL_words 72 = .ok (.invokevirtual 15, 3) := by decide +kernel
theorem dL_words_75 : decode cL_words 75 = .ok (.ifCond .ne 43, 3) := by decide +kernel
theorem dL_words_78 : decode cL_words 78 = .ok (.aload_n 0, 1) := by decide +kernel
theorem dL_words_79 : decode cL_words 79 = .ok (.iload 5, 2) := by decide +kernel
theorem dL_words_81 : decode cL_words 81 = .ok (.iload 6, 2) := by decide +kernel
theorem dL_words_83 : decode cL_words 83 = .ok (.invokevirtual 29, 3) := by decide +kernel
theorem dL_words_86 : decode cL_words 86 = .ok (.iload_n 3, 1) := by decide +kernel
theorem dL_words_87 : decode cL_words 87 = .ok (.if_icmp .ne 31, 3) := by decide +kernel
theorem dL_words_90 : decode cL_words 90 = .ok (.aload_n 0, 1) := by decide +kernel
theorem dL_words_91 : decode cL_words 91 = .ok (.iload_n 3, 1) := by decide +kernel
theorem dL_words_92 : decode cL_words 92 = .ok (.iconst 3, 1) := by decide +kernel
theorem dL_words_93 : decode cL_words 93 = .ok (.invokevirtual 23, 3) := by decide +kernel
theorem dL_words_96 : decode cL_words 96 = .ok (.aload_n 0, 1) := by decide +kernel
theorem dL_words_97 : decode cL_words 97 = .ok (.iload 5, 2) := by decide +kernel
theorem dL_words_99 : decode cL_words 99 = .ok (.iconst 0, 1) := by decide +kernel
theorem dL_words_100 : decode cL_words 100 = .ok (.invokevirtual 15, 3) := by decide +kernel
theorem dL_words_103 : decode cL_words 103 = .ok (.if_icmp .ne 15, 3) := by decide +kernel
theorem dL_words_106 : decode cL_words 106 = .ok (.aload_n 0, 1) := by decide +kernel
theorem dL_words_107 : decode cL_words 107 = .ok (.iload_n 3, 1) := by decide +kernel
theorem dL_words_108 : decode cL_words 108 = .ok (.invokevirtual 26, 3) := by decide +kernel
theorem dL_words_111 : decode cL_words 111 = .ok (.ifCond .lt 7, 3) := by decide +kernel
theorem dL_words_114 : decode cL_words 114 = .ok (.iconst 1, 1) := by decide +kernel
theorem dL_words_115 : decode cL_words 115 = .ok (.goto 4, 3) := by decide +kernel
theorem dL_words_118 : decode cL_words 118 = .ok (.iconst 0, 1) := by decide +kernel
theorem dL_words_119 : decode cL_words 119 = .ok (.istore_n 2, 1) := by decide +kernel
theorem dL_words_120 : decode cL_words 120 = .ok (.goto 59, 3) := by decide +kernel
theorem dL_words_123 : decode cL_words 123 = .ok (.iload 5, 2) := by decide +kernel
theorem dL_words_125 : decode cL_words 125 = .ok (.ldc 18, 2) := by decide +kernel
theorem dL_words_127 : decode cL_words 127 = .ok (.if_icmp .ne 50, 3) := by decide +kernel
theorem dL_words_130 : decode cL_words 130 = .ok (.iload 4, 2) := by decide +kernel
theorem dL_words_132 : decode cL_words 132 = .ok (.iconst 1, 1) := by decide +kernel
theorem dL_words_133 : decode cL_words 133 = .ok (.if_icmp .ne 23, 3) := by decide +kernel
theorem dL_words_136 : decode cL_words 136 = .ok (.aload_n 0, 1) := by decide +kernel
theorem dL_words_137 : decode cL_words 137 = .ok (.iload_n 3, 1) := by decide +kernel
theorem dL_words_138 : decode cL_words 138 = .ok (.iconst 4, 1) := by decide +kernel
theorem dL_words_139 : decode cL_words 139 = .ok (.invokevirtual 23, 3) := by decide +kernel
theorem dL_words_142 : decode cL_words 142 = .ok (.ifCond .lt 35, 3) := by decide +kernel
theorem dL_words_145 : decode cL_words 145 = .ok (.aload_n 0, 1) := by decide +kernel
theorem dL_words_146 : decode cL_words 146 = .ok (.iload_n 3, 1) := by decide +kernel
theorem dL_words_147 : decode cL_words 147 = .ok (.invokevirtual 26, 3) := by decide +kernel
theorem dL_words_150 : decode cL_words 150 = .ok (.ifCond .lt 27, 3) := by decide +kernel
theorem dL_words_153 : decode cL_words 153 = .ok (.goto 20, 3) := by decide +kernel
theorem dL_words_156 : decode cL_words 156 = .ok (.aload_n 0, 1) := by decide +kernel
theorem dL_words_157 : decode cL_words 157 = .ok (.iload_n 3, 1) := by decide +kernel
theorem dL_words_158 : decode cL_words 158 = .ok (.invokevirtual 26, 3) := by decide +kernel
theorem dL_words_161 : decode cL_words 161 = .ok (.ldc 18, 2) := by decide +kernel
theorem dL_words_163 : decode cL_words 163 = .ok (.if_icmp .ne 14, 3) := by decide +kernel
theorem dL_words_166 : decode cL_words 166 = .ok (.iload 6, 2) := by decide +kernel
theorem dL_words_168 : decode cL_words 168 = .ok (.ldc 18, 2) := by decide +kernel
theorem dL_words_170 : decode cL_words 170 = .ok (.if_icmp .ne 7, 3) := by decide +kernel
theorem dL_words_173 : decode cL_words 173 = .ok (.iconst 1, 1) := by decide +kernel
theorem dL_words_174 : decode cL_words 174 = .ok (.goto 4, 3) := by decide +kernel
theorem dL_words_177 : decode cL_words 177 = .ok (.iconst 0, 1) := by decide +kernel
theorem dL_words_178 : decode cL_words 178 = .ok (.istore_n 2, 1) := by decide +kernel
theorem dL_words_179 : decode cL_words 179 = .ok (.iload_n 2, 1) := by decide +kernel
theorem dL_words_180 : decode cL_words 180 = .ok (.ifCond .eq 38, 3) := by decide +kernel
theorem dL_words_183 : decode cL_words 183 = .ok (.iload 4, 2) := by decide +kernel
theorem dL_words_185 : decode cL_words 185 = .ok (.iconst 1, 1) := by decide +kernel
theorem dL_words_186 : decode cL_words 186 = .ok (.if_icmp .ne 28, 3) := by decide +kernel
theorem dL_words_189 : decode cL_words 189 = .ok (.aload_n 0, 1) := by decide +kernel
theorem dL_words_190 : decode cL_words 190 = .ok (.iload_n 3, 1) := by decide +kernel
theorem dL_words_191 : decode cL_words 191 = .ok (.iconst 4, 1) := by decide +kernel
theorem dL_words_192 : decode cL_words 192 = .ok (.invokevirtual 23, 3) := by decide +kernel
theorem dL_words_195 : decode cL_words 195 = .ok (.ifCond .gt 19, 3) := by decide +kernel
theorem dL_words_198 : decode cL_words 198 = .ok (.aload_n 0, 1) := by decide +kernel
theorem dL_words_199 : decode cL_words 199 = .ok (.aload_n 0, 1) := by decide +kernel
theorem dL_words_200 : decode cL_words 200 = .ok (.iload_n 3, 1) := by decide +kernel
theorem dL_words_201 : decode cL_words 201 = .ok (.iconst 3, 1) := by decide +kernel
theorem dL_words_202 : decode cL_words 202 = .ok (.invokevirtual 23, 3) := by decide +kernel
theorem dL_words_205 : decode cL_words 205 = .ok (.bipush 6, 2) := by decide +kernel
theorem dL_words_207 : decode cL_words 207 = .ok (.invokevirtual 9, 3) := by decide +kernel
theorem dL_words_210 : decode cL_words 210 = .ok (.iload_n 3, 1) := by decide +kernel
theorem dL_words_211 : decode cL_words 211 = .ok (.if_icmp .ne 7, 3) := by decide +kernel
theorem dL_words_214 : decode cL_words 214 = .ok (.iconst 1, 1) := by decide +kernel
theorem dL_words_215 : decode cL_words 215 = .ok (.goto 4, 3) := by decide +kernel
theorem dL_words_218 : decode cL_words 218 = .ok (.iconst 0, 1) := by decide +kernel
theorem dL_words_219 : decode cL_words 219 = .ok (.istore_n 2, 1) := by decide +kernel
theorem dL_words_220 : decode cL_words 220 = .ok (.iinc 3 1, 3) := by decide +kernel
theorem dL_words_223 : decode cL_words 223 = .ok (.goto (-217), 3) := by decide +kernel
theorem dL_words_226 : decode cL_words 226 = .ok (.iconst 0, 1) := by decide +kernel
theorem dL_words_227 : decode cL_words 227 = .ok (.istore_n 3, 1) := by decide +kernel
theorem dL_words_228 : decode cL_words 228 = .ok (.iconst 0, 1) := by decide +kernel
theorem dL_words_229 : decode cL_words 229 = .ok (.istore 4, 2) := by decide +kernel
theorem dL_words_231 : decode cL_words 231 = .ok (.iload 4, 2) := by decide +kernel
theorem dL_words_233 : decode cL_words 233 = .ok (.aload_n 0, 1) := by decide +kernel
theorem dL_words_234 : decode cL_words 234 = .ok (.iconst 0, 1) := by decide +kernel
theorem dL_words_235 : decode cL_words 235 = .ok (.invokevirtual 19, 3) := by decide +kernel
theorem dL_words_238 : decode cL_words 238 = .ok (.if_icmp .ge 130, 3) := by decide +kernel
theorem dL_words_241 : decode cL_words 241 = .ok (.iload_n 2, 1) := by decide +kernel
theorem dL_words_242 : decode cL_words 242 = .ok (.ifCond .eq 126, 3) := by decide +kernel
theorem dL_words_245 : decode cL_words 245 = .ok (.iconst 0, 1) := by decide +kernel
theorem dL_words_246 : decode cL_words 246 = .ok (.istore 5, 2) := by decide +kernel
theorem dL_words_248 : decode cL_words 248 = .ok (.iconst 0, 1) := by decide +kernel
theorem dL_words_249 : decode cL_words 249 = .ok (.istore 6, 2) := by decide +kernel
theorem dL_words_251 : decode cL_words 251 = .ok (.iload 6, 2) := by decide +kernel
theorem dL_words_253 : decode cL_words 253 = .ok (.bipush 6, 2) := by decide +kernel
theorem dL_words_255 : decode cL_words 255 = .ok (.if_icmp .ge 40, 3) := by decide +kernel
theorem dL_words_258 : decode cL_words 258 = .ok (.iload 5, 2) := by decide +kernel
theorem dL_words_260 : decode cL_words 260 = .ok (.aload_n 0, 1) := by decide +kernel
theorem dL_words_261 : decode cL_words 261 = .ok (.iload 4, 2) := by decide +kernel
theorem dL_words_263 : decode cL_words 263 = .ok (.iconst 2, 1) := by decide +kernel
theorem dL_words_264 : decode cL_words 264 = .ok (.invokevirtual 15, 3) := by decide +kernel
theorem dL_words_267 : decode cL_words 267 = .ok (.ifCond .ne 18, 3) := by decide +kernel
theorem dL_words_270 : decode cL_words 270 = .ok (.aload_n 0, 1) := by decide +kernel
theorem dL_words_271 : decode cL_words 271 = .ok (.iload 4, 2) := by decide +kernel
theorem dL_words_273 : decode cL_words 273 = .ok (.iload 6, 2) := by decide +kernel
theorem dL_words_275 : decode cL_words 275 = .ok (.invokevirtual 29, 3) := by decide +kernel
theorem dL_words_278 : decode cL_words 278 = .ok (.ifCond .lt 7, 3) := by decide +kernel
theorem dL_words_281 : decode cL_words 281 = .ok (.iconst 1, 1) := by decide +kernel
theorem dL_words_282 : decode cL_words 282 = .ok (.goto 4, 3) := by decide +kernel
theorem dL_words_285 : decode cL_words 285 = .ok (.iconst 0, 1) := by decide +kernel
theorem dL_words_286 : decode cL_words 286 = .ok (.iadd, 1) := by decide +kernel
theorem dL_words_287 : decode cL_words 287 = .ok (.istore 5, 2) := by decide +kernel
theorem dL_words_289 : decode cL_words 289 = .ok (.iinc 6 1, 3) := by decide +kernel
theorem dL_words_292 : decode cL_words 292 = .ok (.goto (-41), 3) := by decide +kernel
theorem dL_words_295 : decode cL_words 295 = .ok (.iload_n 3, 1) := by decide +kernel
theorem dL_words_296 : decode cL_words 296 = .ok (.aload_n 0, 1) := by decide +kernel
theorem dL_words_297 : decode cL_words 297 = .ok (.iload 4, 2) := by decide +kernel
theorem dL_words_299 : decode cL_words 299 = .ok (.iconst 4, 1) := by decide +kernel
theorem dL_words_300 : decode cL_words 300 = .ok (.invokevirtual 15, 3) := by decide +kernel
theorem dL_words_303 : decode cL_words 303 = .ok (.iadd, 1) := by decide +kernel
theorem dL_words_304 : decode cL_words 304 = .ok (.istore_n 3, 1) := by decide +kernel
theorem dL_words_305 : decode cL_words 305 = .ok (.aload_n 0, 1) := by decide +kernel
theorem dL_words_306 : decode cL_words 306 = .ok (.iload 4, 2) := by decide +kernel
theorem dL_words_308 : decode cL_words 308 = .ok (.iconst 3, 1) := by decide +kernel
theorem dL_words_309 : decode cL_words 309 = .ok (.invokevirtual 15, 3) := by decide +kernel
theorem dL_words_312 : decode cL_words 312 = .ok (.iload 5, 2) := by decide +kernel
theorem dL_words_314 : decode cL_words 314 = .ok (.if_icmp .ne 46, 3) := by decide +kernel
theorem dL_words_317 : decode cL_words 317 = .ok (.iload 5, 2) := by decide +kernel
theorem dL_words_319 : decode cL_words 319 = .ok (.aload_n 0, 1) := by decide +kernel
theorem dL_words_320 : decode cL_words 320 = .ok (.iload 4, 2) := by decide +kernel
theorem dL_words_322 : decode cL_words 322 = .ok (.iconst 4, 1) := by decide +kernel
theorem dL_words_323 : decode cL_words 323 = .ok (.invokevirtual 15, 3) := by decide +kernel
theorem dL_words_326 : decode cL_words 326 = .ok (.iadd, 1) := by decide +kernel
theorem dL_words_327 : decode cL_words 327 = .ok (.bipush 6, 2) := by decide +kernel
theorem dL_words_329 : decode cL_words 329 = .ok (.if_icmp .gt 31, 3) := by decide +kernel
theorem dL_words_332 : decode cL_words 332 = .ok (.aload_n 0, 1) := by decide +kernel
theorem dL_words_333 : decode cL_words 333 = .ok (.iload 4, 2) := by decide +kernel
theorem dL_words_335 : decode cL_words 335 = .ok (.iconst 1, 1) := by decide +kernel
theorem dL_words_336 : decode cL_words 336 = .ok (.invokevirtual 15, 3) := by decide +kernel
theorem dL_words_339 : decode cL_words 339 = .ok (.iconst 1, 1) := by decide +kernel
theorem dL_words_340 : decode cL_words 340 = .ok (.if_icmp .eq 16, 3) := by decide +kernel
theorem dL_words_343 : decode cL_words 343 = .ok (.iload 5, 2) := by decide +kernel
theorem dL_words_345 : decode cL_words 345 = .ok (.aload_n 0, 1) := by decide +kernel
theorem dL_words_346 : decode cL_words 346 = .ok (.iload 4, 2) := by decide +kernel
theorem dL_words_348 : decode cL_words 348 = .ok (.iconst 4, 1) := by decide +kernel
theorem dL_words_349 : decode cL_words 349 = .ok (.invokevirtual 15, 3) := by decide +kernel
theorem dL_words_352 : decode cL_words 352 = .ok (.iadd, 1) := by decide +kernel
theorem dL_words_353 : decode cL_words 353 = .ok (.ifCond .ne 7, 3) := by decide +kernel
theorem dL_words_356 : decode cL_words 356 = .ok (.iconst 1, 1) := by decide +kernel
theorem dL_words_357 : decode cL_words 357 = .ok (.goto 4, 3) := by decide +kernel
theorem dL_words_360 : decode cL_words 360 = .ok (.iconst 0, 1) := by decide +kernel
theorem dL_words_361 : decode cL_words 361 = .ok (.istore_n 2, 1) := by decide +kernel
theorem dL_words_362 : decode cL_words 362 = .ok (.iinc 4 1, 3) := by decide +kernel
theorem dL_words_365 : decode cL_words 365 = .ok (.goto (-134), 3) := by decide +kernel
theorem dL_words_368 : decode cL_words 368 = .ok (.iload_n 2, 1) := by decide +kernel
theorem dL_words_369 : decode cL_words 369 = .ok (.ifCond .eq 27, 3) := by decide +kernel
theorem dL_words_372 : decode cL_words 372 = .ok (.aload_n 0, 1) := by decide +kernel
theorem dL_words_373 : decode cL_words 373 = .ok (.bipush 7, 2) := by decide +kernel
theorem dL_words_375 : decode cL_words 375 = .ok (.invokevirtual 19, 3) := by decide +kernel
theorem dL_words_378 : decode cL_words 378 = .ok (.iload_n 1, 1) := by decide +kernel
theorem dL_words_379 : decode cL_words 379 = .ok (.if_icmp .ne 17, 3) := by decide +kernel
theorem dL_words_382 : decode cL_words 382 = .ok (.aload_n 0, 1) := by decide +kernel
theorem dL_words_383 : decode cL_words 383 = .ok (.bipush 9, 2) := by decide +kernel
theorem dL_words_385 : decode cL_words 385 = .ok (.invokevirtual 19, 3) := by decide +kernel
theorem dL_words_388 : decode cL_words 388 = .ok (.iload_n 3, 1) := by decide +kernel
theorem dL_words_389 : decode cL_words 389 = .ok (.if_icmp .ne 7, 3) := by decide +kernel
theorem dL_words_392 : decode cL_words 392 = .ok (.iconst 1, 1) := by decide +kernel
theorem dL_words_393 : decode cL_words 393 = .ok (.goto 4, 3) := by decide +kernel
theorem dL_words_396 : decode cL_words 396 = .ok (.iconst 0, 1) := by decide +kernel
theorem dL_words_397 : decode cL_words 397 = .ok (.ireturn, 1) := by decide +kernel
theorem dL_law_0 : decode cL_law 0 = .ok (.new 10, 3) := by decide +kernel
theorem dL_law_3 : decode cL_law 3 = .ok (.dup, 1) := by decide +kernel
theorem dL_law_4 : decode cL_law 4 = .ok (.invokespecial 66, 3) := by decide +kernel
theorem dL_law_7 : decode cL_law 7 = .ok (.astore_n 1, 1) := by decide +kernel
theorem dL_law_8 : decode cL_law 8 = .ok (.aload_n 1, 1) := by decide +kernel
theorem dL_law_9 : decode cL_law 9 = .ok (.invokestatic 67, 3) := by decide +kernel
theorem dL_law_12 : decode cL_law 12 = .ok (.ifCond .eq 14, 3) := by decide +kernel
theorem dL_law_15 : decode cL_law 15 = .ok (.aload_n 1, 1) := by decide +kernel
theorem dL_law_16 : decode cL_law 16 = .ok (.invokestatic 73, 3) := by decide +kernel
theorem dL_law_19 : decode cL_law 19 = .ok (.ifCond .eq 7, 3) := by decide +kernel
theorem dL_law_22 : decode cL_law 22 = .ok (.iconst 1, 1) := by decide +kernel
theorem dL_law_23 : decode cL_law 23 = .ok (.goto 4, 3) := by decide +kernel
theorem dL_law_26 : decode cL_law 26 = .ok (.iconst 0, 1) := by decide +kernel
theorem dL_law_27 : decode cL_law 27 = .ok (.istore_n 2, 1) := by decide +kernel
theorem dL_law_28 : decode cL_law 28 = .ok (.iconst 0, 1) := by decide +kernel
theorem dL_law_29 : decode cL_law 29 = .ok (.istore_n 3, 1) := by decide +kernel
theorem dL_law_30 : decode cL_law 30 = .ok (.iload_n 3, 1) := by decide +kernel
theorem dL_law_31 : decode cL_law 31 = .ok (.iconst 5, 1) := by decide +kernel
theorem dL_law_32 : decode cL_law 32 = .ok (.if_icmp .ge 62, 3) := by decide +kernel
theorem dL_law_35 : decode cL_law 35 = .ok (.iload_n 2, 1) := by decide +kernel
theorem dL_law_36 : decode cL_law 36 = .ok (.ifCond .eq 58, 3) := by decide +kernel
theorem dL_law_39 : decode cL_law 39 = .ok (.aload_n 0, 1) := by decide +kernel
theorem dL_law_40 : decode cL_law 40 = .ok (.iload_n 3, 1) := by decide +kernel
theorem dL_law_41 : decode cL_law 41 = .ok (.invokestatic 76, 3) := by decide +kernel
theorem dL_law_44 : decode cL_law 44 = .ok (.istore 4, 2) := by decide +kernel
theorem dL_law_46 : decode cL_law 46 = .ok (.aload_n 1, 1) := by decide +kernel
theorem dL_law_47 : decode cL_law 47 = .ok (.iload_n 3, 1) := by decide +kernel
theorem dL_law_48 : decode cL_law 48 = .ok (.iconst 2, 1) := by decide +kernel
theorem dL_law_49 : decode cL_law 49 = .ok (.if_icmp .ge 7, 3) := by decide +kernel
theorem dL_law_52 : decode cL_law 52 = .ok (.iconst 0, 1) := by decide +kernel
theorem dL_law_53 : decode cL_law 53 = .ok (.goto 16, 3) := by decide +kernel
theorem dL_law_56 : decode cL_law 56 = .ok (.iload_n 3, 1) := by decide +kernel
theorem dL_law_57 : decode cL_law 57 = .ok (.iconst 2, 1) := by decide +kernel
theorem dL_law_58 : decode cL_law 58 = .ok (.if_icmp .ne 7, 3) := by decide +kernel
theorem dL_law_61 : decode cL_law 61 = .ok (.iconst 1, 1) := by decide +kernel
theorem dL_law_62 : decode cL_law 62 = .ok (.goto 7, 3) := by decide +kernel
theorem dL_law_65 : decode cL_law 65 = .ok (.iload 4, 2) := by decide +kernel
theorem dL_law_67 : decode cL_law 67 = .ok (.iconst 3, 1) := by decide +kernel
theorem dL_law_68 : decode cL_law 68 = .ok (.irem, 1) := by decide +kernel
theorem dL_law_69 : decode cL_law 69 = .ok (.iload 4, 2) := by decide +kernel
theorem dL_law_71 : decode cL_law 71 = .ok (.iconst 4, 1) := by decide +kernel
theorem dL_law_72 : decode cL_law 72 = .ok (.idiv, 1) := by decide +kernel
theorem dL_law_73 : decode cL_law 73 = .ok (.iconst 3, 1) := by decide +kernel
theorem dL_law_74 : decode cL_law 74 = .ok (.irem, 1) := by decide +kernel
theorem dL_law_75 : decode cL_law 75 = .ok (.invokevirtual 80, 3) := by decide +kernel
theorem dL_law_78 : decode cL_law 78 = .ok (.iload_n 3, 1) := by decide +kernel
theorem dL_law_79 : decode cL_law 79 = .ok (.if_icmp .ne 7, 3) := by decide +kernel
theorem dL_law_82 : decode cL_law 82 = .ok (.iconst 1, 1) := by decide +kernel
theorem dL_law_83 : decode cL_law 83 = .ok (.goto 4, 3) := by decide +kernel
theorem dL_law_86 : decode cL_law 86 = .ok (.iconst 0, 1) := by decide +kernel
theorem dL_law_87 : decode cL_law 87 = .ok (.istore_n 2, 1) := by decide +kernel
theorem dL_law_88 : decode cL_law 88 = .ok (.iinc 3 1, 3) := by decide +kernel
theorem dL_law_91 : decode cL_law 91 = .ok (.goto (-61), 3) := by decide +kernel
theorem dL_law_94 : decode cL_law 94 = .ok (.iload_n 2, 1) := by decide +kernel
theorem dL_law_95 : decode cL_law 95 = .ok (.ifCond .eq 24, 3) := by decide +kernel
theorem dL_law_98 : decode cL_law 98 = .ok (.aload_n 1, 1) := by decide +kernel
theorem dL_law_99 : decode cL_law 99 = .ok (.iconst 1, 1) := by decide +kernel
theorem dL_law_100 : decode cL_law 100 = .ok (.invokevirtual 53, 3) := by decide +kernel
theorem dL_law_103 : decode cL_law 103 = .ok (.bipush 6, 2) := by decide +kernel
theorem dL_law_105 : decode cL_law 105 = .ok (.if_icmp .ne 14, 3) := by decide +kernel
theorem dL_law_108 : decode cL_law 108 = .ok (.aload_n 1, 1) := by decide +kernel
theorem dL_law_109 : decode cL_law 109 = .ok (.invokestatic 67, 3) := by decide +kernel
theorem dL_law_112 : decode cL_law 112 = .ok (.ifCond .eq 7, 3) := by decide +kernel
theorem dL_law_115 : decode cL_law 115 = .ok (.iconst 1, 1) := by decide +kernel
theorem dL_law_116 : decode cL_law 116 = .ok (.goto 4, 3) := by decide +kernel
theorem dL_law_119 : decode cL_law 119 = .ok (.iconst 0, 1) := by decide +kernel
theorem dL_law_120 : decode cL_law 120 = .ok (.istore_n 2, 1) := by decide +kernel
theorem dL_law_121 : decode cL_law 121 = .ok (.iconst 0, 1) := by decide +kernel
theorem dL_law_122 : decode cL_law 122 = .ok (.istore_n 3, 1) := by decide +kernel
theorem dL_law_123 : decode cL_law 123 = .ok (.iload_n 3, 1) := by decide +kernel
theorem dL_law_124 : decode cL_law 124 = .ok (.bipush 34, 2) := by decide +kernel
theorem dL_law_126 : decode cL_law 126 = .ok (.if_icmp .ge 47, 3) := by decide +kernel
theorem dL_law_129 : decode cL_law 129 = .ok (.iload_n 2, 1) := by decide +kernel
theorem dL_law_130 : decode cL_law 130 = .ok (.ifCond .eq 43, 3) := by decide +kernel
theorem dL_law_133 : decode cL_law 133 = .ok (.aload_n 1, 1) := by decide +kernel
theorem dL_law_134 : decode cL_law 134 = .ok (.aload_n 0, 1) := by decide +kernel
theorem dL_law_135 : decode cL_law 135 = .ok (.iconst 5, 1) := by decide +kernel
theorem dL_law_136 : decode cL_law 136 = .ok (.iload_n 3, 1) := by decide +kernel
theorem dL_law_137 : decode cL_law 137 = .ok (.iadd, 1) := by decide +kernel
theorem dL_law_138 : decode cL_law 138 = .ok (.invokestatic 76, 3) := by decide +kernel
theorem dL_law_141 : decode cL_law 141 = .ok (.invokestatic 83, 3) := by decide +kernel
theorem dL_law_144 : decode cL_law 144 = .ok (.ifCond .eq 21, 3) := by decide +kernel
theorem dL_law_147 : decode cL_law 147 = .ok (.aload_n 1, 1) := by decide +kernel
theorem dL_law_148 : decode cL_law 148 = .ok (.invokestatic 67, 3) := by decide +kernel
theorem dL_law_151 : decode cL_law 151 = .ok (.ifCond .eq 14, 3) := by decide +kernel
theorem dL_law_154 : decode cL_law 154 = .ok (.aload_n 1, 1) := by decide +kernel
theorem dL_law_155 : decode cL_law 155 = .ok (.invokestatic 73, 3) := by decide +kernel
theorem dL_law_158 : decode cL_law 158 = .ok (.ifCond .eq 7, 3) := by decide +kernel
theorem dL_law_161 : decode cL_law 161 = .ok (.iconst 1, 1) := by decide +kernel
theorem dL_law_162 : decode cL_law 162 = .ok (.goto 4, 3) := by decide +kernel
theorem dL_law_165 : decode cL_law 165 = .ok (.iconst 0, 1) := by decide +kernel
theorem dL_law_166 : decode cL_law 166 = .ok (.istore_n 2, 1) := by decide +kernel
theorem dL_law_167 : decode cL_law 167 = .ok (.iinc 3 1, 3) := by decide +kernel
theorem dL_law_170 : decode cL_law 170 = .ok (.goto (-47), 3) := by decide +kernel
theorem dL_law_173 : decode cL_law 173 = .ok (.aload_n 1, 1) := by decide +kernel
theorem dL_law_174 : decode cL_law 174 = .ok (.bipush 6, 2) := by decide +kernel
theorem dL_law_176 : decode cL_law 176 = .ok (.invokevirtual 19, 3) := by decide +kernel
theorem dL_law_179 : decode cL_law 179 = .ok (.istore_n 3, 1) := by decide +kernel
theorem dL_law_180 : decode cL_law 180 = .ok (.aload_n 1, 1) := by decide +kernel
theorem dL_law_181 : decode cL_law 181 = .ok (.iconst 4, 1) := by decide +kernel
theorem dL_law_182 : decode cL_law 182 = .ok (.invokevirtual 19, 3) := by decide +kernel
theorem dL_law_185 : decode cL_law 185 = .ok (.istore 4, 2) := by decide +kernel
theorem dL_law_187 : decode cL_law 187 = .ok (.iload_n 2, 1) := by decide +kernel
theorem dL_law_188 : decode cL_law 188 = .ok (.ifCond .eq 56, 3) := by decide +kernel
theorem dL_law_191 : decode cL_law 191 = .ok (.aload_n 1, 1) := by decide +kernel
theorem dL_law_192 : decode cL_law 192 = .ok (.iconst 5, 1) := by decide +kernel
theorem dL_law_193 : decode cL_law 193 = .ok (.invokevirtual 50, 3) := by decide +kernel
theorem dL_law_196 : decode cL_law 196 = .ok (.ifCond .lt 48, 3) := by decide +kernel
theorem dL_law_199 : decode cL_law 199 = .ok (.aload_n 1, 1) := by decide +kernel
theorem dL_law_200 : decode cL_law 200 = .ok (.invokevirtual 87, 3) := by decide +kernel
theorem dL_law_203 : decode cL_law 203 = .ok (.ifCond .lt 41, 3) := by decide +kernel
theorem dL_law_206 : decode cL_law 206 = .ok (.aload_n 1, 1) := by decide +kernel
theorem dL_law_207 : decode cL_law 207 = .ok (.bipush 6, 2) := by decide +kernel
theorem dL_law_209 : decode cL_law 209 = .ok (.invokevirtual 19, 3) := by decide +kernel
theorem dL_law_212 : decode cL_law 212 = .ok (.iload_n 3, 1) := by decide +kernel
theorem dL_law_213 : decode cL_law 213 = .ok (.if_icmp .ne 31, 3) := by decide +kernel
theorem dL_law_216 : decode cL_law 216 = .ok (.aload_n 1, 1) := by decide +kernel
theorem dL_law_217 : decode cL_law 217 = .ok (.iconst 4, 1) := by decide +kernel
theorem dL_law_218 : decode cL_law 218 = .ok (.invokevirtual 19, 3) := by decide +kernel
theorem dL_law_221 : decode cL_law 221 = .ok (.iload 4, 2) := by decide +kernel
theorem dL_law_223 : decode cL_law 223 = .ok (.if_icmp .ne 21, 3) := by decide +kernel
theorem dL_law_226 : decode cL_law 226 = .ok (.aload_n 1, 1) := by decide +kernel
theorem dL_law_227 : decode cL_law 227 = .ok (.invokestatic 67, 3) := by decide +kernel
theorem dL_law_230 : decode cL_law 230 = .ok (.ifCond .eq 14, 3) := by decide +kernel
theorem dL_law_233 : decode cL_law 233 = .ok (.aload_n 1, 1) := by decide +kernel
theorem dL_law_234 : decode cL_law 234 = .ok (.invokestatic 73, 3) := by decide +kernel
theorem dL_law_237 : decode cL_law 237 = .ok (.ifCond .eq 7, 3) := by decide +kernel
theorem dL_law_240 : decode cL_law 240 = .ok (.iconst 1, 1) := by decide +kernel
theorem dL_law_241 : decode cL_law 241 = .ok (.goto 4, 3) := by decide +kernel
theorem dL_law_244 : decode cL_law 244 = .ok (.iconst 0, 1) := by decide +kernel
theorem dL_law_245 : decode cL_law 245 = .ok (.ireturn, 1) := by decide +kernel
