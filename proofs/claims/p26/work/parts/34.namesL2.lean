theorem dL_holds_51 : decode cL_holds 51 = .ok (.if_icmp .ge 51, 3) := by decide +kernel
theorem dL_holds_54 : decode cL_holds 54 = .ok (.iload 6, 2) := by decide +kernel
theorem dL_holds_56 : decode cL_holds 56 = .ok (.ifCond .eq 46, 3) := by decide +kernel
theorem dL_holds_59 : decode cL_holds 59 = .ok (.aload_n 0, 1) := by decide +kernel
theorem dL_holds_60 : decode cL_holds 60 = .ok (.iload 7, 2) := by decide +kernel
theorem dL_holds_62 : decode cL_holds 62 = .ok (.aload_n 2, 1) := by decide +kernel
theorem dL_holds_63 : decode cL_holds 63 = .ok (.invokestatic 62, 3) := by decide +kernel
theorem dL_holds_66 : decode cL_holds 66 = .ok (.istore 6, 2) := by decide +kernel
theorem dL_holds_68 : decode cL_holds 68 = .ok (.aload 5, 2) := by decide +kernel
theorem dL_holds_70 : decode cL_holds 70 = .ok (.aload_n 0, 1) := by decide +kernel
theorem dL_holds_71 : decode cL_holds 71 = .ok (.iload 7, 2) := by decide +kernel
theorem dL_holds_73 : decode cL_holds 73 = .ok (.iconst 0, 1) := by decide +kernel
theorem dL_holds_74 : decode cL_holds 74 = .ok (.invokevirtual 27, 3) := by decide +kernel
theorem dL_holds_77 : decode cL_holds 77 = .ok (.dup2, 1) := by decide +kernel
theorem dL_holds_78 : decode cL_holds 78 = .ok (.iaload, 1) := by decide +kernel
theorem dL_holds_79 : decode cL_holds 79 = .ok (.aload_n 0, 1) := by decide +kernel
theorem dL_holds_80 : decode cL_holds 80 = .ok (.iload 7, 2) := by decide +kernel
theorem dL_holds_82 : decode cL_holds 82 = .ok (.iconst 1, 1) := by decide +kernel
theorem dL_holds_83 : decode cL_holds 83 = .ok (.invokevirtual 27, 3) := by decide +kernel
theorem dL_holds_86 : decode cL_holds 86 = .ok (.ifCond .ne 7, 3) := by decide +kernel
theorem dL_holds_89 : decode cL_holds 89 = .ok (.iconst 1, 1) := by decide +kernel
theorem dL_holds_90 : decode cL_holds 90 = .ok (.goto 4, 3) := by decide +kernel
theorem dL_holds_93 : decode cL_holds 93 = .ok (.iconst 0, 1) := by decide +kernel
theorem dL_holds_94 : decode cL_holds 94 = .ok (.iadd, 1) := by decide +kernel
theorem dL_holds_95 : decode cL_holds 95 = .ok (.iastore, 1) := by decide +kernel
theorem dL_holds_96 : decode cL_holds 96 = .ok (.iinc 7 1, 3) := by decide +kernel
theorem dL_holds_99 : decode cL_holds 99 = .ok (.goto (-52), 3) := by decide +kernel
theorem dL_holds_102 : decode cL_holds 102 = .ok (.iconst 0, 1) := by decide +kernel
theorem dL_holds_103 : decode cL_holds 103 = .ok (.istore 7, 2) := by decide +kernel
theorem dL_holds_105 : decode cL_holds 105 = .ok (.iload 7, 2) := by decide +kernel
theorem dL_holds_107 : decode cL_holds 107 = .ok (.bipush 48, 2) := by decide +kernel
theorem dL_holds_109 : decode cL_holds 109 = .ok (.if_icmp .ge 163, 3) := by decide +kernel
theorem dL_holds_112 : decode cL_holds 112 = .ok (.iload 6, 2) := by decide +kernel
theorem dL_holds_114 : decode cL_holds 114 = .ok (.ifCond .eq 158, 3) := by decide +kernel
theorem dL_holds_117 : decode cL_holds 117 = .ok (.aload_n 0, 1) := by decide +kernel
theorem dL_holds_118 : decode cL_holds 118 = .ok (.iload 7, 2) := by decide +kernel
theorem dL_holds_120 : decode cL_holds 120 = .ok (.iconst 0, 1) := by decide +kernel
theorem dL_holds_121 : decode cL_holds 121 = .ok (.invokevirtual 52, 3) := by decide +kernel
theorem dL_holds_124 : decode cL_holds 124 = .ok (.iconst 1, 1) := by decide +kernel
theorem dL_holds_125 : decode cL_holds 125 = .ok (.if_icmp .ne 7, 3) := by decide +kernel
theorem dL_holds_128 : decode cL_holds 128 = .ok (.iconst 1, 1) := by decide +kernel
theorem dL_holds_129 : decode cL_holds 129 = .ok (.goto 4, 3) := by decide +kernel
theorem dL_holds_132 : decode cL_holds 132 = .ok (.iconst 0, 1) := by decide +kernel
theorem dL_holds_133 : decode cL_holds 133 = .ok (.istore 8, 2) := by decide +kernel
theorem dL_holds_135 : decode cL_holds 135 = .ok (.iload_n 3, 1) := by decide +kernel
theorem dL_holds_136 : decode cL_holds 136 = .ok (.iload 8, 2) := by decide +kernel
theorem dL_holds_138 : decode cL_holds 138 = .ok (.ifCond .eq 7, 3) := by decide +kernel
theorem dL_holds_141 : decode cL_holds 141 = .ok (.iconst 0, 1) := by decide +kernel
theorem dL_holds_142 : decode cL_holds 142 = .ok (.goto 4, 3) := by decide +kernel
theorem dL_holds_145 : decode cL_holds 145 = .ok (.iconst 1, 1) := by decide +kernel
theorem dL_holds_146 : decode cL_holds 146 = .ok (.iadd, 1) := by decide +kernel
theorem dL_holds_147 : decode cL_holds 147 = .ok (.istore_n 3, 1) := by decide +kernel
theorem dL_holds_148 : decode cL_holds 148 = .ok (.iload 4, 2) := by decide +kernel
theorem dL_holds_150 : decode cL_holds 150 = .ok (.aload_n 0, 1) := by decide +kernel
theorem dL_holds_151 : decode cL_holds 151 = .ok (.iload 7, 2) := by decide +kernel
theorem dL_holds_153 : decode cL_holds 153 = .ok (.iconst 2, 1) := by decide +kernel
theorem dL_holds_154 : decode cL_holds 154 = .ok (.invokevirtual 52, 3) := by decide +kernel
theorem dL_holds_157 : decode cL_holds 157 = .ok (.iload 7, 2) := by decide +kernel
theorem dL_holds_159 : decode cL_holds 159 = .ok (.if_icmp .ne 7, 3) := by decide +kernel
theorem dL_holds_162 : decode cL_holds 162 = .ok (.iconst 1, 1) := by decide +kernel
theorem dL_holds_163 : decode cL_holds 163 = .ok (.goto 4, 3) := by decide +kernel
theorem dL_holds_166 : decode cL_holds 166 = .ok (.iconst 0, 1) := by decide +kernel
theorem dL_holds_167 : decode cL_holds 167 = .ok (.iadd, 1) := by decide +kernel
theorem dL_holds_168 : decode cL_holds 168 = .ok (.istore 4, 2) := by decide +kernel
theorem dL_holds_170 : decode cL_holds 170 = .ok (.iload 8, 2) := by decide +kernel
theorem dL_holds_172 : decode cL_holds 172 = .ok (.ifCond .eq 43, 3) := by decide +kernel
theorem dL_holds_175 : decode cL_holds 175 = .ok (.aload_n 0, 1) := by decide +kernel
theorem dL_holds_176 : decode cL_holds 176 = .ok (.iload 7, 2) := by decide +kernel
theorem dL_holds_178 : decode cL_holds 178 = .ok (.iconst 1, 1) := by decide +kernel
theorem dL_holds_179 : decode cL_holds 179 = .ok (.invokevirtual 52, 3) := by decide +kernel
theorem dL_holds_182 : decode cL_holds 182 = .ok (.ifCond .ne 29, 3) := by decide +kernel
theorem dL_holds_185 : decode cL_holds 185 = .ok (.aload_n 0, 1) := by decide +kernel
theorem dL_holds_186 : decode cL_holds 186 = .ok (.iload 7, 2) := by decide +kernel
theorem dL_holds_188 : decode cL_holds 188 = .ok (.iconst 2, 1) := by decide +kernel
theorem dL_holds_189 : decode cL_holds 189 = .ok (.invokevirtual 52, 3) := by decide +kernel
theorem dL_holds_192 : decode cL_holds 192 = .ok (.bipush (-6), 2) := by decide +kernel
theorem dL_holds_194 : decode cL_holds 194 = .ok (.if_icmp .ne 17, 3) := by decide +kernel
theorem dL_holds_197 : decode cL_holds 197 = .ok (.aload_n 0, 1) := by decide +kernel
theorem dL_holds_198 : decode cL_holds 198 = .ok (.iload 7, 2) := by decide +kernel
theorem dL_holds_200 : decode cL_holds 200 = .ok (.iconst 3, 1) := by decide +kernel
theorem dL_holds_201 : decode cL_holds 201 = .ok (.invokevirtual 52, 3) := by decide +kernel
theorem dL_holds_204 : decode cL_holds 204 = .ok (.ifCond .ne 7, 3) := by decide +kernel
theorem dL_holds_207 : decode cL_holds 207 = .ok (.iconst 1, 1) := by decide +kernel
theorem dL_holds_208 : decode cL_holds 208 = .ok (.goto 56, 3) := by decide +kernel
theorem dL_holds_211 : decode cL_holds 211 = .ok (.iconst 0, 1) := by decide +kernel
theorem dL_holds_212 : decode cL_holds 212 = .ok (.goto 52, 3) := by decide +kernel
theorem dL_holds_215 : decode cL_holds 215 = .ok (.aload_n 0, 1) := by decide +kernel
theorem dL_holds_216 : decode cL_holds 216 = .ok (.iload 7, 2) := by decide +kernel
theorem dL_holds_218 : decode cL_holds 218 = .ok (.iconst 1, 1) := by decide +kernel
theorem dL_holds_219 : decode cL_holds 219 = .ok (.invokevirtual 52, 3) := by decide +kernel
theorem dL_holds_222 : decode cL_holds 222 = .ok (.ifCond .le 41, 3) := by decide +kernel
theorem dL_holds_225 : decode cL_holds 225 = .ok (.aload_n 0, 1) := by decide +kernel
theorem dL_holds_226 : decode cL_holds 226 = .ok (.iload 7, 2) := by decide +kernel
theorem dL_holds_228 : decode cL_holds 228 = .ok (.iconst 2, 1) := by decide +kernel
theorem dL_holds_229 : decode cL_holds 229 = .ok (.invokevirtual 52, 3) := by decide +kernel
theorem dL_holds_232 : decode cL_holds 232 = .ok (.iload 7, 2) := by decide +kernel
theorem dL_holds_234 : decode cL_holds 234 = .ok (.if_icmp .gt 29, 3) := by decide +kernel
theorem dL_holds_237 : decode cL_holds 237 = .ok (.aload_n 0, 1) := by decide +kernel
theorem dL_holds_238 : decode cL_holds 238 = .ok (.aload_n 0, 1) := by decide +kernel
theorem dL_holds_239 : decode cL_holds 239 = .ok (.iload 7, 2) := by decide +kernel
theorem dL_holds_241 : decode cL_holds 241 = .ok (.iconst 2, 1) := by decide +kernel
theorem dL_holds_242 : decode cL_holds 242 = .ok (.invokevirtual 52, 3) := by decide +kernel
theorem dL_holds_245 : decode cL_holds 245 = .ok (.iconst 2, 1) := by decide +kernel
theorem dL_holds_246 : decode cL_holds 246 = .ok (.invokevirtual 52, 3) := by decide +kernel
theorem dL_holds_249 : decode cL_holds 249 = .ok (.aload_n 0, 1) := by decide +kernel
theorem dL_holds_250 : decode cL_holds 250 = .ok (.iload 7, 2) := by decide +kernel
theorem dL_holds_252 : decode cL_holds 252 = .ok (.iconst 2, 1) := by decide +kernel
theorem dL_holds_253 : decode cL_holds 253 = .ok (.invokevirtual 52, 3) := by decide +kernel
theorem dL_holds_256 : decode cL_holds 256 = .ok (.if_icmp .ne 7, 3) := by decide +kernel
theorem dL_holds_259 : decode cL_holds 259 = .ok (.iconst 1, 1) := by decide +kernel
theorem dL_holds_260 : decode cL_holds 260 = .ok (.goto 4, 3) := by decide +kernel
theorem dL_holds_263 : decode cL_holds 263 = .ok (.iconst 0, 1) := by decide +kernel
theorem dL_holds_264 : decode cL_holds 264 = .ok (.istore 6, 2) := by decide +kernel
theorem dL_holds_266 : decode cL_holds 266 = .ok (.iinc 7 1, 3) := by decide +kernel
theorem dL_holds_269 : decode cL_holds 269 = .ok (.goto (-164), 3) := by decide +kernel
theorem dL_holds_272 : decode cL_holds 272 = .ok (.iload_n 1, 1) := by decide +kernel
theorem dL_holds_273 : decode cL_holds 273 = .ok (.bipush 48, 2) := by decide +kernel
theorem dL_holds_275 : decode cL_holds 275 = .ok (.invokestatic 9, 3) := by decide +kernel
theorem dL_holds_278 : decode cL_holds 278 = .ok (.istore 7, 2) := by decide +kernel
theorem dL_holds_280 : decode cL_holds 280 = .ok (.iload_n 1, 1) := by decide +kernel
theorem dL_holds_281 : decode cL_holds 281 = .ok (.bipush 6, 2) := by decide +kernel
theorem dL_holds_283 : decode cL_holds 283 = .ok (.ishr, 1) := by decide +kernel
theorem dL_holds_284 : decode cL_holds 284 = .ok (.bipush 48, 2) := by decide +kernel
theorem dL_holds_286 : decode cL_holds 286 = .ok (.invokestatic 9, 3) := by decide +kernel
theorem dL_holds_289 : decode cL_holds 289 = .ok (.istore 8, 2) := by decide +kernel
theorem dL_holds_291 : decode cL_holds 291 = .ok (.iload 6, 2) := by decide +kernel
theorem dL_holds_293 : decode cL_holds 293 = .ok (.ifCond .eq 138, 3) := by decide +kernel
theorem dL_holds_296 : decode cL_holds 296 = .ok (.aload_n 0, 1) := by decide +kernel
theorem dL_holds_297 : decode cL_holds 297 = .ok (.iload 7, 2) := by decide +kernel
theorem dL_holds_299 : decode cL_holds 299 = .ok (.iconst 0, 1) := by decide +kernel
theorem dL_holds_300 : decode cL_holds 300 = .ok (.invokevirtual 52, 3) := by decide +kernel
theorem dL_holds_303 : decode cL_holds 303 = .ok (.ifCond .ne 128, 3) := by decide +kernel
theorem dL_holds_306 : decode cL_holds 306 = .ok (.aload_n 0, 1) := by decide +kernel
theorem dL_holds_307 : decode cL_holds 307 = .ok (.iload 7, 2) := by decide +kernel
theorem dL_holds_309 : decode cL_holds 309 = .ok (.iconst 1, 1) := by decide +kernel
theorem dL_holds_310 : decode cL_holds 310 = .ok (.invokevirtual 52, 3) := by decide +kernel
theorem dL_holds_313 : decode cL_holds 313 = .ok (.aload_n 0, 1) := by decide +kernel
theorem dL_holds_314 : decode cL_holds 314 = .ok (.aload_n 2, 1) := by decide +kernel
theorem dL_holds_315 : decode cL_holds 315 = .ok (.iload 7, 2) := by decide +kernel
theorem dL_holds_317 : decode cL_holds 317 = .ok (.iconst (-1), 1) := by decide +kernel
theorem dL_holds_318 : decode cL_holds 318 = .ok (.iconst 0, 1) := by decide +kernel
theorem dL_holds_319 : decode cL_holds 319 = .ok (.invokestatic 58, 3) := by decide +kernel
theorem dL_holds_322 : decode cL_holds 322 = .ok (.if_icmp .ne 39, 3) := by decide +kernel
theorem dL_holds_325 : decode cL_holds 325 = .ok (.aload_n 0, 1) := by decide +kernel
theorem dL_holds_326 : decode cL_holds 326 = .ok (.iload 7, 2) := by decide +kernel
theorem dL_holds_328 : decode cL_holds 328 = .ok (.iload 8, 2) := by decide +kernel
theorem dL_holds_330 : decode cL_holds 330 = .ok (.iconst 0, 1) := by decide +kernel
theorem dL_holds_331 : decode cL_holds 331 = .ok (.invokevirtual 66, 3) := by decide +kernel
theorem dL_holds_334 : decode cL_holds 334 = .ok (.aload_n 0, 1) := by decide +kernel
theorem dL_holds_335 : decode cL_holds 335 = .ok (.iload 8, 2) := by decide +kernel
theorem dL_holds_337 : decode cL_holds 337 = .ok (.iconst 0, 1) := by decide +kernel
theorem dL_holds_338 : decode cL_holds 338 = .ok (.invokevirtual 52, 3) := by decide +kernel
theorem dL_holds_341 : decode cL_holds 341 = .ok (.iconst 1, 1) := by decide +kernel
theorem dL_holds_342 : decode cL_holds 342 = .ok (.if_icmp .ne 8, 3) := by decide +kernel
theorem dL_holds_345 : decode cL_holds 345 = .ok (.bipush (-5), 2) := by decide +kernel
theorem dL_holds_347 : decode cL_holds 347 = .ok (.goto 7, 3) := by decide +kernel
theorem dL_holds_350 : decode cL_holds 350 = .ok (.aload_n 2, 1) := by decide +kernel
theorem dL_holds_351 : decode cL_holds 351 = .ok (.iload 8, 2) := by decide +kernel
theorem dL_holds_353 : decode cL_holds 353 = .ok (.iaload, 1) := by decide +kernel
theorem dL_holds_354 : decode cL_holds 354 = .ok (.if_icmp .ne 7, 3) := by decide +kernel
theorem dL_holds_357 : decode cL_holds 357 = .ok (.iconst 1, 1) := by decide +kernel
theorem dL_holds_358 : decode cL_holds 358 = .ok (.goto 4, 3) := by decide +kernel
theorem dL_holds_361 : decode cL_holds 361 = .ok (.iconst 0, 1) := by decide +kernel
theorem dL_holds_362 : decode cL_holds 362 = .ok (.istore 6, 2) := by decide +kernel
theorem dL_holds_364 : decode cL_holds 364 = .ok (.aload_n 0, 1) := by decide +kernel
theorem dL_holds_365 : decode cL_holds 365 = .ok (.aload_n 2, 1) := by decide +kernel
theorem dL_holds_366 : decode cL_holds 366 = .ok (.iload 7, 2) := by decide +kernel
theorem dL_holds_368 : decode cL_holds 368 = .ok (.iconst (-1), 1) := by decide +kernel
theorem dL_holds_369 : decode cL_holds 369 = .ok (.iconst 1, 1) := by decide +kernel
theorem dL_holds_370 : decode cL_holds 370 = .ok (.invokestatic 58, 3) := by decide +kernel
theorem dL_holds_373 : decode cL_holds 373 = .ok (.istore 9, 2) := by decide +kernel
theorem dL_holds_375 : decode cL_holds 375 = .ok (.iload 6, 2) := by decide +kernel
theorem dL_holds_377 : decode cL_holds 377 = .ok (.ifCond .eq 51, 3) := by decide +kernel
theorem dL_holds_380 : decode cL_holds 380 = .ok (.iload 9, 2) := by decide +kernel
theorem dL_holds_382 : decode cL_holds 382 = .ok (.aload_n 0, 1) := by decide +kernel
theorem dL_holds_383 : decode cL_holds 383 = .ok (.iload 7, 2) := by decide +kernel
theorem dL_holds_385 : decode cL_holds 385 = .ok (.iconst 1, 1) := by decide +kernel
theorem dL_holds_386 : decode cL_holds 386 = .ok (.invokevirtual 52, 3) := by decide +kernel
theorem dL_holds_389 : decode cL_holds 389 = .ok (.if_icmp .lt 39, 3) := by decide +kernel
theorem dL_holds_392 : decode cL_holds 392 = .ok (.aload_n 0, 1) := by decide +kernel
theorem dL_holds_393 : decode cL_holds 393 = .ok (.iload 7, 2) := by decide +kernel
theorem dL_holds_395 : decode cL_holds 395 = .ok (.iload 8, 2) := by decide +kernel
theorem dL_holds_397 : decode cL_holds 397 = .ok (.iconst 1, 1) := by decide +kernel
theorem dL_holds_398 : decode cL_holds 398 = .ok (.invokevirtual 66, 3) := by decide +kernel
theorem dL_holds_401 : decode cL_holds 401 = .ok (.aload_n 0, 1) := by decide +kernel
theorem dL_holds_402 : decode cL_holds 402 = .ok (.iload 8, 2) := by decide +kernel
theorem dL_holds_404 : decode cL_holds 404 = .ok (.iconst 0, 1) := by decide +kernel
theorem dL_holds_405 : decode cL_holds 405 = .ok (.invokevirtual 52, 3) := by decide +kernel
theorem dL_holds_408 : decode cL_holds 408 = .ok (.iconst 1, 1) := by decide +kernel
theorem dL_holds_409 : decode cL_holds 409 = .ok (.if_icmp .ne 8, 3) := by decide +kernel
theorem dL_holds_412 : decode cL_holds 412 = .ok (.bipush (-5), 2) := by decide +kernel
theorem dL_holds_414 : decode cL_holds 414 = .ok (.goto 7, 3) := by decide +kernel
theorem dL_holds_417 : decode cL_holds 417 = .ok (.aload_n 2, 1) := by decide +kernel
theorem dL_holds_418 : decode cL_holds 418 = .ok (.iload 8, 2) := by decide +kernel
theorem dL_holds_420 : decode cL_holds 420 = .ok (.iaload, 1) := by decide +kernel
theorem dL_holds_421 : decode cL_holds 421 = .ok (.if_icmp .ne 7, 3) := by decide +kernel
theorem dL_holds_424 : decode cL_holds 424 = .ok (.iconst 1, 1) := by decide +kernel
theorem dL_holds_425 : decode cL_holds 425 = .ok (.goto 4, 3) := by decide +kernel
theorem dL_holds_428 : decode cL_holds 428 = .ok (.iconst 0, 1) := by decide +kernel
theorem dL_holds_429 : decode cL_holds 429 = .ok (.istore 6, 2) := by decide +kernel
theorem dL_holds_431 : decode cL_holds 431 = .ok (.iconst 0, 1) := by decide +kernel
theorem dL_holds_432 : decode cL_holds 432 = .ok (.istore 9, 2) := by decide +kernel
theorem dL_holds_434 : decode cL_holds 434 = .ok (.iload 9, 2) := by decide +kernel
theorem dL_holds_436 : decode cL_holds 436 = .ok (.iconst 2, 1) := by decide +kernel
theorem dL_holds_437 : decode cL_holds 437 = .ok (.if_icmp .ge 127, 3) := by decide +kernel
theorem dL_holds_440 : decode cL_holds 440 = .ok (.iload 6, 2) := by decide +kernel
theorem dL_holds_442 : decode cL_holds 442 = .ok (.ifCond .eq 122, 3) := by decide +kernel
theorem dL_holds_445 : decode cL_holds 445 = .ok (.iconst 0, 1) := by decide +kernel
theorem dL_holds_446 : decode cL_holds 446 = .ok (.istore 10, 2) := by decide +kernel
theorem dL_holds_448 : decode cL_holds 448 = .ok (.iload 10, 2) := by decide +kernel
theorem dL_holds_450 : decode cL_holds 450 = .ok (.aload_n 0, 1) := by decide +kernel
theorem dL_holds_451 : decode cL_holds 451 = .ok (.iload 9, 2) := by decide +kernel
theorem dL_holds_453 : decode cL_holds 453 = .ok (.iconst 2, 1) := by decide +kernel
theorem dL_holds_454 : decode cL_holds 454 = .ok (.invokevirtual 24, 3) := by decide +kernel
theorem dL_holds_457 : decode cL_holds 457 = .ok (.if_icmp .ge 43, 3) := by decide +kernel
theorem dL_holds_460 : decode cL_holds 460 = .ok (.iload 6, 2) := by decide +kernel
theorem dL_holds_462 : decode cL_holds 462 = .ok (.ifCond .eq 38, 3) := by decide +kernel
theorem dL_holds_465 : decode cL_holds 465 = .ok (.aload_n 0, 1) := by decide +kernel
theorem dL_holds_466 : decode cL_holds 466 = .ok (.aload_n 0, 1) := by decide +kernel
theorem dL_holds_467 : decode cL_holds 467 = .ok (.iload 9, 2) := by decide +kernel
theorem dL_holds_469 : decode cL_holds 469 = .ok (.iload 10, 2) := by decide +kernel
theorem dL_holds_471 : decode cL_holds 471 = .ok (.invokevirtual 70, 3) := by decide +kernel
theorem dL_holds_474 : decode cL_holds 474 = .ok (.iconst 4, 1) := by decide +kernel
theorem dL_holds_475 : decode cL_holds 475 = .ok (.invokevirtual 27, 3) := by decide +kernel
theorem dL_holds_478 : decode cL_holds 478 = .ok (.iload 9, 2) := by decide +kernel
theorem dL_holds_480 : decode cL_holds 480 = .ok (.ishr, 1) := by decide +kernel
theorem dL_holds_481 : decode cL_holds 481 = .ok (.iconst 1, 1) := by decide +kernel
theorem dL_holds_482 : decode cL_holds 482 = .ok (.iand, 1) := by decide +kernel
theorem dL_holds_483 : decode cL_holds 483 = .ok (.iconst 1, 1) := by decide +kernel
theorem dL_holds_484 : decode cL_holds 484 = .ok (.if_icmp .ne 7, 3) := by decide +kernel
theorem dL_holds_487 : decode cL_holds 487 = .ok (.iconst 1, 1) := by decide +kernel
theorem dL_holds_488 : decode cL_holds 488 = .ok (.goto 4, 3) := by decide +kernel
theorem dL_holds_491 : decode cL_holds 491 = .ok (.iconst 0, 1) := by decide +kernel
theorem dL_holds_492 : decode cL_holds 492 = .ok (.istore 6, 2) := by decide +kernel
theorem dL_holds_494 : decode cL_holds 494 = .ok (.iinc 10 1, 3) := by decide +kernel
theorem dL_holds_497 : decode cL_holds 497 = .ok (.goto (-49), 3) := by decide +kernel
theorem dL_holds_500 : decode cL_holds 500 = .ok (.iload 6, 2) := by decide +kernel
theorem dL_holds_502 : decode cL_holds 502 = .ok (.ifCond .eq 53, 3) := by decide +kernel
theorem dL_holds_505 : decode cL_holds 505 = .ok (.aload_n 0, 1) := by decide +kernel
theorem dL_holds_506 : decode cL_holds 506 = .ok (.iload 9, 2) := by decide +kernel
theorem dL_holds_508 : decode cL_holds 508 = .ok (.aload_n 0, 1) := by decide +kernel
theorem dL_holds_509 : decode cL_holds 509 = .ok (.iload 9, 2) := by decide +kernel
theorem dL_holds_511 : decode cL_holds 511 = .ok (.iconst 2, 1) := by decide +kernel
theorem dL_holds_512 : decode cL_holds 512 = .ok (.invokevirtual 24, 3) := by decide +kernel
theorem dL_holds_515 : decode cL_holds 515 = .ok (.invokevirtual 70, 3) := by decide +kernel
theorem dL_holds_518 : decode cL_holds 518 = .ok (.iconst (-1), 1) := by decide +kernel
theorem dL_holds_519 : decode cL_holds 519 = .ok (.if_icmp .ne 36, 3) := by decide +kernel
theorem dL_holds_522 : decode cL_holds 522 = .ok (.aload_n 0, 1) := by decide +kernel
theorem dL_holds_523 : decode cL_holds 523 = .ok (.iload 9, 2) := by decide +kernel
theorem dL_holds_525 : decode cL_holds 525 = .ok (.iconst 2, 1) := by decide +kernel
theorem dL_holds_526 : decode cL_holds 526 = .ok (.invokevirtual 24, 3) := by decide +kernel
theorem dL_holds_529 : decode cL_holds 529 = .ok (.bipush 8, 2) := by decide +kernel
theorem dL_holds_531 : decode cL_holds 531 = .ok (.if_icmp .gt 24, 3) := by decide +kernel
theorem dL_holds_534 : decode cL_holds 534 = .ok (.aload_n 0, 1) := by decide +kernel
theorem dL_holds_535 : decode cL_holds 535 = .ok (.iload 9, 2) := by decide +kernel
theorem dL_holds_537 : decode cL_holds 537 = .ok (.iconst 4, 1) := by decide +kernel
theorem dL_holds_538 : decode cL_holds 538 = .ok (.invokevirtual 24, 3) := by decide +kernel
theorem dL_holds_541 : decode cL_holds 541 = .ok (.aload_n 0, 1) := by decide +kernel
theorem dL_holds_542 : decode cL_holds 542 = .ok (.iload 9, 2) := by decide +kernel
theorem dL_holds_544 : decode cL_holds 544 = .ok (.iconst 3, 1) := by decide +kernel
theorem dL_holds_545 : decode cL_holds 545 = .ok (.invokevirtual 24, 3) := by decide +kernel
theorem dL_holds_548 : decode cL_holds 548 = .ok (.if_icmp .lt 7, 3) := by decide +kernel
theorem dL_holds_551 : decode cL_holds 551 = .ok (.iconst 1, 1) := by decide +kernel
theorem dL_holds_552 : decode cL_holds 552 = .ok (.goto 4, 3) := by decide +kernel
theorem dL_holds_555 : decode cL_holds 555 = .ok (.iconst 0, 1) := by decide +kernel
theorem dL_holds_556 : decode cL_holds 556 = .ok (.istore 6, 2) := by decide +kernel
theorem dL_holds_558 : decode cL_holds 558 = .ok (.iinc 9 1, 3) := by decide +kernel
theorem dL_holds_561 : decode cL_holds 561 = .ok (.goto (-127), 3) := by decide +kernel
theorem dL_holds_564 : decode cL_holds 564 = .ok (.iload_n 3, 1) := by decide +kernel
theorem dL_holds_565 : decode cL_holds 565 = .ok (.bipush 13, 2) := by decide +kernel
theorem dL_holds_567 : decode cL_holds 567 = .ok (.if_icmp .lt 14, 3) := by decide +kernel
theorem dL_holds_570 : decode cL_holds 570 = .ok (.aload_n 0, 1) := by decide +kernel
theorem dL_holds_571 : decode cL_holds 571 = .ok (.iconst 0, 1) := by decide +kernel
theorem dL_holds_572 : decode cL_holds 572 = .ok (.invokevirtual 19, 3) := by decide +kernel
theorem dL_holds_575 : decode cL_holds 575 = .ok (.sipush 200, 3) := by decide +kernel
theorem dL_holds_578 : decode cL_holds 578 = .ok (.if_icmp .lt 7, 3) := by decide +kernel
theorem dL_holds_581 : decode cL_holds 581 = .ok (.iconst 1, 1) := by decide +kernel
theorem dL_holds_582 : decode cL_holds 582 = .ok (.goto 4, 3) := by decide +kernel
theorem dL_holds_585 : decode cL_holds 585 = .ok (.iconst 0, 1) := by decide +kernel
theorem dL_holds_586 : decode cL_holds 586 = .ok (.istore 9, 2) := by decide +kernel
theorem dL_holds_588 : decode cL_holds 588 = .ok (.aload_n 0, 1) := by decide +kernel
theorem dL_holds_589 : decode cL_holds 589 = .ok (.iconst 0, 1) := by decide +kernel
theorem dL_holds_590 : decode cL_holds 590 = .ok (.iconst 0, 1) := by decide +kernel
theorem dL_holds_591 : decode cL_holds 591 = .ok (.invokevirtual 24, 3) := by decide +kernel
theorem dL_holds_594 : decode cL_holds 594 = .ok (.aload_n 0, 1) := by decide +kernel
theorem dL_holds_595 : decode cL_holds 595 = .ok (.iconst 1, 1) := by decide +kernel
theorem dL_holds_596 : decode cL_holds 596 = .ok (.iconst 0, 1) := by decide +kernel
theorem dL_holds_597 : decode cL_holds 597 = .ok (.invokevirtual 24, 3) := by decide +kernel
theorem dL_holds_600 : decode cL_holds 600 = .ok (.isub, 1) := by decide +kernel
theorem dL_holds_601 : decode cL_holds 601 = .ok (.istore 10, 2) := by decide +kernel
theorem dL_holds_603 : decode cL_holds 603 = .ok (.iload 6, 2) := by decide +kernel
theorem dL_holds_605 : decode cL_holds 605 = .ok (.ifCond .eq 140, 3) := by decide +kernel
theorem dL_holds_608 : decode cL_holds 608 = .ok (.iload_n 3, 1) := by decide +kernel
theorem dL_holds_609 : decode cL_holds 609 = .ok (.aload_n 0, 1) := by decide +kernel
theorem dL_holds_610 : decode cL_holds 610 = .ok (.iconst 4, 1) := by decide +kernel
theorem dL_holds_611 : decode cL_holds 611 = .ok (.invokevirtual 19, 3) := by decide +kernel
theorem dL_holds_614 : decode cL_holds 614 = .ok (.if_icmp .ne 131, 3) := by decide +kernel
theorem dL_holds_617 : decode cL_holds 617 = .ok (.iload_n 3, 1) := by decide +kernel
theorem dL_holds_618 : decode cL_holds 618 = .ok (.bipush 48, 2) := by decide +kernel
theorem dL_holds_620 : decode cL_holds 620 = .ok (.aload_n 0, 1) := by decide +kernel
theorem dL_holds_621 : decode cL_holds 621 = .ok (.iconst 0, 1) := by decide +kernel
theorem dL_holds_622 : decode cL_holds 622 = .ok (.iconst 4, 1) := by decide +kernel
theorem dL_holds_623 : decode cL_holds 623 = .ok (.invokevirtual 24, 3) := by decide +kernel
theorem dL_holds_626 : decode cL_holds 626 = .ok (.isub, 1) := by decide +kernel
theorem dL_holds_627 : decode cL_holds 627 = .ok (.aload_n 0, 1) := by decide +kernel
theorem dL_holds_628 : decode cL_holds 628 = .ok (.iconst 1, 1) := by decide +kernel
theorem dL_holds_629 : decode cL_holds 629 = .ok (.iconst 4, 1) := by decide +kernel
theorem dL_holds_630 : decode cL_holds 630 = .ok (.invokevirtual 24, 3) := by decide +kernel
theorem dL_holds_633 : decode cL_holds 633 = .ok (.isub, 1) := by decide +kernel
theorem dL_holds_634 : decode cL_holds 634 = .ok (.if_icmp .ne 111, 3) := by decide +kernel
theorem dL_holds_637 : decode cL_holds 637 = .ok (.iload 4, 2) := by decide +kernel
theorem dL_holds_639 : decode cL_holds 639 = .ok (.aload_n 0, 1) := by decide +kernel
theorem dL_holds_640 : decode cL_holds 640 = .ok (.iconst 5, 1) := by decide +kernel
theorem dL_holds_641 : decode cL_holds 641 = .ok (.invokevirtual 19, 3) := by decide +kernel
theorem dL_holds_644 : decode cL_holds 644 = .ok (.if_icmp .ne 101, 3) := by decide +kernel
theorem dL_holds_647 : decode cL_holds 647 = .ok (.aload 5, 2) := by decide +kernel
theorem dL_holds_649 : decode cL_holds 649 = .ok (.iconst 1, 1) := by decide +kernel
theorem dL_holds_650 : decode cL_holds 650 = .ok (.iaload, 1) := by decide +kernel
theorem dL_holds_651 : decode cL_holds 651 = .ok (.aload_n 0, 1) := by decide +kernel
theorem dL_holds_652 : decode cL_holds 652 = .ok (.bipush 6, 2) := by decide +kernel
theorem dL_holds_654 : decode cL_holds 654 = .ok (.invokevirtual 19, 3) := by decide +kernel
theorem dL_holds_657 : decode cL_holds 657 = .ok (.if_icmp .ne 88, 3) := by decide +kernel
theorem dL_holds_660 : decode cL_holds 660 = .ok (.aload 5, 2) := by decide +kernel
theorem dL_holds_662 : decode cL_holds 662 = .ok (.iconst 2, 1) := by decide +kernel
theorem dL_holds_663 : decode cL_holds 663 = .ok (.iaload, 1) := by decide +kernel
theorem dL_holds_664 : decode cL_holds 664 = .ok (.aload_n 0, 1) := by decide +kernel
theorem dL_holds_665 : decode cL_holds 665 = .ok (.bipush 7, 2) := by decide +kernel
theorem dL_holds_667 : decode cL_holds 667 = .ok (.invokevirtual 19, 3) := by decide +kernel
theorem dL_holds_670 : decode cL_holds 670 = .ok (.if_icmp .ne 75, 3) := by decide +kernel
theorem dL_holds_673 : decode cL_holds 673 = .ok (.aload 5, 2) := by decide +kernel
theorem dL_holds_675 : decode cL_holds 675 = .ok (.iconst 3, 1) := by decide +kernel
theorem dL_holds_676 : decode cL_holds 676 = .ok (.iaload, 1) := by decide +kernel
theorem dL_holds_677 : decode cL_holds 677 = .ok (.aload_n 0, 1) := by decide +kernel
theorem dL_holds_678 : decode cL_holds 678 = .ok (.bipush 8, 2) := by decide +kernel
theorem dL_holds_680 : decode cL_holds 680 = .ok (.invokevirtual 19, 3) := by decide +kernel
theorem dL_holds_683 : decode cL_holds 683 = .ok (.if_icmp .ne 62, 3) := by decide +kernel
theorem dL_holds_686 : decode cL_holds 686 = .ok (.aload_n 0, 1) := by decide +kernel
theorem dL_holds_687 : decode cL_holds 687 = .ok (.iconst 2, 1) := by decide +kernel
theorem dL_holds_688 : decode cL_holds 688 = .ok (.invokevirtual 19, 3) := by decide +kernel
theorem dL_holds_691 : decode cL_holds 691 = .ok (.iload 9, 2) := by decide +kernel
theorem dL_holds_693 : decode cL_holds 693 = .ok (.ifCond .eq 7, 3) := by decide +kernel
theorem dL_holds_696 : decode cL_holds 696 = .ok (.iconst 1, 1) := by decide +kernel
theorem dL_holds_697 : decode cL_holds 697 = .ok (.goto 4, 3) := by decide +kernel
theorem dL_holds_700 : decode cL_holds 700 = .ok (.iconst 0, 1) := by decide +kernel
theorem dL_holds_701 : decode cL_holds 701 = .ok (.if_icmp .ne 44, 3) := by decide +kernel
theorem dL_holds_704 : decode cL_holds 704 = .ok (.aload_n 0, 1) := by decide +kernel
theorem dL_holds_705 : decode cL_holds 705 = .ok (.iconst 3, 1) := by decide +kernel
theorem dL_holds_706 : decode cL_holds 706 = .ok (.invokevirtual 19, 3) := by decide +kernel
theorem dL_holds_709 : decode cL_holds 709 = .ok (.iload 9, 2) := by decide +kernel
theorem dL_holds_711 : decode cL_holds 711 = .ok (.ifCond .ne 8, 3) := by decide +kernel
theorem dL_holds_714 : decode cL_holds 714 = .ok (.bipush (-6), 2) := by decide +kernel
theorem dL_holds_716 : decode cL_holds 716 = .ok (.goto 22, 3) := by decide +kernel
theorem dL_holds_719 : decode cL_holds 719 = .ok (.iload 10, 2) := by decide +kernel
theorem dL_holds_721 : decode cL_holds 721 = .ok (.ifCond .le 7, 3) := by decide +kernel
theorem dL_holds_724 : decode cL_holds 724 = .ok (.iconst 0, 1) := by decide +kernel
theorem dL_holds_725 : decode cL_holds 725 = .ok (.goto 13, 3) := by decide +kernel
theorem dL_holds_728 : decode cL_holds 728 = .ok (.iload 10, 2) := by decide +kernel
theorem dL_holds_730 : decode cL_holds 730 = .ok (.ifCond .ge 7, 3) := by decide +kernel
theorem dL_holds_733 : decode cL_holds 733 = .ok (.iconst 1, 1) := by decide +kernel
theorem dL_holds_734 : decode cL_holds 734 = .ok (.goto 4, 3) := by decide +kernel
theorem dL_holds_737 : decode cL_holds 737 = .ok (.iconst 2, 1) := by decide +kernel
theorem dL_holds_738 : decode cL_holds 738 = .ok (.if_icmp .ne 7, 3) := by decide +kernel
theorem dL_holds_741 : decode cL_holds 741 = .ok (.iconst 1, 1) := by decide +kernel
theorem dL_holds_742 : decode cL_holds 742 = .ok (.goto 4, 3) := by decide +kernel
theorem dL_holds_745 : decode cL_holds 745 = .ok (.iconst 0, 1) := by decide +kernel
theorem dL_holds_746 : decode cL_holds 746 = .ok (.istore 6, 2) := by decide +kernel
theorem dL_holds_748 : decode cL_holds 748 = .ok (.iload 6, 2) := by decide +kernel
theorem dL_holds_750 : decode cL_holds 750 = .ok (.ifCond .eq 16, 3) := by decide +kernel
theorem dL_holds_753 : decode cL_holds 753 = .ok (.aload_n 0, 1) := by decide +kernel
theorem dL_holds_754 : decode cL_holds 754 = .ok (.iload_n 1, 1) := by decide +kernel
theorem dL_holds_755 : decode cL_holds 755 = .ok (.aload_n 2, 1) := by decide +kernel
theorem dL_holds_756 : decode cL_holds 756 = .ok (.invokestatic 73, 3) := by decide +kernel
theorem dL_holds_759 : decode cL_holds 759 = .ok (.ifCond .eq 7, 3) := by decide +kernel
theorem dL_holds_762 : decode cL_holds 762 = .ok (.iconst 1, 1) := by decide +kernel
theorem dL_holds_763 : decode cL_holds 763 = .ok (.goto 4, 3) := by decide +kernel
theorem dL_holds_766 : decode cL_holds 766 = .ok (.iconst 0, 1) := by decide +kernel
theorem dL_holds_767 : decode cL_holds 767 = .ok (.ireturn, 1) := by decide +kernel
def ch_wsL_isBest : List (List Cond) := [[.code yL_isBest cL_isBest 10 (some .boolean)], wsL_isBest_r1, wsL_isBest_r2, wsL_isBest_r3, wsL_isBest_r4, wsL_isBest_r5, wsL_isBest_r6, wsL_isBest_r7, wsL_isBest_r8, wsL_isBest_r9, wsX60, wsX10, wsX00, wsX50, wsX30, wsX20]
set_option maxRecDepth 20000 in
theorem hf_wsL_isBest : wsL_isBest = (ch_wsL_isBest).flatten := rfl
set_option maxRecDepth 20000 in
theorem hg_wsL_isBest : (wsL_isBest).all goodWord = true := by decide +kernel
set_option maxRecDepth 20000 in
theorem gL_isBest_X6_ifSnipped : GoodIn wsL_isBest (wsV RL 33 RX6 yX6_ifSnipped wsX6_ifSnipped) := goodIn_c ch_wsL_isBest hf_wsL_isBest hg_wsL_isBest _ [(1, 0), (1, 1), (1, 2), (1, 3), (1, 4), (1, 5), (1, 6), (1, 7), (1, 8), (1, 9), (1, 10), (1, 11), (1, 12), (1, 13), (1, 14), (1, 15), (1, 16), (1, 17), (1, 18), (1, 19), (1, 20), (1, 21), (1, 22), (1, 23), (2, 0), (2, 1), (2, 2), (2, 3), (2, 4), (2, 5), (2, 6), (2, 7), (2, 8), (2, 9), (2, 10), (2, 11), (2, 12), (2, 13), (2, 14), (2, 15), (2, 16), (2, 17), (2, 18), (2, 19), (2, 20), (2, 21), (2, 22), (2, 23), (3, 0), (3, 1), (3, 2), (3, 3), (3, 4), (3, 5), (3, 6), (3, 7), (3, 8), (3, 9), (3, 10), (3, 11), (3, 12), (3, 13), (3, 14), (3, 15), (3, 16), (3, 17), (3, 18), (10, 0), (10, 1), (10, 2), (10, 3), (10, 4), (11, 0), (11, 1), (11, 2), (11, 3), (11, 4), (12, 0), (12, 1), (12, 2), (12, 3), (12, 4)] rfl
set_option maxRecDepth 20000 in
theorem gL_isBest_X6_of : GoodIn wsL_isBest (wsV RL 27 RX6 yX6_of wsX6_of) := goodIn_c ch_wsL_isBest hf_wsL_isBest hg_wsL_isBest _ [(3, 19), (3, 20), (3, 21), (1, 3), (3, 22), (1, 5), (1, 6), (1, 7), (1, 8), (1, 9), (1, 10), (3, 23), (3, 0), (3, 1), (3, 2), (3, 3), (3, 4), (4, 0), (2, 11), (2, 12), (2, 13), (2, 2), (2, 14), (2, 15), (2, 16), (2, 17), (2, 18), (2, 19), (2, 20), (2, 21), (2, 22), (4, 1), (4, 2), (1, 3), (4, 3), (4, 4), (4, 5), (3, 16), (3, 17), (4, 6), (4, 7), (4, 8), (1, 14), (4, 9), (4, 10), (4, 11), (4, 12), (4, 13), (4, 14), (4, 15), (4, 16), (4, 17), (4, 18), (4, 19), (4, 20), (4, 21), (4, 22), (1, 16), (1, 17), (1, 18), (1, 19), (1, 20), (1, 21), (1, 22), (1, 23), (2, 0), (2, 1), (2, 3), (2, 4), (2, 5), (2, 6), (2, 7), (2, 8), (2, 9), (2, 10), (4, 23), (5, 0), (5, 1), (5, 2), (5, 3), (5, 4), (5, 5), (5, 6), (5, 7), (3, 11), (3, 9), (10, 0), (10, 1), (10, 2), (10, 3), (10, 4), (11, 0), (11, 1), (11, 2), (11, 3), (11, 4), (12, 0), (12, 1), (12, 2), (12, 3), (12, 4), (13, 0), (13, 1), (13, 2), (13, 3), (13, 4), (13, 5), (13, 6), (13, 7), (13, 8)] rfl
set_option maxRecDepth 20000 in
theorem gL_isBest_X6_count : GoodIn wsL_isBest (wsV RL 19 RX6 yX6_count wsX6_count) := goodIn_c ch_wsL_isBest hf_wsL_isBest hg_wsL_isBest _ [(5, 8), (5, 9), (5, 10), (1, 3), (5, 11), (1, 5), (5, 12), (5, 13), (1, 6), (5, 14), (5, 15), (5, 16), (5, 17), (5, 18), (1, 18), (1, 19), (1, 14), (1, 20), (1, 21), (1, 16), (1, 22), (1, 23), (2, 0), (1, 9), (2, 1), (2, 2), (2, 3), (2, 4), (2, 5), (2, 6), (2, 7), (2, 8), (2, 9), (4, 1), (4, 2), (1, 3), (4, 3), (5, 19), (5, 20), (5, 21), (5, 22), (4, 10), (5, 23), (4, 11), (1, 17), (6, 0), (6, 1), (6, 2), (6, 3), (6, 4), (2, 20), (2, 21), (2, 22), (6, 5), (6, 6), (6, 7), (6, 8), (3, 9), (3, 11), (6, 9), (6, 10), (6, 11), (6, 12), (3, 12), (3, 13), (3, 14), (6, 13), (6, 14), (6, 15), (6, 16), (3, 3), (6, 17), (2, 11), (2, 12), (2, 13), (2, 14), (2, 15), (2, 16), (2, 17), (2, 18), (2, 19), (10, 0), (10, 1), (10, 2), (10, 3), (10, 4), (11, 0), (11, 1), (11, 2), (11, 3), (11, 4), (14, 0), (14, 1), (15, 0), (15, 1), (15, 2), (12, 0), (12, 1), (12, 2), (12, 3), (12, 4), (13, 0), (13, 1), (13, 2), (13, 3), (13, 4), (13, 5), (13, 6), (13, 7), (13, 8)] rfl
set_option maxRecDepth 20000 in
theorem gL_isBest_L_falls : GoodIn wsL_isBest (va_wsS RL 76 yL_falls wsL_falls) := goodIn_c ch_wsL_isBest hf_wsL_isBest hg_wsL_isBest _ [(6, 18), (6, 19), (6, 20), (6, 21), (3, 19), (3, 20), (3, 21), (1, 3), (3, 22), (1, 5), (1, 6), (1, 7), (1, 8), (1, 9), (1, 10), (3, 23), (3, 0), (3, 1), (3, 2), (3, 3), (3, 4), (4, 0), (2, 11), (2, 12), (2, 13), (2, 2), (2, 14), (2, 15), (2, 16), (2, 17), (2, 18), (2, 19), (2, 20), (2, 21), (2, 22), (4, 1), (4, 2), (4, 3), (4, 4), (4, 5), (3, 16), (3, 17), (4, 6), (4, 7), (4, 8), (1, 14), (4, 9), (4, 10), (4, 11), (4, 12), (4, 13), (4, 14), (4, 15), (4, 16), (4, 17), (4, 18), (4, 19), (4, 20), (4, 21), (4, 22), (1, 16), (1, 17), (1, 18), (1, 19), (1, 20), (1, 21), (1, 22), (1, 23), (2, 0), (2, 1), (2, 3), (2, 4), (2, 5), (2, 6), (2, 7), (2, 8), (2, 9), (2, 10), (4, 23), (5, 0), (5, 1), (5, 2), (5, 3), (5, 4), (5, 5), (5, 6), (5, 7), (3, 11), (3, 9), (6, 22), (6, 23), (6, 20), (7, 0), (7, 1), (7, 2), (7, 3), (7, 4), (7, 5), (7, 6), (7, 7), (7, 8), (7, 9), (6, 10), (6, 11), (6, 12), (7, 10), (6, 6), (6, 7), (6, 8), (6, 9), (3, 12), (3, 13), (3, 14), (3, 18), (7, 11), (7, 12), (7, 13), (7, 14), (6, 5), (7, 15), (7, 16), (7, 17), (7, 18), (7, 19), (3, 15), (10, 0), (10, 1), (10, 2), (10, 3), (10, 4), (11, 0), (11, 1), (11, 2), (11, 3), (11, 4), (12, 0), (12, 1), (12, 2), (12, 3), (12, 4), (13, 0), (13, 1), (13, 2), (13, 3), (13, 4), (13, 5), (13, 6), (13, 7), (13, 8)] rfl
set_option maxRecDepth 20000 in
theorem gL_isBest_X6_bestSnip : GoodIn wsL_isBest (wsV RL 80 RX6 yX6_bestSnip wsX6_bestSnip) := goodIn_c ch_wsL_isBest hf_wsL_isBest hg_wsL_isBest _ [(7, 20), (7, 21), (7, 22), (1, 3), (7, 23), (1, 5), (8, 0), (8, 1), (8, 2), (1, 14), (8, 3), (8, 4), (1, 12), (1, 13), (1, 15), (1, 16), (1, 17), (1, 18), (1, 19), (1, 20), (1, 21), (1, 22), (1, 23), (2, 0), (1, 9), (2, 1), (2, 2), (2, 3), (2, 4), (2, 5), (2, 6), (2, 7), (2, 8), (2, 9), (2, 10), (2, 11), (2, 12), (2, 13), (2, 14), (2, 15), (2, 16), (2, 17), (2, 18), (2, 19), (2, 20), (2, 21), (2, 22), (2, 23), (3, 0), (3, 1), (3, 2), (3, 3), (3, 4), (1, 8), (1, 10), (8, 5), (8, 6), (8, 7), (8, 8), (8, 9), (8, 10), (8, 11), (8, 12), (8, 13), (4, 10), (4, 11), (4, 12), (4, 13), (4, 14), (4, 15), (4, 16), (4, 17), (4, 18), (8, 14), (3, 6), (3, 7), (3, 8), (3, 9), (3, 10), (3, 11), (3, 12), (3, 13), (3, 14), (3, 15), (3, 16), (3, 17), (8, 15), (8, 16), (10, 0), (10, 1), (10, 2), (10, 3), (10, 4), (11, 0), (11, 1), (11, 2), (11, 3), (11, 4), (12, 0), (12, 1), (12, 2), (12, 3), (12, 4), (13, 0), (13, 1), (13, 2), (13, 3), (13, 4), (13, 5), (13, 6), (13, 7), (13, 8)] rfl
set_option maxRecDepth 20000 in
theorem gL_isBest_X6_weak : GoodIn wsL_isBest (wsV RL 83 RX6 yX6_weak wsX6_weak) := goodIn_c ch_wsL_isBest hf_wsL_isBest hg_wsL_isBest _ [(8, 17), (8, 18), (8, 19), (1, 3), (8, 20), (1, 5), (1, 6), (5, 18), (1, 18), (1, 19), (1, 14), (1, 20), (1, 21), (1, 16), (1, 22), (1, 23), (2, 0), (1, 9), (2, 1), (2, 2), (2, 3), (2, 4), (2, 5), (2, 6), (2, 7), (2, 8), (2, 9), (8, 21), (8, 22), (8, 23), (9, 0), (7, 19), (5, 5), (5, 6), (5, 7), (3, 11), (3, 9), (2, 14), (2, 15), (2, 16), (2, 17), (2, 18), (2, 19), (2, 20), (2, 21), (2, 22), (9, 1), (3, 6), (3, 7), (3, 8), (3, 10), (3, 12), (3, 13), (3, 14), (3, 15), (3, 16), (3, 17), (10, 0), (10, 1), (10, 2), (10, 3), (10, 4), (11, 0), (11, 1), (11, 2), (11, 3), (11, 4), (12, 0), (12, 1), (12, 2), (12, 3), (12, 4)] rfl
theorem dL_isBest_0 : decode cL_isBest 0 = .ok (.bipush (-6), 2) := by decide +kernel
theorem dL_isBest_2 : decode cL_isBest 2 = .ok (.istore_n 3, 1) := by decide +kernel
theorem dL_isBest_3 : decode cL_isBest 3 = .ok (.bipush (-6), 2) := by decide +kernel
theorem dL_isBest_5 : decode cL_isBest 5 = .ok (.istore 4, 2) := by decide +kernel
theorem dL_isBest_7 : decode cL_isBest 7 = .ok (.iconst 0, 1) := by decide +kernel
theorem dL_isBest_8 : decode cL_isBest 8 = .ok (.istore 5, 2) := by decide +kernel
theorem dL_isBest_10 : decode cL_isBest 10 = .ok (.iconst 1, 1) := by decide +kernel
theorem dL_isBest_11 : decode cL_isBest 11 = .ok (.istore 6, 2) := by decide +kernel
theorem dL_isBest_13 : decode cL_isBest 13 = .ok (.iconst 0, 1) := by decide +kernel
theorem dL_isBest_14 : decode cL_isBest 14 = .ok (.istore 7, 2) := by decide +kernel
theorem dL_isBest_16 : decode cL_isBest 16 = .ok (.iload 7, 2) := by decide +kernel
theorem dL_isBest_18 : decode cL_isBest 18 = .ok (.bipush 82, 2) := by decide +kernel
theorem dL_isBest_20 : decode cL_isBest 20 = .ok (.if_icmp .ge 135, 3) := by decide +kernel
theorem dL_isBest_23 : decode cL_isBest 23 = .ok (.iload 6, 2) := by decide +kernel
theorem dL_isBest_25 : decode cL_isBest 25 = .ok (.ifCond .eq 130, 3) := by decide +kernel
theorem dL_isBest_28 : decode cL_isBest 28 = .ok (.aload_n 0, 1) := by decide +kernel
theorem dL_isBest_29 : decode cL_isBest 29 = .ok (.iload 7, 2) := by decide +kernel
theorem dL_isBest_31 : decode cL_isBest 31 = .ok (.invokevirtual 33, 3) := by decide +kernel
theorem dL_isBest_34 : decode cL_isBest 34 = .ok (.istore 8, 2) := by decide +kernel
theorem dL_isBest_36 : decode cL_isBest 36 = .ok (.iload 8, 2) := by decide +kernel
theorem dL_isBest_38 : decode cL_isBest 38 = .ok (.ifCond .lt 111, 3) := by decide +kernel
theorem dL_isBest_41 : decode cL_isBest 41 = .ok (.iload 8, 2) := by decide +kernel
theorem dL_isBest_43 : decode cL_isBest 43 = .ok (.aload_n 0, 1) := by decide +kernel
theorem dL_isBest_44 : decode cL_isBest 44 = .ok (.iload 7, 2) := by decide +kernel
theorem dL_isBest_46 : decode cL_isBest 46 = .ok (.iconst 4, 1) := by decide +kernel
theorem dL_isBest_47 : decode cL_isBest 47 = .ok (.invokevirtual 27, 3) := by decide +kernel
theorem dL_isBest_50 : decode cL_isBest 50 = .ok (.aload_n 0, 1) := by decide +kernel
theorem dL_isBest_51 : decode cL_isBest 51 = .ok (.iconst 1, 1) := by decide +kernel
theorem dL_isBest_52 : decode cL_isBest 52 = .ok (.invokevirtual 19, 3) := by decide +kernel
theorem dL_isBest_55 : decode cL_isBest 55 = .ok (.ishr, 1) := by decide +kernel
theorem dL_isBest_56 : decode cL_isBest 56 = .ok (.iconst 1, 1) := by decide +kernel
theorem dL_isBest_57 : decode cL_isBest 57 = .ok (.iand, 1) := by decide +kernel
theorem dL_isBest_58 : decode cL_isBest 58 = .ok (.iadd, 1) := by decide +kernel
theorem dL_isBest_59 : decode cL_isBest 59 = .ok (.istore 9, 2) := by decide +kernel
theorem dL_isBest_61 : decode cL_isBest 61 = .ok (.iload 9, 2) := by decide +kernel
theorem dL_isBest_63 : decode cL_isBest 63 = .ok (.iload 4, 2) := by decide +kernel
theorem dL_isBest_65 : decode cL_isBest 65 = .ok (.if_icmp .le 8, 3) := by decide +kernel
theorem dL_isBest_68 : decode cL_isBest 68 = .ok (.iload 7, 2) := by decide +kernel
theorem dL_isBest_70 : decode cL_isBest 70 = .ok (.goto 4, 3) := by decide +kernel
theorem dL_isBest_73 : decode cL_isBest 73 = .ok (.iload_n 3, 1) := by decide +kernel
theorem dL_isBest_74 : decode cL_isBest 74 = .ok (.istore_n 3, 1) := by decide +kernel
theorem dL_isBest_75 : decode cL_isBest 75 = .ok (.iload 9, 2) := by decide +kernel
theorem dL_isBest_77 : decode cL_isBest 77 = .ok (.iload 4, 2) := by decide +kernel
theorem dL_isBest_79 : decode cL_isBest 79 = .ok (.if_icmp .le 8, 3) := by decide +kernel
theorem dL_isBest_82 : decode cL_isBest 82 = .ok (.iload 9, 2) := by decide +kernel
theorem dL_isBest_84 : decode cL_isBest 84 = .ok (.goto 5, 3) := by decide +kernel
theorem dL_isBest_87 : decode cL_isBest 87 = .ok (.iload 4, 2) := by decide +kernel
theorem dL_isBest_89 : decode cL_isBest 89 = .ok (.istore 4, 2) := by decide +kernel
theorem dL_isBest_91 : decode cL_isBest 91 = .ok (.iload 5, 2) := by decide +kernel
theorem dL_isBest_93 : decode cL_isBest 93 = .ok (.iload 8, 2) := by decide +kernel
theorem dL_isBest_95 : decode cL_isBest 95 = .ok (.ifCond .le 19, 3) := by decide +kernel
theorem dL_isBest_98 : decode cL_isBest 98 = .ok (.aload_n 0, 1) := by decide +kernel
theorem dL_isBest_99 : decode cL_isBest 99 = .ok (.iload 7, 2) := by decide +kernel
theorem dL_isBest_101 : decode cL_isBest 101 = .ok (.bipush 6, 2) := by decide +kernel
theorem dL_isBest_103 : decode cL_isBest 103 = .ok (.invokevirtual 27, 3) := by decide +kernel
theorem dL_isBest_106 : decode cL_isBest 106 = .ok (.iconst 1, 1) := by decide +kernel
theorem dL_isBest_107 : decode cL_isBest 107 = .ok (.if_icmp .ne 7, 3) := by decide +kernel
theorem dL_isBest_110 : decode cL_isBest 110 = .ok (.iconst 1, 1) := by decide +kernel
theorem dL_isBest_111 : decode cL_isBest 111 = .ok (.goto 4, 3) := by decide +kernel
theorem dL_isBest_114 : decode cL_isBest 114 = .ok (.iconst 0, 1) := by decide +kernel
theorem dL_isBest_115 : decode cL_isBest 115 = .ok (.iadd, 1) := by decide +kernel
theorem dL_isBest_116 : decode cL_isBest 116 = .ok (.istore 5, 2) := by decide +kernel
theorem dL_isBest_118 : decode cL_isBest 118 = .ok (.iload 7, 2) := by decide +kernel
theorem dL_isBest_120 : decode cL_isBest 120 = .ok (.bipush 9, 2) := by decide +kernel
theorem dL_isBest_122 : decode cL_isBest 122 = .ok (.irem, 1) := by decide +kernel
theorem dL_isBest_123 : decode cL_isBest 123 = .ok (.iload_n 1, 1) := by decide +kernel
theorem dL_isBest_124 : decode cL_isBest 124 = .ok (.bipush 7, 2) := by decide +kernel
theorem dL_isBest_126 : decode cL_isBest 126 = .ok (.iand, 1) := by decide +kernel
theorem dL_isBest_127 : decode cL_isBest 127 = .ok (.if_icmp .ne 15, 3) := by decide +kernel
theorem dL_isBest_130 : decode cL_isBest 130 = .ok (.iload 8, 2) := by decide +kernel
theorem dL_isBest_132 : decode cL_isBest 132 = .ok (.aload_n 0, 1) := by decide +kernel
theorem dL_isBest_133 : decode cL_isBest 133 = .ok (.iload 7, 2) := by decide +kernel
theorem dL_isBest_135 : decode cL_isBest 135 = .ok (.aload_n 2, 1) := by decide +kernel
theorem dL_isBest_136 : decode cL_isBest 136 = .ok (.invokestatic 76, 3) := by decide +kernel
theorem dL_isBest_139 : decode cL_isBest 139 = .ok (.if_icmp .ne 7, 3) := by decide +kernel
theorem dL_isBest_142 : decode cL_isBest 142 = .ok (.iconst 1, 1) := by decide +kernel
theorem dL_isBest_143 : decode cL_isBest 143 = .ok (.goto 4, 3) := by decide +kernel
theorem dL_isBest_146 : decode cL_isBest 146 = .ok (.iconst 0, 1) := by decide +kernel
theorem dL_isBest_147 : decode cL_isBest 147 = .ok (.istore 6, 2) := by decide +kernel
theorem dL_isBest_149 : decode cL_isBest 149 = .ok (.iinc 7 1, 3) := by decide +kernel
theorem dL_isBest_152 : decode cL_isBest 152 = .ok (.goto (-136), 3) := by decide +kernel
theorem dL_isBest_155 : decode cL_isBest 155 = .ok (.iload 6, 2) := by decide +kernel
theorem dL_isBest_157 : decode cL_isBest 157 = .ok (.ifCond .eq 35, 3) := by decide +kernel
theorem dL_isBest_160 : decode cL_isBest 160 = .ok (.aload_n 0, 1) := by decide +kernel
theorem dL_isBest_161 : decode cL_isBest 161 = .ok (.iconst 0, 1) := by decide +kernel
theorem dL_isBest_162 : decode cL_isBest 162 = .ok (.invokevirtual 80, 3) := by decide +kernel
theorem dL_isBest_165 : decode cL_isBest 165 = .ok (.iload_n 3, 1) := by decide +kernel
theorem dL_isBest_166 : decode cL_isBest 166 = .ok (.if_icmp .ne 26, 3) := by decide +kernel
theorem dL_isBest_169 : decode cL_isBest 169 = .ok (.aload_n 0, 1) := by decide +kernel
theorem dL_isBest_170 : decode cL_isBest 170 = .ok (.iconst 1, 1) := by decide +kernel
theorem dL_isBest_171 : decode cL_isBest 171 = .ok (.invokevirtual 80, 3) := by decide +kernel
theorem dL_isBest_174 : decode cL_isBest 174 = .ok (.iload 4, 2) := by decide +kernel
theorem dL_isBest_176 : decode cL_isBest 176 = .ok (.if_icmp .ne 16, 3) := by decide +kernel
theorem dL_isBest_179 : decode cL_isBest 179 = .ok (.aload_n 0, 1) := by decide +kernel
theorem dL_isBest_180 : decode cL_isBest 180 = .ok (.invokevirtual 83, 3) := by decide +kernel
theorem dL_isBest_183 : decode cL_isBest 183 = .ok (.iload 5, 2) := by decide +kernel
theorem dL_isBest_185 : decode cL_isBest 185 = .ok (.if_icmp .ne 7, 3) := by decide +kernel
theorem dL_isBest_188 : decode cL_isBest 188 = .ok (.iconst 1, 1) := by decide +kernel
theorem dL_isBest_189 : decode cL_isBest 189 = .ok (.goto 4, 3) := by decide +kernel
theorem dL_isBest_192 : decode cL_isBest 192 = .ok (.iconst 0, 1) := by decide +kernel
theorem dL_isBest_193 : decode cL_isBest 193 = .ok (.ireturn, 1) := by decide +kernel
def ch_wsL_law : List (List Cond) := [wsL_law_r1, wsL_law_r2, wsL_law_r3, wsL_law_r4, wsL_law_r5, wsL_law_r6, wsL_law_r7, wsL_law_r8, wsL_law_r9, wsL_law_r10, wsL_law_r11, wsL_law_r12, wsL_law_r13, wsL_law_r14, wsL_law_r15, wsL_law_r16, wsL_law_r17, wsL_law_r18, wsL_law_r19, wsX60, wsX10, wsX20, wsX40, wsX30, wsX00, wsX50]
set_option maxRecDepth 20000 in
theorem hf_wsL_law : wsL_law = (ch_wsL_law).flatten := rfl
set_option maxRecDepth 20000 in
theorem hg_wsL_law : (wsL_law).all goodWord = true := by decide +kernel
set_option maxRecDepth 20000 in
theorem gL_law_X6_init : GoodIn wsL_law (wsX6_init) := goodIn_c ch_wsL_law hf_wsL_law hg_wsL_law _ [(0, 5), (0, 6), (0, 7), (0, 8), (0, 9), (0, 10), (0, 11), (0, 12), (0, 13), (0, 14), (0, 15), (0, 16), (0, 17), (0, 18), (0, 19), (0, 20), (0, 21), (0, 22), (0, 23), (1, 0), (1, 1), (1, 2), (1, 3), (1, 4), (1, 5), (1, 6), (1, 7), (1, 8), (1, 9), (1, 10), (1, 11), (1, 12), (1, 13), (1, 14), (1, 15), (1, 16), (1, 17), (1, 18), (1, 19), (1, 20), (1, 21), (1, 22), (1, 23), (2, 0), (2, 1), (2, 2), (2, 3), (2, 4), (2, 5), (2, 6), (2, 7), (2, 8), (2, 9), (2, 10), (2, 11), (2, 12), (2, 13), (2, 14), (2, 15), (2, 16), (2, 17), (2, 18), (2, 19), (2, 20), (2, 21), (2, 22), (2, 23), (3, 0), (3, 1), (3, 2), (3, 3), (3, 4), (3, 5), (3, 6), (3, 7), (3, 8), (3, 9), (3, 10), (3, 11), (3, 12), (3, 13), (3, 14), (3, 15), (3, 16), (20, 0), (20, 1), (20, 2), (20, 3), (20, 4), (19, 0), (19, 1), (19, 2), (19, 3), (19, 4), (21, 0), (21, 1), (21, 2), (22, 0), (22, 1), (23, 0), (23, 1), (24, 0), (24, 1), (24, 2), (24, 3), (24, 4), (25, 0), (25, 1), (25, 2), (25, 3), (25, 4), (25, 5), (25, 6), (25, 7), (25, 8)] rfl
set_option maxRecDepth 20000 in
theorem gL_law_L_holds : GoodIn wsL_law (va_wsS RL 87 yL_holds wsL_holds) := goodIn_c ch_wsL_law hf_wsL_law hg_wsL_law _ [(3, 17), (3, 18), (3, 19), (3, 20), (1, 19), (3, 21), (3, 22), (3, 23), (0, 2), (4, 0), (0, 12), (4, 1), (4, 2), (2, 6), (1, 8), (2, 7), (4, 3), (4, 4), (4, 5), (4, 6), (1, 20), (2, 5), (4, 7), (4, 8), (4, 9), (4, 10), (4, 11), (2, 11), (2, 12), (2, 13), (2, 8), (2, 9), (2, 10), (4, 12), (4, 13), (4, 14), (4, 15), (4, 16), (4, 17), (4, 18), (4, 19), (4, 20), (4, 21), (4, 22), (4, 23), (5, 0), (0, 11), (5, 1), (1, 13), (1, 14), (5, 2), (5, 3), (5, 4), (1, 12), (5, 5), (5, 6), (2, 18), (5, 7), (5, 8), (5, 9), (5, 10), (1, 9), (5, 11), (5, 12), (5, 13), (5, 14), (5, 15), (5, 16), (5, 17), (5, 18), (5, 19), (5, 20), (5, 21), (5, 22), (5, 23), (6, 0), (6, 1), (6, 2), (6, 3), (6, 4), (6, 5), (6, 6), (6, 7), (1, 21), (6, 8), (6, 9), (6, 10), (6, 11), (2, 2), (2, 4), (6, 12), (6, 13), (6, 14), (6, 15), (6, 16), (6, 17), (6, 18), (6, 19), (6, 20), (6, 21), (6, 22), (6, 23), (7, 0), (7, 1), (7, 2), (7, 3), (7, 4), (7, 5), (7, 6), (7, 7), (7, 8), (7, 9), (7, 10), (7, 11), (7, 12), (7, 13), (7, 14), (7, 15), (7, 16), (7, 17), (7, 18), (7, 19), (7, 20), (3, 19), (7, 21), (7, 22), (7, 23), (8, 0), (8, 1), (8, 2), (8, 3), (1, 1), (8, 4), (0, 16), (8, 5), (8, 6), (8, 7), (8, 8), (8, 9), (8, 10), (8, 11), (8, 12), (8, 13), (8, 14), (8, 15), (8, 16), (8, 17), (8, 18), (8, 19), (8, 20), (8, 21), (8, 22), (8, 23), (9, 0), (9, 1), (9, 2), (9, 3), (9, 4), (9, 5), (9, 6), (9, 7), (9, 8), (9, 9), (9, 10), (9, 11), (9, 12), (9, 13), (9, 14), (2, 3), (9, 15), (9, 16), (9, 17), (9, 18), (9, 19), (9, 20), (9, 21), (9, 22), (9, 23), (10, 0), (10, 1), (10, 2), (10, 3), (10, 4), (10, 5), (10, 6), (10, 7), (10, 8), (10, 9), (10, 10), (10, 11), (10, 12), (10, 13), (10, 14), (10, 15), (10, 16), (10, 17), (10, 18), (10, 19), (10, 20), (10, 21), (10, 22), (10, 23), (11, 0), (11, 1), (11, 2), (11, 3), (11, 4), (11, 5), (11, 6), (11, 7), (11, 8), (11, 9), (11, 10), (11, 11), (11, 12), (11, 13), (11, 14), (11, 15), (11, 16), (11, 17), (11, 18), (11, 19), (11, 20), (11, 21), (11, 22), (11, 23), (12, 0), (12, 1), (12, 2), (12, 3), (12, 4), (12, 5), (12, 6), (12, 7), (12, 8), (12, 9), (12, 10), (12, 11), (12, 12), (12, 13), (12, 14), (12, 15), (12, 16), (12, 17), (12, 18), (19, 0), (19, 1), (19, 2), (19, 3), (19, 4), (20, 0), (20, 1), (20, 2), (20, 3), (20, 4), (24, 0), (24, 1), (24, 2), (24, 3), (24, 4), (25, 0), (25, 1), (25, 2), (25, 3), (25, 4), (25, 5), (25, 6), (25, 7), (25, 8), (23, 0), (23, 1), (21, 0), (21, 1), (21, 2)] rfl
set_option maxRecDepth 20000 in
theorem gL_law_X6_undo : GoodIn wsL_law (wsV RL 91 RX6 yX6_undo wsX6_undo) := goodIn_c ch_wsL_law hf_wsL_law hg_wsL_law _ [(12, 19), (12, 20), (12, 21), (0, 2), (12, 22), (0, 16), (0, 12), (12, 23), (13, 0), (13, 1), (0, 15), (13, 2), (13, 3), (3, 1), (13, 4), (13, 5), (13, 6), (0, 11), (13, 7), (1, 9), (1, 13), (1, 14), (12, 5), (5, 15), (13, 8), (13, 9), (13, 10), (1, 8), (13, 11), (1, 20), (1, 21), (4, 11), (2, 4), (2, 2), (13, 12), (13, 13), (13, 14), (1, 12), (13, 15), (2, 18), (5, 6), (13, 16), (2, 19), (13, 17), (13, 18), (13, 19), (13, 20), (13, 21), (19, 0), (19, 1), (19, 2), (19, 3), (19, 4), (21, 0), (21, 1), (21, 2), (20, 0), (20, 1), (20, 2), (20, 3), (20, 4), (24, 0), (24, 1), (24, 2), (24, 3), (24, 4), (25, 0), (25, 1), (25, 2), (25, 3), (25, 4), (25, 5), (25, 6), (25, 7), (25, 8)] rfl
set_option maxRecDepth 20000 in
theorem gL_law_X6_count : GoodIn wsL_law (wsV RL 19 RX6 yX6_count wsX6_count) := goodIn_c ch_wsL_law hf_wsL_law hg_wsL_law _ [(7, 22), (7, 23), (8, 0), (0, 2), (8, 1), (0, 12), (8, 2), (8, 3), (4, 1), (1, 1), (8, 4), (0, 16), (8, 5), (8, 6), (5, 12), (5, 13), (0, 11), (5, 14), (5, 15), (1, 9), (5, 16), (5, 17), (5, 18), (1, 8), (5, 19), (4, 11), (5, 20), (5, 21), (5, 22), (5, 23), (6, 0), (6, 1), (6, 2), (4, 15), (4, 16), (0, 2), (4, 17), (8, 7), (8, 8), (8, 9), (8, 10), (1, 13), (8, 11), (1, 14), (5, 11), (8, 12), (8, 13), (8, 14), (8, 15), (8, 16), (4, 12), (4, 13), (4, 14), (7, 12), (7, 0), (7, 1), (7, 2), (2, 4), (2, 2), (7, 3), (6, 20), (6, 21), (6, 22), (7, 4), (7, 5), (7, 6), (8, 17), (8, 18), (8, 19), (8, 20), (1, 20), (8, 21), (4, 8), (4, 9), (4, 10), (2, 11), (2, 12), (2, 13), (2, 8), (2, 9), (2, 10), (19, 0), (19, 1), (19, 2), (19, 3), (19, 4), (20, 0), (20, 1), (20, 2), (20, 3), (20, 4), (23, 0), (23, 1), (21, 0), (21, 1), (21, 2), (24, 0), (24, 1), (24, 2), (24, 3), (24, 4), (25, 0), (25, 1), (25, 2), (25, 3), (25, 4), (25, 5), (25, 6), (25, 7), (25, 8)] rfl
set_option maxRecDepth 20000 in
theorem gL_law_L_cell : GoodIn wsL_law (va_wsS RL 94 yL_cell wsL_cell) := goodIn_c ch_wsL_law hf_wsL_law hg_wsL_law _ [(13, 22), (13, 23), (3, 19), (14, 0), (14, 1)] rfl
set_option maxRecDepth 20000 in
theorem gL_law_L_turn : GoodIn wsL_law (va_wsS RL 97 yL_turn wsL_turn) := goodIn_c ch_wsL_law hf_wsL_law hg_wsL_law _ [(14, 2), (14, 3), (3, 19), (14, 4), (14, 5), (14, 6), (3, 19), (14, 7), (9, 15), (9, 16), (9, 17), (9, 18), (7, 22), (7, 23), (8, 0), (0, 2), (8, 1), (0, 12), (8, 2), (8, 3), (4, 1), (1, 1), (8, 4), (0, 16), (8, 5), (8, 6), (5, 12), (5, 13), (0, 11), (5, 14), (5, 15), (1, 9), (5, 16), (5, 17), (5, 18), (1, 8), (5, 19), (4, 11), (5, 20), (5, 21), (5, 22), (5, 23), (6, 0), (6, 1), (6, 2), (4, 15), (4, 16), (4, 17), (8, 7), (8, 8), (8, 9), (8, 10), (1, 13), (8, 11), (1, 14), (5, 11), (8, 12), (8, 13), (8, 14), (8, 15), (8, 16), (4, 12), (4, 13), (4, 14), (7, 12), (7, 0), (7, 1), (7, 2), (2, 4), (2, 2), (7, 3), (6, 20), (6, 21), (6, 22), (7, 4), (7, 5), (7, 6), (8, 17), (8, 18), (8, 19), (8, 20), (1, 20), (8, 21), (4, 8), (4, 9), (4, 10), (2, 11), (2, 12), (2, 13), (2, 8), (2, 9), (2, 10), (10, 7), (10, 8), (10, 9), (10, 10), (10, 11), (10, 12), (10, 13), (10, 14), (10, 15), (10, 16), (10, 17), (10, 18), (10, 19), (10, 20), (10, 21), (10, 22), (10, 23), (11, 0), (11, 1), (3, 21), (3, 22), (3, 23), (4, 0), (4, 2), (2, 6), (2, 7), (4, 3), (4, 4), (4, 5), (4, 6), (2, 5), (4, 7), (4, 18), (4, 19), (4, 20), (4, 21), (4, 22), (4, 23), (5, 0), (5, 1), (5, 2), (5, 3), (5, 4), (1, 12), (5, 5), (5, 6), (2, 18), (5, 7), (5, 8), (5, 9), (5, 10), (6, 3), (6, 4), (6, 5), (6, 6), (6, 7), (1, 21), (6, 8), (6, 9), (6, 10), (6, 11), (14, 8), (14, 9), (14, 10), (14, 11), (14, 12), (14, 13), (14, 14), (14, 15), (14, 16), (14, 17), (14, 18), (0, 15), (14, 19), (3, 2), (13, 4), (13, 5), (13, 6), (13, 7), (12, 5), (13, 8), (13, 9), (13, 10), (13, 11), (13, 12), (13, 13), (13, 14), (13, 15), (13, 16), (2, 19), (13, 17), (13, 18), (13, 19), (13, 20), (13, 21), (14, 20), (14, 21), (14, 22), (14, 23), (15, 0), (15, 1), (15, 2), (15, 3), (15, 4), (15, 5), (15, 6), (15, 7), (15, 8), (15, 9), (15, 10), (15, 11), (15, 12), (15, 13), (12, 6), (15, 14), (15, 15), (15, 16), (15, 17), (15, 18), (15, 19), (15, 20), (15, 21), (15, 22), (12, 0), (9, 3), (9, 4), (9, 5), (9, 6), (15, 23), (16, 0), (16, 1), (16, 2), (16, 3), (16, 4), (16, 5), (16, 6), (16, 7), (16, 8), (16, 9), (16, 10), (16, 11), (12, 7), (9, 12), (9, 13), (9, 14), (2, 3), (7, 18), (16, 12), (1, 23), (2, 0), (2, 1), (16, 13), (16, 14), (16, 15), (16, 16), (16, 17), (16, 18), (16, 19), (16, 20), (12, 8), (16, 21), (16, 22), (16, 23), (17, 0), (17, 1), (17, 2), (17, 3), (17, 4), (17, 5), (17, 6), (17, 7), (17, 8), (17, 9), (17, 10), (17, 11), (17, 12), (17, 13), (17, 14), (17, 15), (17, 16), (17, 17), (17, 18), (17, 19), (17, 20), (13, 3), (3, 1), (17, 21), (17, 22), (17, 23), (18, 0), (9, 7), (9, 8), (9, 9), (9, 10), (9, 2), (9, 11), (7, 7), (18, 1), (18, 2), (18, 3), (18, 4), (18, 5), (18, 6), (18, 7), (18, 8), (18, 9), (18, 10), (18, 11), (18, 12), (18, 13), (18, 14), (18, 15), (18, 16), (18, 17), (18, 18), (18, 19), (18, 20), (19, 0), (19, 1), (19, 2), (19, 3), (19, 4), (20, 0), (20, 1), (20, 2), (20, 3), (20, 4), (23, 0), (23, 1), (21, 0), (21, 1), (21, 2), (24, 0), (24, 1), (24, 2), (24, 3), (24, 4), (25, 0), (25, 1), (25, 2), (25, 3), (25, 4), (25, 5), (25, 6), (25, 7), (25, 8)] rfl
theorem dL_law_0 : decode cL_law 0 = .ok (.new 20, 3) := by decide +kernel
theorem dL_law_3 : decode cL_law 3 = .ok (.dup, 1) := by decide +kernel
theorem dL_law_4 : decode cL_law 4 = .ok (.invokespecial 86, 3) := by decide +kernel
theorem dL_law_7 : decode cL_law 7 = .ok (.astore_n 1, 1) := by decide +kernel
theorem dL_law_8 : decode cL_law 8 = .ok (.aload_n 1, 1) := by decide +kernel
theorem dL_law_9 : decode cL_law 9 = .ok (.iconst 5, 1) := by decide +kernel
theorem dL_law_10 : decode cL_law 10 = .ok (.invokestatic 87, 3) := by decide +kernel
theorem dL_law_13 : decode cL_law 13 = .ok (.ifCond .eq 16, 3) := by decide +kernel
theorem dL_law_16 : decode cL_law 16 = .ok (.aload_n 1, 1) := by decide +kernel
theorem dL_law_17 : decode cL_law 17 = .ok (.invokevirtual 91, 3) := by decide +kernel
theorem dL_law_20 : decode cL_law 20 = .ok (.bipush (-5), 2) := by decide +kernel
theorem dL_law_22 : decode cL_law 22 = .ok (.if_icmp .ne 7, 3) := by decide +kernel
theorem dL_law_25 : decode cL_law 25 = .ok (.iconst 1, 1) := by decide +kernel
theorem dL_law_26 : decode cL_law 26 = .ok (.goto 4, 3) := by decide +kernel
theorem dL_law_29 : decode cL_law 29 = .ok (.iconst 0, 1) := by decide +kernel
theorem dL_law_30 : decode cL_law 30 = .ok (.istore_n 2, 1) := by decide +kernel
theorem dL_law_31 : decode cL_law 31 = .ok (.aload_n 0, 1) := by decide +kernel
theorem dL_law_32 : decode cL_law 32 = .ok (.arraylength, 1) := by decide +kernel
theorem dL_law_33 : decode cL_law 33 = .ok (.iconst 2, 1) := by decide +kernel
theorem dL_law_34 : decode cL_law 34 = .ok (.idiv, 1) := by decide +kernel
theorem dL_law_35 : decode cL_law 35 = .ok (.bipush 40, 2) := by decide +kernel
theorem dL_law_37 : decode cL_law 37 = .ok (.if_icmp .le 8, 3) := by decide +kernel
theorem dL_law_40 : decode cL_law 40 = .ok (.bipush 40, 2) := by decide +kernel
theorem dL_law_42 : decode cL_law 42 = .ok (.goto 7, 3) := by decide +kernel
theorem dL_law_45 : decode cL_law 45 = .ok (.aload_n 0, 1) := by decide +kernel
theorem dL_law_46 : decode cL_law 46 = .ok (.arraylength, 1) := by decide +kernel
theorem dL_law_47 : decode cL_law 47 = .ok (.iconst 2, 1) := by decide +kernel
theorem dL_law_48 : decode cL_law 48 = .ok (.idiv, 1) := by decide +kernel
theorem dL_law_49 : decode cL_law 49 = .ok (.istore_n 3, 1) := by decide +kernel
theorem dL_law_50 : decode cL_law 50 = .ok (.iconst 0, 1) := by decide +kernel
theorem dL_law_51 : decode cL_law 51 = .ok (.istore 4, 2) := by decide +kernel
theorem dL_law_53 : decode cL_law 53 = .ok (.iload 4, 2) := by decide +kernel
theorem dL_law_55 : decode cL_law 55 = .ok (.iload_n 3, 1) := by decide +kernel
theorem dL_law_56 : decode cL_law 56 = .ok (.if_icmp .ge 212, 3) := by decide +kernel
theorem dL_law_59 : decode cL_law 59 = .ok (.iload_n 2, 1) := by decide +kernel
theorem dL_law_60 : decode cL_law 60 = .ok (.ifCond .eq 208, 3) := by decide +kernel
theorem dL_law_63 : decode cL_law 63 = .ok (.aload_n 1, 1) := by decide +kernel
theorem dL_law_64 : decode cL_law 64 = .ok (.bipush 10, 2) := by decide +kernel
theorem dL_law_66 : decode cL_law 66 = .ok (.invokevirtual 19, 3) := by decide +kernel
theorem dL_law_69 : decode cL_law 69 = .ok (.istore 5, 2) := by decide +kernel
theorem dL_law_71 : decode cL_law 71 = .ok (.aload_n 1, 1) := by decide +kernel
theorem dL_law_72 : decode cL_law 72 = .ok (.iconst 0, 1) := by decide +kernel
theorem dL_law_73 : decode cL_law 73 = .ok (.invokevirtual 19, 3) := by decide +kernel
theorem dL_law_76 : decode cL_law 76 = .ok (.istore 6, 2) := by decide +kernel
theorem dL_law_78 : decode cL_law 78 = .ok (.aload_n 1, 1) := by decide +kernel
theorem dL_law_79 : decode cL_law 79 = .ok (.iconst 4, 1) := by decide +kernel
theorem dL_law_80 : decode cL_law 80 = .ok (.invokevirtual 19, 3) := by decide +kernel
theorem dL_law_83 : decode cL_law 83 = .ok (.istore 7, 2) := by decide +kernel
theorem dL_law_85 : decode cL_law 85 = .ok (.aload_n 1, 1) := by decide +kernel
theorem dL_law_86 : decode cL_law 86 = .ok (.aload_n 0, 1) := by decide +kernel
theorem dL_law_87 : decode cL_law 87 = .ok (.iconst 2, 1) := by decide +kernel
theorem dL_law_88 : decode cL_law 88 = .ok (.iload 4, 2) := by decide +kernel
theorem dL_law_90 : decode cL_law 90 = .ok (.imul, 1) := by decide +kernel
theorem dL_law_91 : decode cL_law 91 = .ok (.invokestatic 94, 3) := by decide +kernel
theorem dL_law_94 : decode cL_law 94 = .ok (.aload_n 0, 1) := by decide +kernel
theorem dL_law_95 : decode cL_law 95 = .ok (.iconst 2, 1) := by decide +kernel
theorem dL_law_96 : decode cL_law 96 = .ok (.iload 4, 2) := by decide +kernel
theorem dL_law_98 : decode cL_law 98 = .ok (.imul, 1) := by decide +kernel
theorem dL_law_99 : decode cL_law 99 = .ok (.iconst 1, 1) := by decide +kernel
theorem dL_law_100 : decode cL_law 100 = .ok (.iadd, 1) := by decide +kernel
theorem dL_law_101 : decode cL_law 101 = .ok (.invokestatic 94, 3) := by decide +kernel
theorem dL_law_104 : decode cL_law 104 = .ok (.invokestatic 97, 3) := by decide +kernel
theorem dL_law_107 : decode cL_law 107 = .ok (.ifCond .eq 24, 3) := by decide +kernel
theorem dL_law_110 : decode cL_law 110 = .ok (.aload_n 1, 1) := by decide +kernel
theorem dL_law_111 : decode cL_law 111 = .ok (.aload_n 0, 1) := by decide +kernel
theorem dL_law_112 : decode cL_law 112 = .ok (.iconst 2, 1) := by decide +kernel
theorem dL_law_113 : decode cL_law 113 = .ok (.iload 4, 2) := by decide +kernel
theorem dL_law_115 : decode cL_law 115 = .ok (.imul, 1) := by decide +kernel
theorem dL_law_116 : decode cL_law 116 = .ok (.iconst 1, 1) := by decide +kernel
theorem dL_law_117 : decode cL_law 117 = .ok (.iadd, 1) := by decide +kernel
theorem dL_law_118 : decode cL_law 118 = .ok (.invokestatic 94, 3) := by decide +kernel
theorem dL_law_121 : decode cL_law 121 = .ok (.invokestatic 87, 3) := by decide +kernel
theorem dL_law_124 : decode cL_law 124 = .ok (.ifCond .eq 7, 3) := by decide +kernel
theorem dL_law_127 : decode cL_law 127 = .ok (.iconst 1, 1) := by decide +kernel
theorem dL_law_128 : decode cL_law 128 = .ok (.goto 4, 3) := by decide +kernel
theorem dL_law_131 : decode cL_law 131 = .ok (.iconst 0, 1) := by decide +kernel
theorem dL_law_132 : decode cL_law 132 = .ok (.istore_n 2, 1) := by decide +kernel
theorem dL_law_133 : decode cL_law 133 = .ok (.aload_n 1, 1) := by decide +kernel
theorem dL_law_134 : decode cL_law 134 = .ok (.iconst 0, 1) := by decide +kernel
theorem dL_law_135 : decode cL_law 135 = .ok (.invokevirtual 19, 3) := by decide +kernel
theorem dL_law_138 : decode cL_law 138 = .ok (.iload 6, 2) := by decide +kernel
theorem dL_law_140 : decode cL_law 140 = .ok (.if_icmp .le 7, 3) := by decide +kernel
theorem dL_law_143 : decode cL_law 143 = .ok (.iconst 1, 1) := by decide +kernel
theorem dL_law_144 : decode cL_law 144 = .ok (.goto 4, 3) := by decide +kernel
theorem dL_law_147 : decode cL_law 147 = .ok (.iconst 0, 1) := by decide +kernel
theorem dL_law_148 : decode cL_law 148 = .ok (.istore 8, 2) := by decide +kernel
theorem dL_law_150 : decode cL_law 150 = .ok (.iload_n 2, 1) := by decide +kernel
theorem dL_law_151 : decode cL_law 151 = .ok (.ifCond .eq 42, 3) := by decide +kernel
theorem dL_law_154 : decode cL_law 154 = .ok (.aload_n 1, 1) := by decide +kernel
theorem dL_law_155 : decode cL_law 155 = .ok (.bipush 10, 2) := by decide +kernel
theorem dL_law_157 : decode cL_law 157 = .ok (.invokevirtual 19, 3) := by decide +kernel
theorem dL_law_160 : decode cL_law 160 = .ok (.iload 8, 2) := by decide +kernel
theorem dL_law_162 : decode cL_law 162 = .ok (.ifCond .ne 8, 3) := by decide +kernel
theorem dL_law_165 : decode cL_law 165 = .ok (.iload 5, 2) := by decide +kernel
theorem dL_law_167 : decode cL_law 167 = .ok (.goto 19, 3) := by decide +kernel
theorem dL_law_170 : decode cL_law 170 = .ok (.iload 5, 2) := by decide +kernel
theorem dL_law_172 : decode cL_law 172 = .ok (.bipush 6, 2) := by decide +kernel
theorem dL_law_174 : decode cL_law 174 = .ok (.if_icmp .ne 8, 3) := by decide +kernel
theorem dL_law_177 : decode cL_law 177 = .ok (.bipush 6, 2) := by decide +kernel
theorem dL_law_179 : decode cL_law 179 = .ok (.goto 7, 3) := by decide +kernel
theorem dL_law_182 : decode cL_law 182 = .ok (.iload 5, 2) := by decide +kernel
theorem dL_law_184 : decode cL_law 184 = .ok (.iconst 1, 1) := by decide +kernel
theorem dL_law_185 : decode cL_law 185 = .ok (.iadd, 1) := by decide +kernel
theorem dL_law_186 : decode cL_law 186 = .ok (.if_icmp .ne 7, 3) := by decide +kernel
theorem dL_law_189 : decode cL_law 189 = .ok (.iconst 1, 1) := by decide +kernel
theorem dL_law_190 : decode cL_law 190 = .ok (.goto 4, 3) := by decide +kernel
theorem dL_law_193 : decode cL_law 193 = .ok (.iconst 0, 1) := by decide +kernel
theorem dL_law_194 : decode cL_law 194 = .ok (.istore_n 2, 1) := by decide +kernel
theorem dL_law_195 : decode cL_law 195 = .ok (.iload_n 2, 1) := by decide +kernel
theorem dL_law_196 : decode cL_law 196 = .ok (.ifCond .eq 66, 3) := by decide +kernel
theorem dL_law_199 : decode cL_law 199 = .ok (.iload 8, 2) := by decide +kernel
theorem dL_law_201 : decode cL_law 201 = .ok (.ifCond .eq 61, 3) := by decide +kernel
theorem dL_law_204 : decode cL_law 204 = .ok (.iload 4, 2) := by decide +kernel
theorem dL_law_206 : decode cL_law 206 = .ok (.bipush 7, 2) := by decide +kernel
theorem dL_law_208 : decode cL_law 208 = .ok (.irem, 1) := by decide +kernel
theorem dL_law_209 : decode cL_law 209 = .ok (.bipush 6, 2) := by decide +kernel
theorem dL_law_211 : decode cL_law 211 = .ok (.if_icmp .ne 51, 3) := by decide +kernel
theorem dL_law_214 : decode cL_law 214 = .ok (.aload_n 1, 1) := by decide +kernel
theorem dL_law_215 : decode cL_law 215 = .ok (.invokevirtual 91, 3) := by decide +kernel
theorem dL_law_218 : decode cL_law 218 = .ok (.ifCond .lt 42, 3) := by decide +kernel
theorem dL_law_221 : decode cL_law 221 = .ok (.aload_n 1, 1) := by decide +kernel
theorem dL_law_222 : decode cL_law 222 = .ok (.iconst 0, 1) := by decide +kernel
theorem dL_law_223 : decode cL_law 223 = .ok (.invokevirtual 19, 3) := by decide +kernel
theorem dL_law_226 : decode cL_law 226 = .ok (.iload 6, 2) := by decide +kernel
theorem dL_law_228 : decode cL_law 228 = .ok (.if_icmp .ne 32, 3) := by decide +kernel
theorem dL_law_231 : decode cL_law 231 = .ok (.aload_n 1, 1) := by decide +kernel
theorem dL_law_232 : decode cL_law 232 = .ok (.iconst 4, 1) := by decide +kernel
theorem dL_law_233 : decode cL_law 233 = .ok (.invokevirtual 19, 3) := by decide +kernel
theorem dL_law_236 : decode cL_law 236 = .ok (.iload 7, 2) := by decide +kernel
theorem dL_law_238 : decode cL_law 238 = .ok (.if_icmp .ne 22, 3) := by decide +kernel
theorem dL_law_241 : decode cL_law 241 = .ok (.aload_n 1, 1) := by decide +kernel
theorem dL_law_242 : decode cL_law 242 = .ok (.aload_n 0, 1) := by decide +kernel
theorem dL_law_243 : decode cL_law 243 = .ok (.iconst 2, 1) := by decide +kernel
theorem dL_law_244 : decode cL_law 244 = .ok (.iload 4, 2) := by decide +kernel
theorem dL_law_246 : decode cL_law 246 = .ok (.imul, 1) := by decide +kernel
theorem dL_law_247 : decode cL_law 247 = .ok (.invokestatic 94, 3) := by decide +kernel
theorem dL_law_250 : decode cL_law 250 = .ok (.invokestatic 87, 3) := by decide +kernel
theorem dL_law_253 : decode cL_law 253 = .ok (.ifCond .eq 7, 3) := by decide +kernel
theorem dL_law_256 : decode cL_law 256 = .ok (.iconst 1, 1) := by decide +kernel
theorem dL_law_257 : decode cL_law 257 = .ok (.goto 4, 3) := by decide +kernel
theorem dL_law_260 : decode cL_law 260 = .ok (.iconst 0, 1) := by decide +kernel
theorem dL_law_261 : decode cL_law 261 = .ok (.istore_n 2, 1) := by decide +kernel
theorem dL_law_262 : decode cL_law 262 = .ok (.iinc 4 1, 3) := by decide +kernel
theorem dL_law_265 : decode cL_law 265 = .ok (.goto (-212), 3) := by decide +kernel
theorem dL_law_268 : decode cL_law 268 = .ok (.iload_n 2, 1) := by decide +kernel
theorem dL_law_269 : decode cL_law 269 = .ok (.ireturn, 1) := by decide +kernel
