theorem dL_agree_149 : decode cL_agree 149 = .ok (.iload 18, 2) := by decide +kernel
theorem dL_agree_151 : decode cL_agree 151 = .ok (.isub, 1) := by decide +kernel
theorem dL_agree_152 : decode cL_agree 152 = .ok (.goto 5, 3) := by decide +kernel
theorem dL_agree_155 : decode cL_agree 155 = .ok (.iload 18, 2) := by decide +kernel
theorem dL_agree_157 : decode cL_agree 157 = .ok (.if_icmp .eq 5, 3) := by decide +kernel
theorem dL_agree_160 : decode cL_agree 160 = .ok (.iconst 0, 1) := by decide +kernel
theorem dL_agree_161 : decode cL_agree 161 = .ok (.ireturn, 1) := by decide +kernel
theorem dL_agree_162 : decode cL_agree 162 = .ok (.aload_n 0, 1) := by decide +kernel
theorem dL_agree_163 : decode cL_agree 163 = .ok (.iload 17, 2) := by decide +kernel
theorem dL_agree_165 : decode cL_agree 165 = .ok (.bipush 6, 2) := by decide +kernel
theorem dL_agree_167 : decode cL_agree 167 = .ok (.invokevirtual 70, 3) := by decide +kernel
theorem dL_agree_170 : decode cL_agree 170 = .ok (.aload 8, 2) := by decide +kernel
theorem dL_agree_172 : decode cL_agree 172 = .ok (.iconst 5, 1) := by decide +kernel
theorem dL_agree_173 : decode cL_agree 173 = .ok (.iload 17, 2) := by decide +kernel
theorem dL_agree_175 : decode cL_agree 175 = .ok (.imul, 1) := by decide +kernel
theorem dL_agree_176 : decode cL_agree 176 = .ok (.iaload, 1) := by decide +kernel
theorem dL_agree_177 : decode cL_agree 177 = .ok (.if_icmp .ne 83, 3) := by decide +kernel
theorem dL_agree_180 : decode cL_agree 180 = .ok (.aload_n 0, 1) := by decide +kernel
theorem dL_agree_181 : decode cL_agree 181 = .ok (.iload 17, 2) := by decide +kernel
theorem dL_agree_183 : decode cL_agree 183 = .ok (.bipush 7, 2) := by decide +kernel
theorem dL_agree_185 : decode cL_agree 185 = .ok (.invokevirtual 70, 3) := by decide +kernel
theorem dL_agree_188 : decode cL_agree 188 = .ok (.aload 8, 2) := by decide +kernel
theorem dL_agree_190 : decode cL_agree 190 = .ok (.iconst 5, 1) := by decide +kernel
theorem dL_agree_191 : decode cL_agree 191 = .ok (.iload 17, 2) := by decide +kernel
theorem dL_agree_193 : decode cL_agree 193 = .ok (.imul, 1) := by decide +kernel
theorem dL_agree_194 : decode cL_agree 194 = .ok (.iconst 1, 1) := by decide +kernel
theorem dL_agree_195 : decode cL_agree 195 = .ok (.iadd, 1) := by decide +kernel
theorem dL_agree_196 : decode cL_agree 196 = .ok (.iaload, 1) := by decide +kernel
theorem dL_agree_197 : decode cL_agree 197 = .ok (.if_icmp .ne 63, 3) := by decide +kernel
theorem dL_agree_200 : decode cL_agree 200 = .ok (.aload_n 0, 1) := by decide +kernel
theorem dL_agree_201 : decode cL_agree 201 = .ok (.iload 17, 2) := by decide +kernel
theorem dL_agree_203 : decode cL_agree 203 = .ok (.bipush 8, 2) := by decide +kernel
theorem dL_agree_205 : decode cL_agree 205 = .ok (.invokevirtual 70, 3) := by decide +kernel
theorem dL_agree_208 : decode cL_agree 208 = .ok (.aload 8, 2) := by decide +kernel
theorem dL_agree_210 : decode cL_agree 210 = .ok (.iconst 5, 1) := by decide +kernel
theorem dL_agree_211 : decode cL_agree 211 = .ok (.iload 17, 2) := by decide +kernel
theorem dL_agree_213 : decode cL_agree 213 = .ok (.imul, 1) := by decide +kernel
theorem dL_agree_214 : decode cL_agree 214 = .ok (.iconst 2, 1) := by decide +kernel
theorem dL_agree_215 : decode cL_agree 215 = .ok (.iadd, 1) := by decide +kernel
theorem dL_agree_216 : decode cL_agree 216 = .ok (.iaload, 1) := by decide +kernel
theorem dL_agree_217 : decode cL_agree 217 = .ok (.if_icmp .ne 43, 3) := by decide +kernel
theorem dL_agree_220 : decode cL_agree 220 = .ok (.aload_n 0, 1) := by decide +kernel
theorem dL_agree_221 : decode cL_agree 221 = .ok (.iload 17, 2) := by decide +kernel
theorem dL_agree_223 : decode cL_agree 223 = .ok (.bipush 10, 2) := by decide +kernel
theorem dL_agree_225 : decode cL_agree 225 = .ok (.invokevirtual 70, 3) := by decide +kernel
theorem dL_agree_228 : decode cL_agree 228 = .ok (.aload 8, 2) := by decide +kernel
theorem dL_agree_230 : decode cL_agree 230 = .ok (.iconst 5, 1) := by decide +kernel
theorem dL_agree_231 : decode cL_agree 231 = .ok (.iload 17, 2) := by decide +kernel
theorem dL_agree_233 : decode cL_agree 233 = .ok (.imul, 1) := by decide +kernel
theorem dL_agree_234 : decode cL_agree 234 = .ok (.iconst 3, 1) := by decide +kernel
theorem dL_agree_235 : decode cL_agree 235 = .ok (.iadd, 1) := by decide +kernel
theorem dL_agree_236 : decode cL_agree 236 = .ok (.iaload, 1) := by decide +kernel
theorem dL_agree_237 : decode cL_agree 237 = .ok (.if_icmp .ne 23, 3) := by decide +kernel
theorem dL_agree_240 : decode cL_agree 240 = .ok (.aload_n 0, 1) := by decide +kernel
theorem dL_agree_241 : decode cL_agree 241 = .ok (.iload 17, 2) := by decide +kernel
theorem dL_agree_243 : decode cL_agree 243 = .ok (.bipush 11, 2) := by decide +kernel
theorem dL_agree_245 : decode cL_agree 245 = .ok (.invokevirtual 70, 3) := by decide +kernel
theorem dL_agree_248 : decode cL_agree 248 = .ok (.aload 8, 2) := by decide +kernel
theorem dL_agree_250 : decode cL_agree 250 = .ok (.iconst 5, 1) := by decide +kernel
theorem dL_agree_251 : decode cL_agree 251 = .ok (.iload 17, 2) := by decide +kernel
theorem dL_agree_253 : decode cL_agree 253 = .ok (.imul, 1) := by decide +kernel
theorem dL_agree_254 : decode cL_agree 254 = .ok (.iconst 4, 1) := by decide +kernel
theorem dL_agree_255 : decode cL_agree 255 = .ok (.iadd, 1) := by decide +kernel
theorem dL_agree_256 : decode cL_agree 256 = .ok (.iaload, 1) := by decide +kernel
theorem dL_agree_257 : decode cL_agree 257 = .ok (.if_icmp .eq 5, 3) := by decide +kernel
theorem dL_agree_260 : decode cL_agree 260 = .ok (.iconst 0, 1) := by decide +kernel
theorem dL_agree_261 : decode cL_agree 261 = .ok (.ireturn, 1) := by decide +kernel
theorem dL_agree_262 : decode cL_agree 262 = .ok (.iconst 0, 1) := by decide +kernel
theorem dL_agree_263 : decode cL_agree 263 = .ok (.istore 19, 2) := by decide +kernel
theorem dL_agree_265 : decode cL_agree 265 = .ok (.iload 19, 2) := by decide +kernel
theorem dL_agree_267 : decode cL_agree 267 = .ok (.bipush 24, 2) := by decide +kernel
theorem dL_agree_269 : decode cL_agree 269 = .ok (.if_icmp .ge 55, 3) := by decide +kernel
theorem dL_agree_272 : decode cL_agree 272 = .ok (.aload 9, 2) := by decide +kernel
theorem dL_agree_274 : decode cL_agree 274 = .ok (.aload 10, 2) := by decide +kernel
theorem dL_agree_276 : decode cL_agree 276 = .ok (.iload 17, 2) := by decide +kernel
theorem dL_agree_278 : decode cL_agree 278 = .ok (.iload 19, 2) := by decide +kernel
theorem dL_agree_280 : decode cL_agree 280 = .ok (.invokestatic 14, 3) := by decide +kernel
theorem dL_agree_283 : decode cL_agree 283 = .ok (.istore 20, 2) := by decide +kernel
theorem dL_agree_285 : decode cL_agree 285 = .ok (.aload_n 0, 1) := by decide +kernel
theorem dL_agree_286 : decode cL_agree 286 = .ok (.iload 17, 2) := by decide +kernel
theorem dL_agree_288 : decode cL_agree 288 = .ok (.iload 19, 2) := by decide +kernel
theorem dL_agree_290 : decode cL_agree 290 = .ok (.invokevirtual 73, 3) := by decide +kernel
theorem dL_agree_293 : decode cL_agree 293 = .ok (.iload 20, 2) := by decide +kernel
theorem dL_agree_295 : decode cL_agree 295 = .ok (.if_icmp .eq 5, 3) := by decide +kernel
theorem dL_agree_298 : decode cL_agree 298 = .ok (.iconst 0, 1) := by decide +kernel
theorem dL_agree_299 : decode cL_agree 299 = .ok (.ireturn, 1) := by decide +kernel
theorem dL_agree_300 : decode cL_agree 300 = .ok (.iload 11, 2) := by decide +kernel
theorem dL_agree_302 : decode cL_agree 302 = .ok (.iload 20, 2) := by decide +kernel
theorem dL_agree_304 : decode cL_agree 304 = .ok (.iadd, 1) := by decide +kernel
theorem dL_agree_305 : decode cL_agree 305 = .ok (.istore 11, 2) := by decide +kernel
theorem dL_agree_307 : decode cL_agree 307 = .ok (.iload 20, 2) := by decide +kernel
theorem dL_agree_309 : decode cL_agree 309 = .ok (.aload_n 1, 1) := by decide +kernel
theorem dL_agree_310 : decode cL_agree 310 = .ok (.iconst 5, 1) := by decide +kernel
theorem dL_agree_311 : decode cL_agree 311 = .ok (.iaload, 1) := by decide +kernel
theorem dL_agree_312 : decode cL_agree 312 = .ok (.if_icmp .lt 6, 3) := by decide +kernel
theorem dL_agree_315 : decode cL_agree 315 = .ok (.iinc 12 1, 3) := by decide +kernel
theorem dL_agree_318 : decode cL_agree 318 = .ok (.iinc 19 1, 3) := by decide +kernel
theorem dL_agree_321 : decode cL_agree 321 = .ok (.goto (-56), 3) := by decide +kernel
theorem dL_agree_324 : decode cL_agree 324 = .ok (.aload_n 2, 1) := by decide +kernel
theorem dL_agree_325 : decode cL_agree 325 = .ok (.iload 17, 2) := by decide +kernel
theorem dL_agree_327 : decode cL_agree 327 = .ok (.iaload, 1) := by decide +kernel
theorem dL_agree_328 : decode cL_agree 328 = .ok (.aload_n 3, 1) := by decide +kernel
theorem dL_agree_329 : decode cL_agree 329 = .ok (.iload 17, 2) := by decide +kernel
theorem dL_agree_331 : decode cL_agree 331 = .ok (.iaload, 1) := by decide +kernel
theorem dL_agree_332 : decode cL_agree 332 = .ok (.if_icmp .ne 6, 3) := by decide +kernel
theorem dL_agree_335 : decode cL_agree 335 = .ok (.iinc 13 1, 3) := by decide +kernel
theorem dL_agree_338 : decode cL_agree 338 = .ok (.iload 14, 2) := by decide +kernel
theorem dL_agree_340 : decode cL_agree 340 = .ok (.aload 8, 2) := by decide +kernel
theorem dL_agree_342 : decode cL_agree 342 = .ok (.iconst 5, 1) := by decide +kernel
theorem dL_agree_343 : decode cL_agree 343 = .ok (.iload 17, 2) := by decide +kernel
theorem dL_agree_345 : decode cL_agree 345 = .ok (.imul, 1) := by decide +kernel
theorem dL_agree_346 : decode cL_agree 346 = .ok (.iaload, 1) := by decide +kernel
theorem dL_agree_347 : decode cL_agree 347 = .ok (.iadd, 1) := by decide +kernel
theorem dL_agree_348 : decode cL_agree 348 = .ok (.istore 14, 2) := by decide +kernel
theorem dL_agree_350 : decode cL_agree 350 = .ok (.iload 16, 2) := by decide +kernel
theorem dL_agree_352 : decode cL_agree 352 = .ok (.aload 8, 2) := by decide +kernel
theorem dL_agree_354 : decode cL_agree 354 = .ok (.iconst 5, 1) := by decide +kernel
theorem dL_agree_355 : decode cL_agree 355 = .ok (.iload 17, 2) := by decide +kernel
theorem dL_agree_357 : decode cL_agree 357 = .ok (.imul, 1) := by decide +kernel
theorem dL_agree_358 : decode cL_agree 358 = .ok (.iconst 1, 1) := by decide +kernel
theorem dL_agree_359 : decode cL_agree 359 = .ok (.iadd, 1) := by decide +kernel
theorem dL_agree_360 : decode cL_agree 360 = .ok (.iaload, 1) := by decide +kernel
theorem dL_agree_361 : decode cL_agree 361 = .ok (.iadd, 1) := by decide +kernel
theorem dL_agree_362 : decode cL_agree 362 = .ok (.istore 16, 2) := by decide +kernel
theorem dL_agree_364 : decode cL_agree 364 = .ok (.iload 15, 2) := by decide +kernel
theorem dL_agree_366 : decode cL_agree 366 = .ok (.aload 8, 2) := by decide +kernel
theorem dL_agree_368 : decode cL_agree 368 = .ok (.iconst 5, 1) := by decide +kernel
theorem dL_agree_369 : decode cL_agree 369 = .ok (.iload 17, 2) := by decide +kernel
theorem dL_agree_371 : decode cL_agree 371 = .ok (.imul, 1) := by decide +kernel
theorem dL_agree_372 : decode cL_agree 372 = .ok (.iconst 2, 1) := by decide +kernel
theorem dL_agree_373 : decode cL_agree 373 = .ok (.iadd, 1) := by decide +kernel
theorem dL_agree_374 : decode cL_agree 374 = .ok (.iaload, 1) := by decide +kernel
theorem dL_agree_375 : decode cL_agree 375 = .ok (.iadd, 1) := by decide +kernel
theorem dL_agree_376 : decode cL_agree 376 = .ok (.istore 15, 2) := by decide +kernel
theorem dL_agree_378 : decode cL_agree 378 = .ok (.iinc 17 1, 3) := by decide +kernel
theorem dL_agree_381 : decode cL_agree 381 = .ok (.goto (-360), 3) := by decide +kernel
theorem dL_agree_384 : decode cL_agree 384 = .ok (.aload_n 0, 1) := by decide +kernel
theorem dL_agree_385 : decode cL_agree 385 = .ok (.iconst 0, 1) := by decide +kernel
theorem dL_agree_386 : decode cL_agree 386 = .ok (.invokevirtual 75, 3) := by decide +kernel
theorem dL_agree_389 : decode cL_agree 389 = .ok (.aload_n 1, 1) := by decide +kernel
theorem dL_agree_390 : decode cL_agree 390 = .ok (.iconst 0, 1) := by decide +kernel
theorem dL_agree_391 : decode cL_agree 391 = .ok (.iaload, 1) := by decide +kernel
theorem dL_agree_392 : decode cL_agree 392 = .ok (.if_icmp .ne 92, 3) := by decide +kernel
theorem dL_agree_395 : decode cL_agree 395 = .ok (.aload_n 0, 1) := by decide +kernel
theorem dL_agree_396 : decode cL_agree 396 = .ok (.iconst 1, 1) := by decide +kernel
theorem dL_agree_397 : decode cL_agree 397 = .ok (.invokevirtual 75, 3) := by decide +kernel
theorem dL_agree_400 : decode cL_agree 400 = .ok (.iload 14, 2) := by decide +kernel
theorem dL_agree_402 : decode cL_agree 402 = .ok (.if_icmp .ne 82, 3) := by decide +kernel
theorem dL_agree_405 : decode cL_agree 405 = .ok (.aload_n 0, 1) := by decide +kernel
theorem dL_agree_406 : decode cL_agree 406 = .ok (.iconst 2, 1) := by decide +kernel
theorem dL_agree_407 : decode cL_agree 407 = .ok (.invokevirtual 75, 3) := by decide +kernel
theorem dL_agree_410 : decode cL_agree 410 = .ok (.iload 15, 2) := by decide +kernel
theorem dL_agree_412 : decode cL_agree 412 = .ok (.if_icmp .ne 72, 3) := by decide +kernel
theorem dL_agree_415 : decode cL_agree 415 = .ok (.aload_n 0, 1) := by decide +kernel
theorem dL_agree_416 : decode cL_agree 416 = .ok (.iconst 3, 1) := by decide +kernel
theorem dL_agree_417 : decode cL_agree 417 = .ok (.invokevirtual 75, 3) := by decide +kernel
theorem dL_agree_420 : decode cL_agree 420 = .ok (.iload 16, 2) := by decide +kernel
theorem dL_agree_422 : decode cL_agree 422 = .ok (.if_icmp .ne 62, 3) := by decide +kernel
theorem dL_agree_425 : decode cL_agree 425 = .ok (.aload_n 0, 1) := by decide +kernel
theorem dL_agree_426 : decode cL_agree 426 = .ok (.iconst 4, 1) := by decide +kernel
theorem dL_agree_427 : decode cL_agree 427 = .ok (.invokevirtual 75, 3) := by decide +kernel
theorem dL_agree_430 : decode cL_agree 430 = .ok (.aload_n 1, 1) := by decide +kernel
theorem dL_agree_431 : decode cL_agree 431 = .ok (.iconst 1, 1) := by decide +kernel
theorem dL_agree_432 : decode cL_agree 432 = .ok (.iaload, 1) := by decide +kernel
theorem dL_agree_433 : decode cL_agree 433 = .ok (.if_icmp .ne 51, 3) := by decide +kernel
theorem dL_agree_436 : decode cL_agree 436 = .ok (.aload_n 0, 1) := by decide +kernel
theorem dL_agree_437 : decode cL_agree 437 = .ok (.iconst 5, 1) := by decide +kernel
theorem dL_agree_438 : decode cL_agree 438 = .ok (.invokevirtual 75, 3) := by decide +kernel
theorem dL_agree_441 : decode cL_agree 441 = .ok (.iload 11, 2) := by decide +kernel
theorem dL_agree_443 : decode cL_agree 443 = .ok (.if_icmp .ne 41, 3) := by decide +kernel
theorem dL_agree_446 : decode cL_agree 446 = .ok (.aload_n 0, 1) := by decide +kernel
theorem dL_agree_447 : decode cL_agree 447 = .ok (.bipush 6, 2) := by decide +kernel
theorem dL_agree_449 : decode cL_agree 449 = .ok (.invokevirtual 75, 3) := by decide +kernel
theorem dL_agree_452 : decode cL_agree 452 = .ok (.iload 12, 2) := by decide +kernel
theorem dL_agree_454 : decode cL_agree 454 = .ok (.if_icmp .ne 30, 3) := by decide +kernel
theorem dL_agree_457 : decode cL_agree 457 = .ok (.aload_n 0, 1) := by decide +kernel
theorem dL_agree_458 : decode cL_agree 458 = .ok (.bipush 7, 2) := by decide +kernel
theorem dL_agree_460 : decode cL_agree 460 = .ok (.invokevirtual 75, 3) := by decide +kernel
theorem dL_agree_463 : decode cL_agree 463 = .ok (.iload 13, 2) := by decide +kernel
theorem dL_agree_465 : decode cL_agree 465 = .ok (.if_icmp .ne 19, 3) := by decide +kernel
theorem dL_agree_468 : decode cL_agree 468 = .ok (.aload_n 0, 1) := by decide +kernel
theorem dL_agree_469 : decode cL_agree 469 = .ok (.bipush 8, 2) := by decide +kernel
theorem dL_agree_471 : decode cL_agree 471 = .ok (.invokevirtual 75, 3) := by decide +kernel
theorem dL_agree_474 : decode cL_agree 474 = .ok (.aload_n 1, 1) := by decide +kernel
theorem dL_agree_475 : decode cL_agree 475 = .ok (.iconst 2, 1) := by decide +kernel
theorem dL_agree_476 : decode cL_agree 476 = .ok (.iaload, 1) := by decide +kernel
theorem dL_agree_477 : decode cL_agree 477 = .ok (.if_icmp .ne 7, 3) := by decide +kernel
theorem dL_agree_480 : decode cL_agree 480 = .ok (.iconst 1, 1) := by decide +kernel
theorem dL_agree_481 : decode cL_agree 481 = .ok (.goto 4, 3) := by decide +kernel
theorem dL_agree_484 : decode cL_agree 484 = .ok (.iconst 0, 1) := by decide +kernel
theorem dL_agree_485 : decode cL_agree 485 = .ok (.ireturn, 1) := by decide +kernel
theorem dL_law_0 : decode cL_law 0 = .ok (.new 37, 3) := by decide +kernel
theorem dL_law_3 : decode cL_law 3 = .ok (.dup, 1) := by decide +kernel
theorem dL_law_4 : decode cL_law 4 = .ok (.invokespecial 78, 3) := by decide +kernel
theorem dL_law_7 : decode cL_law 7 = .ok (.astore_n 1, 1) := by decide +kernel
theorem dL_law_8 : decode cL_law 8 = .ok (.bipush 9, 2) := by decide +kernel
theorem dL_law_10 : decode cL_law 10 = .ok (.newarray .int, 2) := by decide +kernel
theorem dL_law_12 : decode cL_law 12 = .ok (.astore_n 2, 1) := by decide +kernel
theorem dL_law_13 : decode cL_law 13 = .ok (.iconst 4, 1) := by decide +kernel
theorem dL_law_14 : decode cL_law 14 = .ok (.newarray .int, 2) := by decide +kernel
theorem dL_law_16 : decode cL_law 16 = .ok (.astore_n 3, 1) := by decide +kernel
theorem dL_law_17 : decode cL_law 17 = .ok (.iconst 4, 1) := by decide +kernel
theorem dL_law_18 : decode cL_law 18 = .ok (.newarray .int, 2) := by decide +kernel
theorem dL_law_20 : decode cL_law 20 = .ok (.astore 4, 2) := by decide +kernel
theorem dL_law_22 : decode cL_law 22 = .ok (.iconst 4, 1) := by decide +kernel
theorem dL_law_23 : decode cL_law 23 = .ok (.newarray .int, 2) := by decide +kernel
theorem dL_law_25 : decode cL_law 25 = .ok (.astore 5, 2) := by decide +kernel
theorem dL_law_27 : decode cL_law 27 = .ok (.iconst 4, 1) := by decide +kernel
theorem dL_law_28 : decode cL_law 28 = .ok (.newarray .int, 2) := by decide +kernel
theorem dL_law_30 : decode cL_law 30 = .ok (.astore 6, 2) := by decide +kernel
theorem dL_law_32 : decode cL_law 32 = .ok (.iconst 4, 1) := by decide +kernel
theorem dL_law_33 : decode cL_law 33 = .ok (.newarray .int, 2) := by decide +kernel
theorem dL_law_35 : decode cL_law 35 = .ok (.astore 7, 2) := by decide +kernel
theorem dL_law_37 : decode cL_law 37 = .ok (.iconst 4, 1) := by decide +kernel
theorem dL_law_38 : decode cL_law 38 = .ok (.newarray .int, 2) := by decide +kernel
theorem dL_law_40 : decode cL_law 40 = .ok (.astore 8, 2) := by decide +kernel
theorem dL_law_42 : decode cL_law 42 = .ok (.bipush 20, 2) := by decide +kernel
theorem dL_law_44 : decode cL_law 44 = .ok (.newarray .int, 2) := by decide +kernel
theorem dL_law_46 : decode cL_law 46 = .ok (.astore 9, 2) := by decide +kernel
theorem dL_law_48 : decode cL_law 48 = .ok (.bipush 48, 2) := by decide +kernel
theorem dL_law_50 : decode cL_law 50 = .ok (.newarray .int, 2) := by decide +kernel
theorem dL_law_52 : decode cL_law 52 = .ok (.astore 10, 2) := by decide +kernel
theorem dL_law_54 : decode cL_law 54 = .ok (.bipush 48, 2) := by decide +kernel
theorem dL_law_56 : decode cL_law 56 = .ok (.newarray .int, 2) := by decide +kernel
theorem dL_law_58 : decode cL_law 58 = .ok (.astore 11, 2) := by decide +kernel
theorem dL_law_60 : decode cL_law 60 = .ok (.aload_n 2, 1) := by decide +kernel
theorem dL_law_61 : decode cL_law 61 = .ok (.iconst 0, 1) := by decide +kernel
theorem dL_law_62 : decode cL_law 62 = .ok (.sipush 1000, 3) := by decide +kernel
theorem dL_law_65 : decode cL_law 65 = .ok (.iastore, 1) := by decide +kernel
theorem dL_law_66 : decode cL_law 66 = .ok (.aload_n 2, 1) := by decide +kernel
theorem dL_law_67 : decode cL_law 67 = .ok (.iconst 3, 1) := by decide +kernel
theorem dL_law_68 : decode cL_law 68 = .ok (.iconst 3, 1) := by decide +kernel
theorem dL_law_69 : decode cL_law 69 = .ok (.iastore, 1) := by decide +kernel
theorem dL_law_70 : decode cL_law 70 = .ok (.aload_n 2, 1) := by decide +kernel
theorem dL_law_71 : decode cL_law 71 = .ok (.iconst 4, 1) := by decide +kernel
theorem dL_law_72 : decode cL_law 72 = .ok (.bipush 10, 2) := by decide +kernel
theorem dL_law_74 : decode cL_law 74 = .ok (.iastore, 1) := by decide +kernel
theorem dL_law_75 : decode cL_law 75 = .ok (.aload_n 2, 1) := by decide +kernel
theorem dL_law_76 : decode cL_law 76 = .ok (.iconst 5, 1) := by decide +kernel
theorem dL_law_77 : decode cL_law 77 = .ok (.bipush 40, 2) := by decide +kernel
theorem dL_law_79 : decode cL_law 79 = .ok (.iastore, 1) := by decide +kernel
theorem dL_law_80 : decode cL_law 80 = .ok (.aload_n 2, 1) := by decide +kernel
theorem dL_law_81 : decode cL_law 81 = .ok (.bipush 6, 2) := by decide +kernel
theorem dL_law_83 : decode cL_law 83 = .ok (.iconst 1, 1) := by decide +kernel
theorem dL_law_84 : decode cL_law 84 = .ok (.iastore, 1) := by decide +kernel
theorem dL_law_85 : decode cL_law 85 = .ok (.aload_n 2, 1) := by decide +kernel
theorem dL_law_86 : decode cL_law 86 = .ok (.bipush 7, 2) := by decide +kernel
theorem dL_law_88 : decode cL_law 88 = .ok (.bipush 12, 2) := by decide +kernel
theorem dL_law_90 : decode cL_law 90 = .ok (.iastore, 1) := by decide +kernel
theorem dL_law_91 : decode cL_law 91 = .ok (.aload_n 2, 1) := by decide +kernel
theorem dL_law_92 : decode cL_law 92 = .ok (.bipush 8, 2) := by decide +kernel
theorem dL_law_94 : decode cL_law 94 = .ok (.bipush 15, 2) := by decide +kernel
theorem dL_law_96 : decode cL_law 96 = .ok (.iastore, 1) := by decide +kernel
theorem dL_law_97 : decode cL_law 97 = .ok (.iconst 0, 1) := by decide +kernel
theorem dL_law_98 : decode cL_law 98 = .ok (.istore 12, 2) := by decide +kernel
theorem dL_law_100 : decode cL_law 100 = .ok (.iload 12, 2) := by decide +kernel
theorem dL_law_102 : decode cL_law 102 = .ok (.bipush 60, 2) := by decide +kernel
theorem dL_law_104 : decode cL_law 104 = .ok (.if_icmp .ge 123, 3) := by decide +kernel
theorem dL_law_107 : decode cL_law 107 = .ok (.aload_n 0, 1) := by decide +kernel
theorem dL_law_108 : decode cL_law 108 = .ok (.iconst 2, 1) := by decide +kernel
theorem dL_law_109 : decode cL_law 109 = .ok (.iload 12, 2) := by decide +kernel
theorem dL_law_111 : decode cL_law 111 = .ok (.imul, 1) := by decide +kernel
theorem dL_law_112 : decode cL_law 112 = .ok (.invokestatic 79, 3) := by decide +kernel
theorem dL_law_115 : decode cL_law 115 = .ok (.istore 13, 2) := by decide +kernel
theorem dL_law_117 : decode cL_law 117 = .ok (.aload_n 0, 1) := by decide +kernel
theorem dL_law_118 : decode cL_law 118 = .ok (.iconst 2, 1) := by decide +kernel
theorem dL_law_119 : decode cL_law 119 = .ok (.iload 12, 2) := by decide +kernel
theorem dL_law_121 : decode cL_law 121 = .ok (.imul, 1) := by decide +kernel
theorem dL_law_122 : decode cL_law 122 = .ok (.iconst 1, 1) := by decide +kernel
theorem dL_law_123 : decode cL_law 123 = .ok (.iadd, 1) := by decide +kernel
theorem dL_law_124 : decode cL_law 124 = .ok (.invokestatic 79, 3) := by decide +kernel
theorem dL_law_127 : decode cL_law 127 = .ok (.istore 14, 2) := by decide +kernel
theorem dL_law_129 : decode cL_law 129 = .ok (.iload 13, 2) := by decide +kernel
theorem dL_law_131 : decode cL_law 131 = .ok (.bipush 20, 2) := by decide +kernel
theorem dL_law_133 : decode cL_law 133 = .ok (.ishr, 1) := by decide +kernel
theorem dL_law_134 : decode cL_law 134 = .ok (.iconst 4, 1) := by decide +kernel
theorem dL_law_135 : decode cL_law 135 = .ok (.invokestatic 29, 3) := by decide +kernel
theorem dL_law_138 : decode cL_law 138 = .ok (.ifCond .ne 23, 3) := by decide +kernel
theorem dL_law_141 : decode cL_law 141 = .ok (.aload_n 1, 1) := by decide +kernel
theorem dL_law_142 : decode cL_law 142 = .ok (.iload 13, 2) := by decide +kernel
theorem dL_law_144 : decode cL_law 144 = .ok (.iload 14, 2) := by decide +kernel
theorem dL_law_146 : decode cL_law 146 = .ok (.aload_n 2, 1) := by decide +kernel
theorem dL_law_147 : decode cL_law 147 = .ok (.aload 5, 2) := by decide +kernel
theorem dL_law_149 : decode cL_law 149 = .ok (.aload 8, 2) := by decide +kernel
theorem dL_law_151 : decode cL_law 151 = .ok (.aload 10, 2) := by decide +kernel
theorem dL_law_153 : decode cL_law 153 = .ok (.aload 11, 2) := by decide +kernel
theorem dL_law_155 : decode cL_law 155 = .ok (.invokestatic 83, 3) := by decide +kernel
theorem dL_law_158 : decode cL_law 158 = .ok (.goto 29, 3) := by decide +kernel
theorem dL_law_161 : decode cL_law 161 = .ok (.aload_n 1, 1) := by decide +kernel
theorem dL_law_162 : decode cL_law 162 = .ok (.iload 13, 2) := by decide +kernel
theorem dL_law_164 : decode cL_law 164 = .ok (.iload 14, 2) := by decide +kernel
theorem dL_law_166 : decode cL_law 166 = .ok (.aload_n 2, 1) := by decide +kernel
theorem dL_law_167 : decode cL_law 167 = .ok (.aload_n 3, 1) := by decide +kernel
theorem dL_law_168 : decode cL_law 168 = .ok (.aload 4, 2) := by decide +kernel
theorem dL_law_170 : decode cL_law 170 = .ok (.aload 5, 2) := by decide +kernel
theorem dL_law_172 : decode cL_law 172 = .ok (.aload 6, 2) := by decide +kernel
theorem dL_law_174 : decode cL_law 174 = .ok (.aload 7, 2) := by decide +kernel
theorem dL_law_176 : decode cL_law 176 = .ok (.aload 8, 2) := by decide +kernel
theorem dL_law_178 : decode cL_law 178 = .ok (.aload 9, 2) := by decide +kernel
theorem dL_law_180 : decode cL_law 180 = .ok (.aload 10, 2) := by decide +kernel
theorem dL_law_182 : decode cL_law 182 = .ok (.aload 11, 2) := by decide +kernel
theorem dL_law_184 : decode cL_law 184 = .ok (.invokestatic 87, 3) := by decide +kernel
theorem dL_law_187 : decode cL_law 187 = .ok (.istore 15, 2) := by decide +kernel
theorem dL_law_189 : decode cL_law 189 = .ok (.iload 15, 2) := by decide +kernel
theorem dL_law_191 : decode cL_law 191 = .ok (.ifCond .eq 28, 3) := by decide +kernel
theorem dL_law_194 : decode cL_law 194 = .ok (.aload_n 1, 1) := by decide +kernel
theorem dL_law_195 : decode cL_law 195 = .ok (.aload_n 2, 1) := by decide +kernel
theorem dL_law_196 : decode cL_law 196 = .ok (.aload_n 3, 1) := by decide +kernel
theorem dL_law_197 : decode cL_law 197 = .ok (.aload 4, 2) := by decide +kernel
theorem dL_law_199 : decode cL_law 199 = .ok (.aload 5, 2) := by decide +kernel
theorem dL_law_201 : decode cL_law 201 = .ok (.aload 6, 2) := by decide +kernel
theorem dL_law_203 : decode cL_law 203 = .ok (.aload 7, 2) := by decide +kernel
theorem dL_law_205 : decode cL_law 205 = .ok (.aload 8, 2) := by decide +kernel
theorem dL_law_207 : decode cL_law 207 = .ok (.aload 9, 2) := by decide +kernel
theorem dL_law_209 : decode cL_law 209 = .ok (.aload 10, 2) := by decide +kernel
theorem dL_law_211 : decode cL_law 211 = .ok (.aload 11, 2) := by decide +kernel
theorem dL_law_213 : decode cL_law 213 = .ok (.invokestatic 91, 3) := by decide +kernel
theorem dL_law_216 : decode cL_law 216 = .ok (.ifCond .ne 5, 3) := by decide +kernel
theorem dL_law_219 : decode cL_law 219 = .ok (.iconst 0, 1) := by decide +kernel
theorem dL_law_220 : decode cL_law 220 = .ok (.ireturn, 1) := by decide +kernel
theorem dL_law_221 : decode cL_law 221 = .ok (.iinc 12 1, 3) := by decide +kernel
theorem dL_law_224 : decode cL_law 224 = .ok (.goto (-124), 3) := by decide +kernel
theorem dL_law_227 : decode cL_law 227 = .ok (.iconst 1, 1) := by decide +kernel
theorem dL_law_228 : decode cL_law 228 = .ok (.ireturn, 1) := by decide +kernel
