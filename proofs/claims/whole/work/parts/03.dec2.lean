theorem dX13_reads_61 : decode cX13_reads 61 = .ok (.invokevirtual 224, 3) := by decide +kernel
theorem dX13_reads_64 : decode cX13_reads 64 = .ok (.ireturn, 1) := by decide +kernel
theorem dX13_reads_65 : decode cX13_reads 65 = .ok (.iload_n 1, 1) := by decide +kernel
theorem dX13_reads_66 : decode cX13_reads 66 = .ok (.iconst 5, 1) := by decide +kernel
theorem dX13_reads_67 : decode cX13_reads 67 = .ok (.if_icmp .ne 9, 3) := by decide +kernel
theorem dX13_reads_70 : decode cX13_reads 70 = .ok (.aload_n 0, 1) := by decide +kernel
theorem dX13_reads_71 : decode cX13_reads 71 = .ok (.iconst 5, 1) := by decide +kernel
theorem dX13_reads_72 : decode cX13_reads 72 = .ok (.invokevirtual 224, 3) := by decide +kernel
theorem dX13_reads_75 : decode cX13_reads 75 = .ok (.ireturn, 1) := by decide +kernel
theorem dX13_reads_76 : decode cX13_reads 76 = .ok (.iload 4, 2) := by decide +kernel
theorem dX13_reads_78 : decode cX13_reads 78 = .ok (.ifCond .ne 8, 3) := by decide +kernel
theorem dX13_reads_81 : decode cX13_reads 81 = .ok (.iload 5, 2) := by decide +kernel
theorem dX13_reads_83 : decode cX13_reads 83 = .ok (.ifCond .eq 48, 3) := by decide +kernel
theorem dX13_reads_86 : decode cX13_reads 86 = .ok (.aload_n 0, 1) := by decide +kernel
theorem dX13_reads_87 : decode cX13_reads 87 = .ok (.iload 4, 2) := by decide +kernel
theorem dX13_reads_89 : decode cX13_reads 89 = .ok (.ifCond .eq 8, 3) := by decide +kernel
theorem dX13_reads_92 : decode cX13_reads 92 = .ok (.bipush 30, 2) := by decide +kernel
theorem dX13_reads_94 : decode cX13_reads 94 = .ok (.goto 5, 3) := by decide +kernel
theorem dX13_reads_97 : decode cX13_reads 97 = .ok (.bipush 28, 2) := by decide +kernel
theorem dX13_reads_99 : decode cX13_reads 99 = .ok (.invokevirtual 227, 3) := by decide +kernel
theorem dX13_reads_102 : decode cX13_reads 102 = .ok (.iinc 1 1, 3) := by decide +kernel
theorem dX13_reads_105 : decode cX13_reads 105 = .ok (.aload_n 0, 1) := by decide +kernel
theorem dX13_reads_106 : decode cX13_reads 106 = .ok (.getfield 59, 3) := by decide +kernel
theorem dX13_reads_109 : decode cX13_reads 109 = .ok (.iload_n 1, 1) := by decide +kernel
theorem dX13_reads_110 : decode cX13_reads 110 = .ok (.iload 4, 2) := by decide +kernel
theorem dX13_reads_112 : decode cX13_reads 112 = .ok (.ifCond .eq 7, 3) := by decide +kernel
theorem dX13_reads_115 : decode cX13_reads 115 = .ok (.iconst 1, 1) := by decide +kernel
theorem dX13_reads_116 : decode cX13_reads 116 = .ok (.goto 4, 3) := by decide +kernel
theorem dX13_reads_119 : decode cX13_reads 119 = .ok (.iconst 2, 1) := by decide +kernel
theorem dX13_reads_120 : decode cX13_reads 120 = .ok (.iastore, 1) := by decide +kernel
theorem dX13_reads_121 : decode cX13_reads 121 = .ok (.aload_n 0, 1) := by decide +kernel
theorem dX13_reads_122 : decode cX13_reads 122 = .ok (.getfield 62, 3) := by decide +kernel
theorem dX13_reads_125 : decode cX13_reads 125 = .ok (.iload_n 1, 1) := by decide +kernel
theorem dX13_reads_126 : decode cX13_reads 126 = .ok (.iconst 0, 1) := by decide +kernel
theorem dX13_reads_127 : decode cX13_reads 127 = .ok (.bastore, 1) := by decide +kernel
theorem dX13_reads_128 : decode cX13_reads 128 = .ok (.goto 44, 3) := by decide +kernel
theorem dX13_reads_131 : decode cX13_reads 131 = .ok (.aload_n 0, 1) := by decide +kernel
theorem dX13_reads_132 : decode cX13_reads 132 = .ok (.iload_n 3, 1) := by decide +kernel
theorem dX13_reads_133 : decode cX13_reads 133 = .ok (.ifCond .le 7, 3) := by decide +kernel
theorem dX13_reads_136 : decode cX13_reads 136 = .ok (.iload_n 3, 1) := by decide +kernel
theorem dX13_reads_137 : decode cX13_reads 137 = .ok (.goto 10, 3) := by decide +kernel
theorem dX13_reads_140 : decode cX13_reads 140 = .ok (.bipush 100, 2) := by decide +kernel
theorem dX13_reads_142 : decode cX13_reads 142 = .ok (.aload_n 0, 1) := by decide +kernel
theorem dX13_reads_143 : decode cX13_reads 143 = .ok (.getfield 175, 3) := by decide +kernel
theorem dX13_reads_146 : decode cX13_reads 146 = .ok (.iadd, 1) := by decide +kernel
theorem dX13_reads_147 : decode cX13_reads 147 = .ok (.invokevirtual 227, 3) := by decide +kernel
theorem dX13_reads_150 : decode cX13_reads 150 = .ok (.iconst 0, 1) := by decide +kernel
theorem dX13_reads_151 : decode cX13_reads 151 = .ok (.istore_n 2, 1) := by decide +kernel
theorem dX13_reads_152 : decode cX13_reads 152 = .ok (.iload_n 1, 1) := by decide +kernel
theorem dX13_reads_153 : decode cX13_reads 153 = .ok (.ifCond .le 19, 3) := by decide +kernel
theorem dX13_reads_156 : decode cX13_reads 156 = .ok (.aload_n 0, 1) := by decide +kernel
theorem dX13_reads_157 : decode cX13_reads 157 = .ok (.getfield 59, 3) := by decide +kernel
theorem dX13_reads_160 : decode cX13_reads 160 = .ok (.iload_n 1, 1) := by decide +kernel
theorem dX13_reads_161 : decode cX13_reads 161 = .ok (.iaload, 1) := by decide +kernel
theorem dX13_reads_162 : decode cX13_reads 162 = .ok (.iconst 1, 1) := by decide +kernel
theorem dX13_reads_163 : decode cX13_reads 163 = .ok (.if_icmp .ne 9, 3) := by decide +kernel
theorem dX13_reads_166 : decode cX13_reads 166 = .ok (.iinc 1 (-1), 3) := by decide +kernel
theorem dX13_reads_169 : decode cX13_reads 169 = .ok (.goto (-17), 3) := by decide +kernel
theorem dX13_reads_172 : decode cX13_reads 172 = .ok (.aload_n 0, 1) := by decide +kernel
theorem dX13_reads_173 : decode cX13_reads 173 = .ok (.invokevirtual 231, 3) := by decide +kernel
theorem dX13_reads_176 : decode cX13_reads 176 = .ok (.goto (-165), 3) := by decide +kernel
theorem dX13_reads_179 : decode cX13_reads 179 = .ok (.aload_n 0, 1) := by decide +kernel
theorem dX13_reads_180 : decode cX13_reads 180 = .ok (.bipush 43, 2) := by decide +kernel
theorem dX13_reads_182 : decode cX13_reads 182 = .ok (.invokevirtual 220, 3) := by decide +kernel
theorem dX13_reads_185 : decode cX13_reads 185 = .ok (.ifCond .ne 21, 3) := by decide +kernel
theorem dX13_reads_188 : decode cX13_reads 188 = .ok (.aload_n 0, 1) := by decide +kernel
theorem dX13_reads_189 : decode cX13_reads 189 = .ok (.bipush 45, 2) := by decide +kernel
theorem dX13_reads_191 : decode cX13_reads 191 = .ok (.invokevirtual 220, 3) := by decide +kernel
theorem dX13_reads_194 : decode cX13_reads 194 = .ok (.ifCond .ne 12, 3) := by decide +kernel
theorem dX13_reads_197 : decode cX13_reads 197 = .ok (.aload_n 0, 1) := by decide +kernel
theorem dX13_reads_198 : decode cX13_reads 198 = .ok (.bipush 42, 2) := by decide +kernel
theorem dX13_reads_200 : decode cX13_reads 200 = .ok (.invokevirtual 220, 3) := by decide +kernel
theorem dX13_reads_203 : decode cX13_reads 203 = .ok (.ifCond .eq 42, 3) := by decide +kernel
theorem dX13_reads_206 : decode cX13_reads 206 = .ok (.aload_n 0, 1) := by decide +kernel
theorem dX13_reads_207 : decode cX13_reads 207 = .ok (.aload_n 0, 1) := by decide +kernel
theorem dX13_reads_208 : decode cX13_reads 208 = .ok (.bipush 43, 2) := by decide +kernel
theorem dX13_reads_210 : decode cX13_reads 210 = .ok (.invokevirtual 220, 3) := by decide +kernel
theorem dX13_reads_213 : decode cX13_reads 213 = .ok (.ifCond .eq 8, 3) := by decide +kernel
theorem dX13_reads_216 : decode cX13_reads 216 = .ok (.bipush 20, 2) := by decide +kernel
theorem dX13_reads_218 : decode cX13_reads 218 = .ok (.goto 19, 3) := by decide +kernel
theorem dX13_reads_221 : decode cX13_reads 221 = .ok (.aload_n 0, 1) := by decide +kernel
theorem dX13_reads_222 : decode cX13_reads 222 = .ok (.bipush 45, 2) := by decide +kernel
theorem dX13_reads_224 : decode cX13_reads 224 = .ok (.invokevirtual 220, 3) := by decide +kernel
theorem dX13_reads_227 : decode cX13_reads 227 = .ok (.ifCond .eq 8, 3) := by decide +kernel
theorem dX13_reads_230 : decode cX13_reads 230 = .ok (.bipush 21, 2) := by decide +kernel
theorem dX13_reads_232 : decode cX13_reads 232 = .ok (.goto 5, 3) := by decide +kernel
theorem dX13_reads_235 : decode cX13_reads 235 = .ok (.bipush 22, 2) := by decide +kernel
theorem dX13_reads_237 : decode cX13_reads 237 = .ok (.invokevirtual 227, 3) := by decide +kernel
theorem dX13_reads_240 : decode cX13_reads 240 = .ok (.iconst 1, 1) := by decide +kernel
theorem dX13_reads_241 : decode cX13_reads 241 = .ok (.istore_n 2, 1) := by decide +kernel
theorem dX13_reads_242 : decode cX13_reads 242 = .ok (.goto 182, 3) := by decide +kernel
theorem dX13_reads_245 : decode cX13_reads 245 = .ok (.aload_n 0, 1) := by decide +kernel
theorem dX13_reads_246 : decode cX13_reads 246 = .ok (.bipush 60, 2) := by decide +kernel
theorem dX13_reads_248 : decode cX13_reads 248 = .ok (.invokevirtual 220, 3) := by decide +kernel
theorem dX13_reads_251 : decode cX13_reads 251 = .ok (.ifCond .ne 12, 3) := by decide +kernel
theorem dX13_reads_254 : decode cX13_reads 254 = .ok (.aload_n 0, 1) := by decide +kernel
theorem dX13_reads_255 : decode cX13_reads 255 = .ok (.bipush 61, 2) := by decide +kernel
theorem dX13_reads_257 : decode cX13_reads 257 = .ok (.invokevirtual 220, 3) := by decide +kernel
theorem dX13_reads_260 : decode cX13_reads 260 = .ok (.ifCond .eq 44, 3) := by decide +kernel
theorem dX13_reads_263 : decode cX13_reads 263 = .ok (.aload_n 0, 1) := by decide +kernel
theorem dX13_reads_264 : decode cX13_reads 264 = .ok (.getfield 62, 3) := by decide +kernel
theorem dX13_reads_267 : decode cX13_reads 267 = .ok (.iload_n 1, 1) := by decide +kernel
theorem dX13_reads_268 : decode cX13_reads 268 = .ok (.baload, 1) := by decide +kernel
theorem dX13_reads_269 : decode cX13_reads 269 = .ok (.ifCond .ne 35, 3) := by decide +kernel
theorem dX13_reads_272 : decode cX13_reads 272 = .ok (.aload_n 0, 1) := by decide +kernel
theorem dX13_reads_273 : decode cX13_reads 273 = .ok (.aload_n 0, 1) := by decide +kernel
theorem dX13_reads_274 : decode cX13_reads 274 = .ok (.bipush 60, 2) := by decide +kernel
theorem dX13_reads_276 : decode cX13_reads 276 = .ok (.invokevirtual 220, 3) := by decide +kernel
theorem dX13_reads_279 : decode cX13_reads 279 = .ok (.ifCond .eq 8, 3) := by decide +kernel
theorem dX13_reads_282 : decode cX13_reads 282 = .ok (.bipush 24, 2) := by decide +kernel
theorem dX13_reads_284 : decode cX13_reads 284 = .ok (.goto 5, 3) := by decide +kernel
theorem dX13_reads_287 : decode cX13_reads 287 = .ok (.bipush 25, 2) := by decide +kernel
theorem dX13_reads_289 : decode cX13_reads 289 = .ok (.invokevirtual 227, 3) := by decide +kernel
theorem dX13_reads_292 : decode cX13_reads 292 = .ok (.aload_n 0, 1) := by decide +kernel
theorem dX13_reads_293 : decode cX13_reads 293 = .ok (.getfield 62, 3) := by decide +kernel
theorem dX13_reads_296 : decode cX13_reads 296 = .ok (.iload_n 1, 1) := by decide +kernel
theorem dX13_reads_297 : decode cX13_reads 297 = .ok (.iconst 1, 1) := by decide +kernel
theorem dX13_reads_298 : decode cX13_reads 298 = .ok (.bastore, 1) := by decide +kernel
theorem dX13_reads_299 : decode cX13_reads 299 = .ok (.iconst 1, 1) := by decide +kernel
theorem dX13_reads_300 : decode cX13_reads 300 = .ok (.istore_n 2, 1) := by decide +kernel
theorem dX13_reads_301 : decode cX13_reads 301 = .ok (.goto 123, 3) := by decide +kernel
theorem dX13_reads_304 : decode cX13_reads 304 = .ok (.aload_n 0, 1) := by decide +kernel
theorem dX13_reads_305 : decode cX13_reads 305 = .ok (.ldc2_w 234, 3) := by decide +kernel
theorem dX13_reads_308 : decode cX13_reads 308 = .ok (.invokevirtual 216, 3) := by decide +kernel
theorem dX13_reads_311 : decode cX13_reads 311 = .ok (.ifCond .ne 13, 3) := by decide +kernel
theorem dX13_reads_314 : decode cX13_reads 314 = .ok (.aload_n 0, 1) := by decide +kernel
theorem dX13_reads_315 : decode cX13_reads 315 = .ok (.ldc2_w 236, 3) := by decide +kernel
theorem dX13_reads_318 : decode cX13_reads 318 = .ok (.invokevirtual 216, 3) := by decide +kernel
theorem dX13_reads_321 : decode cX13_reads 321 = .ok (.ifCond .eq 36, 3) := by decide +kernel
theorem dX13_reads_324 : decode cX13_reads 324 = .ok (.aload_n 0, 1) := by decide +kernel
theorem dX13_reads_325 : decode cX13_reads 325 = .ok (.aload_n 0, 1) := by decide +kernel
theorem dX13_reads_326 : decode cX13_reads 326 = .ok (.ldc2_w 234, 3) := by decide +kernel
theorem dX13_reads_329 : decode cX13_reads 329 = .ok (.invokevirtual 216, 3) := by decide +kernel
theorem dX13_reads_332 : decode cX13_reads 332 = .ok (.ifCond .eq 8, 3) := by decide +kernel
theorem dX13_reads_335 : decode cX13_reads 335 = .ok (.bipush 26, 2) := by decide +kernel
theorem dX13_reads_337 : decode cX13_reads 337 = .ok (.goto 5, 3) := by decide +kernel
theorem dX13_reads_340 : decode cX13_reads 340 = .ok (.bipush 27, 2) := by decide +kernel
theorem dX13_reads_342 : decode cX13_reads 342 = .ok (.invokevirtual 227, 3) := by decide +kernel
theorem dX13_reads_345 : decode cX13_reads 345 = .ok (.aload_n 0, 1) := by decide +kernel
theorem dX13_reads_346 : decode cX13_reads 346 = .ok (.getfield 62, 3) := by decide +kernel
theorem dX13_reads_349 : decode cX13_reads 349 = .ok (.iload_n 1, 1) := by decide +kernel
theorem dX13_reads_350 : decode cX13_reads 350 = .ok (.iconst 0, 1) := by decide +kernel
theorem dX13_reads_351 : decode cX13_reads 351 = .ok (.bastore, 1) := by decide +kernel
theorem dX13_reads_352 : decode cX13_reads 352 = .ok (.iconst 1, 1) := by decide +kernel
theorem dX13_reads_353 : decode cX13_reads 353 = .ok (.istore_n 2, 1) := by decide +kernel
theorem dX13_reads_354 : decode cX13_reads 354 = .ok (.goto 70, 3) := by decide +kernel
theorem dX13_reads_357 : decode cX13_reads 357 = .ok (.aload_n 0, 1) := by decide +kernel
theorem dX13_reads_358 : decode cX13_reads 358 = .ok (.bipush 41, 2) := by decide +kernel
theorem dX13_reads_360 : decode cX13_reads 360 = .ok (.invokevirtual 220, 3) := by decide +kernel
theorem dX13_reads_363 : decode cX13_reads 363 = .ok (.ifCond .eq 36, 3) := by decide +kernel
theorem dX13_reads_366 : decode cX13_reads 366 = .ok (.iload_n 1, 1) := by decide +kernel
theorem dX13_reads_367 : decode cX13_reads 367 = .ok (.ifCond .le 32, 3) := by decide +kernel
theorem dX13_reads_370 : decode cX13_reads 370 = .ok (.aload_n 0, 1) := by decide +kernel
theorem dX13_reads_371 : decode cX13_reads 371 = .ok (.bipush 29, 2) := by decide +kernel
theorem dX13_reads_373 : decode cX13_reads 373 = .ok (.invokevirtual 227, 3) := by decide +kernel
theorem dX13_reads_376 : decode cX13_reads 376 = .ok (.iinc 1 (-1), 3) := by decide +kernel
theorem dX13_reads_379 : decode cX13_reads 379 = .ok (.iload_n 1, 1) := by decide +kernel
theorem dX13_reads_380 : decode cX13_reads 380 = .ok (.ifCond .le 44, 3) := by decide +kernel
theorem dX13_reads_383 : decode cX13_reads 383 = .ok (.aload_n 0, 1) := by decide +kernel
theorem dX13_reads_384 : decode cX13_reads 384 = .ok (.getfield 59, 3) := by decide +kernel
theorem dX13_reads_387 : decode cX13_reads 387 = .ok (.iload_n 1, 1) := by decide +kernel
theorem dX13_reads_388 : decode cX13_reads 388 = .ok (.iaload, 1) := by decide +kernel
theorem dX13_reads_389 : decode cX13_reads 389 = .ok (.iconst 1, 1) := by decide +kernel
theorem dX13_reads_390 : decode cX13_reads 390 = .ok (.if_icmp .ne 34, 3) := by decide +kernel
theorem dX13_reads_393 : decode cX13_reads 393 = .ok (.iinc 1 (-1), 3) := by decide +kernel
theorem dX13_reads_396 : decode cX13_reads 396 = .ok (.goto (-17), 3) := by decide +kernel
theorem dX13_reads_399 : decode cX13_reads 399 = .ok (.iload_n 1, 1) := by decide +kernel
theorem dX13_reads_400 : decode cX13_reads 400 = .ok (.ifCond .ne 18, 3) := by decide +kernel
theorem dX13_reads_403 : decode cX13_reads 403 = .ok (.aload_n 0, 1) := by decide +kernel
theorem dX13_reads_404 : decode cX13_reads 404 = .ok (.bipush 59, 2) := by decide +kernel
theorem dX13_reads_406 : decode cX13_reads 406 = .ok (.invokevirtual 220, 3) := by decide +kernel
theorem dX13_reads_409 : decode cX13_reads 409 = .ok (.ifCond .eq 9, 3) := by decide +kernel
theorem dX13_reads_412 : decode cX13_reads 412 = .ok (.aload_n 0, 1) := by decide +kernel
theorem dX13_reads_413 : decode cX13_reads 413 = .ok (.invokevirtual 231, 3) := by decide +kernel
theorem dX13_reads_416 : decode cX13_reads 416 = .ok (.iconst 1, 1) := by decide +kernel
theorem dX13_reads_417 : decode cX13_reads 417 = .ok (.ireturn, 1) := by decide +kernel
theorem dX13_reads_418 : decode cX13_reads 418 = .ok (.aload_n 0, 1) := by decide +kernel
theorem dX13_reads_419 : decode cX13_reads 419 = .ok (.iconst 1, 1) := by decide +kernel
theorem dX13_reads_420 : decode cX13_reads 420 = .ok (.invokevirtual 224, 3) := by decide +kernel
theorem dX13_reads_423 : decode cX13_reads 423 = .ok (.ireturn, 1) := by decide +kernel
theorem dX13_reads_424 : decode cX13_reads 424 = .ok (.aload_n 0, 1) := by decide +kernel
theorem dX13_reads_425 : decode cX13_reads 425 = .ok (.invokevirtual 231, 3) := by decide +kernel
theorem dX13_reads_428 : decode cX13_reads 428 = .ok (.goto (-417), 3) := by decide +kernel
theorem dX13_opens_0 : decode cX13_opens 0 = .ok (.aload_n 0, 1) := by decide +kernel
theorem dX13_opens_1 : decode cX13_opens 1 = .ok (.getfield 69, 3) := by decide +kernel
theorem dX13_opens_4 : decode cX13_opens 4 = .ok (.iload_n 1, 1) := by decide +kernel
theorem dX13_opens_5 : decode cX13_opens 5 = .ok (.iconst 0, 1) := by decide +kernel
theorem dX13_opens_6 : decode cX13_opens 6 = .ok (.iastore, 1) := by decide +kernel
theorem dX13_opens_7 : decode cX13_opens 7 = .ok (.aload_n 0, 1) := by decide +kernel
theorem dX13_opens_8 : decode cX13_opens 8 = .ok (.getfield 75, 3) := by decide +kernel
theorem dX13_opens_11 : decode cX13_opens 11 = .ok (.iload_n 1, 1) := by decide +kernel
theorem dX13_opens_12 : decode cX13_opens 12 = .ok (.iconst 0, 1) := by decide +kernel
theorem dX13_opens_13 : decode cX13_opens 13 = .ok (.iastore, 1) := by decide +kernel
theorem dX13_opens_14 : decode cX13_opens 14 = .ok (.aload_n 0, 1) := by decide +kernel
theorem dX13_opens_15 : decode cX13_opens 15 = .ok (.getfield 78, 3) := by decide +kernel
theorem dX13_opens_18 : decode cX13_opens 18 = .ok (.iload_n 1, 1) := by decide +kernel
theorem dX13_opens_19 : decode cX13_opens 19 = .ok (.iconst 0, 1) := by decide +kernel
theorem dX13_opens_20 : decode cX13_opens 20 = .ok (.iastore, 1) := by decide +kernel
theorem dX13_opens_21 : decode cX13_opens 21 = .ok (.aload_n 0, 1) := by decide +kernel
theorem dX13_opens_22 : decode cX13_opens 22 = .ok (.getfield 81, 3) := by decide +kernel
theorem dX13_opens_25 : decode cX13_opens 25 = .ok (.iload_n 1, 1) := by decide +kernel
theorem dX13_opens_26 : decode cX13_opens 26 = .ok (.bipush 20, 2) := by decide +kernel
theorem dX13_opens_28 : decode cX13_opens 28 = .ok (.iastore, 1) := by decide +kernel
theorem dX13_opens_29 : decode cX13_opens 29 = .ok (.aload_n 0, 1) := by decide +kernel
theorem dX13_opens_30 : decode cX13_opens 30 = .ok (.getfield 87, 3) := by decide +kernel
theorem dX13_opens_33 : decode cX13_opens 33 = .ok (.iload_n 1, 1) := by decide +kernel
theorem dX13_opens_34 : decode cX13_opens 34 = .ok (.iconst 0, 1) := by decide +kernel
theorem dX13_opens_35 : decode cX13_opens 35 = .ok (.iastore, 1) := by decide +kernel
theorem dX13_opens_36 : decode cX13_opens 36 = .ok (.return_, 1) := by decide +kernel
theorem dX13_sums_0 : decode cX13_sums 0 = .ok (.aload_n 0, 1) := by decide +kernel
theorem dX13_sums_1 : decode cX13_sums 1 = .ok (.getfield 78, 3) := by decide +kernel
theorem dX13_sums_4 : decode cX13_sums 4 = .ok (.iload_n 1, 1) := by decide +kernel
theorem dX13_sums_5 : decode cX13_sums 5 = .ok (.aload_n 0, 1) := by decide +kernel
theorem dX13_sums_6 : decode cX13_sums 6 = .ok (.getfield 81, 3) := by decide +kernel
theorem dX13_sums_9 : decode cX13_sums 9 = .ok (.iload_n 1, 1) := by decide +kernel
theorem dX13_sums_10 : decode cX13_sums 10 = .ok (.iaload, 1) := by decide +kernel
theorem dX13_sums_11 : decode cX13_sums 11 = .ok (.bipush 21, 2) := by decide +kernel
theorem dX13_sums_13 : decode cX13_sums 13 = .ok (.if_icmp .ne 19, 3) := by decide +kernel
theorem dX13_sums_16 : decode cX13_sums 16 = .ok (.aload_n 0, 1) := by decide +kernel
theorem dX13_sums_17 : decode cX13_sums 17 = .ok (.getfield 78, 3) := by decide +kernel
theorem dX13_sums_20 : decode cX13_sums 20 = .ok (.iload_n 1, 1) := by decide +kernel
theorem dX13_sums_21 : decode cX13_sums 21 = .ok (.iaload, 1) := by decide +kernel
theorem dX13_sums_22 : decode cX13_sums 22 = .ok (.aload_n 0, 1) := by decide +kernel
theorem dX13_sums_23 : decode cX13_sums 23 = .ok (.getfield 84, 3) := by decide +kernel
theorem dX13_sums_26 : decode cX13_sums 26 = .ok (.iload_n 1, 1) := by decide +kernel
theorem dX13_sums_27 : decode cX13_sums 27 = .ok (.iaload, 1) := by decide +kernel
theorem dX13_sums_28 : decode cX13_sums 28 = .ok (.isub, 1) := by decide +kernel
theorem dX13_sums_29 : decode cX13_sums 29 = .ok (.goto 16, 3) := by decide +kernel
theorem dX13_sums_32 : decode cX13_sums 32 = .ok (.aload_n 0, 1) := by decide +kernel
theorem dX13_sums_33 : decode cX13_sums 33 = .ok (.getfield 78, 3) := by decide +kernel
theorem dX13_sums_36 : decode cX13_sums 36 = .ok (.iload_n 1, 1) := by decide +kernel
theorem dX13_sums_37 : decode cX13_sums 37 = .ok (.iaload, 1) := by decide +kernel
theorem dX13_sums_38 : decode cX13_sums 38 = .ok (.aload_n 0, 1) := by decide +kernel
theorem dX13_sums_39 : decode cX13_sums 39 = .ok (.getfield 84, 3) := by decide +kernel
theorem dX13_sums_42 : decode cX13_sums 42 = .ok (.iload_n 1, 1) := by decide +kernel
theorem dX13_sums_43 : decode cX13_sums 43 = .ok (.iaload, 1) := by decide +kernel
theorem dX13_sums_44 : decode cX13_sums 44 = .ok (.iadd, 1) := by decide +kernel
theorem dX13_sums_45 : decode cX13_sums 45 = .ok (.iastore, 1) := by decide +kernel
theorem dX13_sums_46 : decode cX13_sums 46 = .ok (.aload_n 0, 1) := by decide +kernel
theorem dX13_sums_47 : decode cX13_sums 47 = .ok (.getfield 87, 3) := by decide +kernel
theorem dX13_sums_50 : decode cX13_sums 50 = .ok (.iload_n 1, 1) := by decide +kernel
theorem dX13_sums_51 : decode cX13_sums 51 = .ok (.iconst 0, 1) := by decide +kernel
theorem dX13_sums_52 : decode cX13_sums 52 = .ok (.iastore, 1) := by decide +kernel
theorem dX13_sums_53 : decode cX13_sums 53 = .ok (.return_, 1) := by decide +kernel
theorem dX13_tests_0 : decode cX13_tests 0 = .ok (.aload_n 0, 1) := by decide +kernel
theorem dX13_tests_1 : decode cX13_tests 1 = .ok (.iload_n 1, 1) := by decide +kernel
theorem dX13_tests_2 : decode cX13_tests 2 = .ok (.invokevirtual 238, 3) := by decide +kernel
theorem dX13_tests_5 : decode cX13_tests 5 = .ok (.aload_n 0, 1) := by decide +kernel
theorem dX13_tests_6 : decode cX13_tests 6 = .ok (.getfield 78, 3) := by decide +kernel
theorem dX13_tests_9 : decode cX13_tests 9 = .ok (.iload_n 1, 1) := by decide +kernel
theorem dX13_tests_10 : decode cX13_tests 10 = .ok (.iaload, 1) := by decide +kernel
theorem dX13_tests_11 : decode cX13_tests 11 = .ok (.istore_n 2, 1) := by decide +kernel
theorem dX13_tests_12 : decode cX13_tests 12 = .ok (.aload_n 0, 1) := by decide +kernel
theorem dX13_tests_13 : decode cX13_tests 13 = .ok (.getfield 75, 3) := by decide +kernel
theorem dX13_tests_16 : decode cX13_tests 16 = .ok (.iload_n 1, 1) := by decide +kernel
theorem dX13_tests_17 : decode cX13_tests 17 = .ok (.iaload, 1) := by decide +kernel
theorem dX13_tests_18 : decode cX13_tests 18 = .ok (.bipush 24, 2) := by decide +kernel
theorem dX13_tests_20 : decode cX13_tests 20 = .ok (.if_icmp .ne 24, 3) := by decide +kernel
theorem dX13_tests_23 : decode cX13_tests 23 = .ok (.aload_n 0, 1) := by decide +kernel
theorem dX13_tests_24 : decode cX13_tests 24 = .ok (.getfield 72, 3) := by decide +kernel
theorem dX13_tests_27 : decode cX13_tests 27 = .ok (.iload_n 1, 1) := by decide +kernel
theorem dX13_tests_28 : decode cX13_tests 28 = .ok (.iaload, 1) := by decide +kernel
theorem dX13_tests_29 : decode cX13_tests 29 = .ok (.aload_n 0, 1) := by decide +kernel
theorem dX13_tests_30 : decode cX13_tests 30 = .ok (.getfield 78, 3) := by decide +kernel
theorem dX13_tests_33 : decode cX13_tests 33 = .ok (.iload_n 1, 1) := by decide +kernel
theorem dX13_tests_34 : decode cX13_tests 34 = .ok (.iaload, 1) := by decide +kernel
theorem dX13_tests_35 : decode cX13_tests 35 = .ok (.if_icmp .ge 7, 3) := by decide +kernel
theorem dX13_tests_38 : decode cX13_tests 38 = .ok (.iconst 1, 1) := by decide +kernel
theorem dX13_tests_39 : decode cX13_tests 39 = .ok (.goto 4, 3) := by decide +kernel
theorem dX13_tests_42 : decode cX13_tests 42 = .ok (.iconst 0, 1) := by decide +kernel
theorem dX13_tests_43 : decode cX13_tests 43 = .ok (.istore_n 2, 1) := by decide +kernel
theorem dX13_tests_44 : decode cX13_tests 44 = .ok (.aload_n 0, 1) := by decide +kernel
theorem dX13_tests_45 : decode cX13_tests 45 = .ok (.getfield 75, 3) := by decide +kernel
theorem dX13_tests_48 : decode cX13_tests 48 = .ok (.iload_n 1, 1) := by decide +kernel
theorem dX13_tests_49 : decode cX13_tests 49 = .ok (.iaload, 1) := by decide +kernel
theorem dX13_tests_50 : decode cX13_tests 50 = .ok (.bipush 25, 2) := by decide +kernel
theorem dX13_tests_52 : decode cX13_tests 52 = .ok (.if_icmp .ne 24, 3) := by decide +kernel
theorem dX13_tests_55 : decode cX13_tests 55 = .ok (.aload_n 0, 1) := by decide +kernel
theorem dX13_tests_56 : decode cX13_tests 56 = .ok (.getfield 72, 3) := by decide +kernel
theorem dX13_tests_59 : decode cX13_tests 59 = .ok (.iload_n 1, 1) := by decide +kernel
theorem dX13_tests_60 : decode cX13_tests 60 = .ok (.iaload, 1) := by decide +kernel
theorem dX13_tests_61 : decode cX13_tests 61 = .ok (.aload_n 0, 1) := by decide +kernel
theorem dX13_tests_62 : decode cX13_tests 62 = .ok (.getfield 78, 3) := by decide +kernel
theorem dX13_tests_65 : decode cX13_tests 65 = .ok (.iload_n 1, 1) := by decide +kernel
theorem dX13_tests_66 : decode cX13_tests 66 = .ok (.iaload, 1) := by decide +kernel
theorem dX13_tests_67 : decode cX13_tests 67 = .ok (.if_icmp .ne 7, 3) := by decide +kernel
theorem dX13_tests_70 : decode cX13_tests 70 = .ok (.iconst 1, 1) := by decide +kernel
theorem dX13_tests_71 : decode cX13_tests 71 = .ok (.goto 4, 3) := by decide +kernel
theorem dX13_tests_74 : decode cX13_tests 74 = .ok (.iconst 0, 1) := by decide +kernel
theorem dX13_tests_75 : decode cX13_tests 75 = .ok (.istore_n 2, 1) := by decide +kernel
theorem dX13_tests_76 : decode cX13_tests 76 = .ok (.aload_n 0, 1) := by decide +kernel
theorem dX13_tests_77 : decode cX13_tests 77 = .ok (.getfield 69, 3) := by decide +kernel
theorem dX13_tests_80 : decode cX13_tests 80 = .ok (.iload_n 1, 1) := by decide +kernel
theorem dX13_tests_81 : decode cX13_tests 81 = .ok (.iaload, 1) := by decide +kernel
theorem dX13_tests_82 : decode cX13_tests 82 = .ok (.bipush 26, 2) := by decide +kernel
theorem dX13_tests_84 : decode cX13_tests 84 = .ok (.if_icmp .ne 22, 3) := by decide +kernel
theorem dX13_tests_87 : decode cX13_tests 87 = .ok (.aload_n 0, 1) := by decide +kernel
theorem dX13_tests_88 : decode cX13_tests 88 = .ok (.getfield 66, 3) := by decide +kernel
theorem dX13_tests_91 : decode cX13_tests 91 = .ok (.iload_n 1, 1) := by decide +kernel
theorem dX13_tests_92 : decode cX13_tests 92 = .ok (.iaload, 1) := by decide +kernel
theorem dX13_tests_93 : decode cX13_tests 93 = .ok (.ifCond .eq 11, 3) := by decide +kernel
theorem dX13_tests_96 : decode cX13_tests 96 = .ok (.iload_n 2, 1) := by decide +kernel
theorem dX13_tests_97 : decode cX13_tests 97 = .ok (.ifCond .eq 7, 3) := by decide +kernel
theorem dX13_tests_100 : decode cX13_tests 100 = .ok (.iconst 1, 1) := by decide +kernel
theorem dX13_tests_101 : decode cX13_tests 101 = .ok (.goto 4, 3) := by decide +kernel
theorem dX13_tests_104 : decode cX13_tests 104 = .ok (.iconst 0, 1) := by decide +kernel
theorem dX13_tests_105 : decode cX13_tests 105 = .ok (.istore_n 2, 1) := by decide +kernel
theorem dX13_tests_106 : decode cX13_tests 106 = .ok (.aload_n 0, 1) := by decide +kernel
theorem dX13_tests_107 : decode cX13_tests 107 = .ok (.getfield 69, 3) := by decide +kernel
theorem dX13_tests_110 : decode cX13_tests 110 = .ok (.iload_n 1, 1) := by decide +kernel
theorem dX13_tests_111 : decode cX13_tests 111 = .ok (.iaload, 1) := by decide +kernel
theorem dX13_tests_112 : decode cX13_tests 112 = .ok (.bipush 27, 2) := by decide +kernel
theorem dX13_tests_114 : decode cX13_tests 114 = .ok (.if_icmp .ne 22, 3) := by decide +kernel
theorem dX13_tests_117 : decode cX13_tests 117 = .ok (.aload_n 0, 1) := by decide +kernel
theorem dX13_tests_118 : decode cX13_tests 118 = .ok (.getfield 66, 3) := by decide +kernel
theorem dX13_tests_121 : decode cX13_tests 121 = .ok (.iload_n 1, 1) := by decide +kernel
theorem dX13_tests_122 : decode cX13_tests 122 = .ok (.iaload, 1) := by decide +kernel
theorem dX13_tests_123 : decode cX13_tests 123 = .ok (.ifCond .ne 7, 3) := by decide +kernel
theorem dX13_tests_126 : decode cX13_tests 126 = .ok (.iload_n 2, 1) := by decide +kernel
theorem dX13_tests_127 : decode cX13_tests 127 = .ok (.ifCond .eq 7, 3) := by decide +kernel
theorem dX13_tests_130 : decode cX13_tests 130 = .ok (.iconst 1, 1) := by decide +kernel
theorem dX13_tests_131 : decode cX13_tests 131 = .ok (.goto 4, 3) := by decide +kernel
theorem dX13_tests_134 : decode cX13_tests 134 = .ok (.iconst 0, 1) := by decide +kernel
theorem dX13_tests_135 : decode cX13_tests 135 = .ok (.istore_n 2, 1) := by decide +kernel
theorem dX13_tests_136 : decode cX13_tests 136 = .ok (.aload_n 0, 1) := by decide +kernel
theorem dX13_tests_137 : decode cX13_tests 137 = .ok (.getfield 66, 3) := by decide +kernel
theorem dX13_tests_140 : decode cX13_tests 140 = .ok (.iload_n 1, 1) := by decide +kernel
theorem dX13_tests_141 : decode cX13_tests 141 = .ok (.iload_n 2, 1) := by decide +kernel
theorem dX13_tests_142 : decode cX13_tests 142 = .ok (.iastore, 1) := by decide +kernel
theorem dX13_tests_143 : decode cX13_tests 143 = .ok (.aload_n 0, 1) := by decide +kernel
theorem dX13_tests_144 : decode cX13_tests 144 = .ok (.getfield 75, 3) := by decide +kernel
theorem dX13_tests_147 : decode cX13_tests 147 = .ok (.iload_n 1, 1) := by decide +kernel
theorem dX13_tests_148 : decode cX13_tests 148 = .ok (.iconst 0, 1) := by decide +kernel
theorem dX13_tests_149 : decode cX13_tests 149 = .ok (.iastore, 1) := by decide +kernel
theorem dX13_tests_150 : decode cX13_tests 150 = .ok (.aload_n 0, 1) := by decide +kernel
theorem dX13_tests_151 : decode cX13_tests 151 = .ok (.getfield 78, 3) := by decide +kernel
theorem dX13_tests_154 : decode cX13_tests 154 = .ok (.iload_n 1, 1) := by decide +kernel
theorem dX13_tests_155 : decode cX13_tests 155 = .ok (.iconst 0, 1) := by decide +kernel
theorem dX13_tests_156 : decode cX13_tests 156 = .ok (.iastore, 1) := by decide +kernel
theorem dX13_tests_157 : decode cX13_tests 157 = .ok (.aload_n 0, 1) := by decide +kernel
theorem dX13_tests_158 : decode cX13_tests 158 = .ok (.getfield 81, 3) := by decide +kernel
theorem dX13_tests_161 : decode cX13_tests 161 = .ok (.iload_n 1, 1) := by decide +kernel
theorem dX13_tests_162 : decode cX13_tests 162 = .ok (.bipush 20, 2) := by decide +kernel
theorem dX13_tests_164 : decode cX13_tests 164 = .ok (.iastore, 1) := by decide +kernel
theorem dX13_tests_165 : decode cX13_tests 165 = .ok (.return_, 1) := by decide +kernel
theorem dX13_worked_0 : decode cX13_worked 0 = .ok (.iconst 0, 1) := by decide +kernel
theorem dX13_worked_1 : decode cX13_worked 1 = .ok (.istore_n 2, 1) := by decide +kernel
theorem dX13_worked_2 : decode cX13_worked 2 = .ok (.aload_n 0, 1) := by decide +kernel
theorem dX13_worked_3 : decode cX13_worked 3 = .ok (.iconst 0, 1) := by decide +kernel
theorem dX13_worked_4 : decode cX13_worked 4 = .ok (.invokevirtual 241, 3) := by decide +kernel
theorem dX13_worked_7 : decode cX13_worked 7 = .ok (.aload_n 0, 1) := by decide +kernel
theorem dX13_worked_8 : decode cX13_worked 8 = .ok (.getfield 50, 3) := by decide +kernel
theorem dX13_worked_11 : decode cX13_worked 11 = .ok (.iload_n 1, 1) := by decide +kernel
theorem dX13_worked_12 : decode cX13_worked 12 = .ok (.iaload, 1) := by decide +kernel
theorem dX13_worked_13 : decode cX13_worked 13 = .ok (.istore_n 3, 1) := by decide +kernel
theorem dX13_worked_14 : decode cX13_worked 14 = .ok (.iload_n 3, 1) := by decide +kernel
theorem dX13_worked_15 : decode cX13_worked 15 = .ok (.aload_n 0, 1) := by decide +kernel
theorem dX13_worked_16 : decode cX13_worked 16 = .ok (.getfield 53, 3) := by decide +kernel
theorem dX13_worked_19 : decode cX13_worked 19 = .ok (.iload_n 1, 1) := by decide +kernel
theorem dX13_worked_20 : decode cX13_worked 20 = .ok (.iaload, 1) := by decide +kernel
theorem dX13_worked_21 : decode cX13_worked 21 = .ok (.if_icmp .ge 314, 3) := by decide +kernel
theorem dX13_worked_24 : decode cX13_worked 24 = .ok (.aload_n 0, 1) := by decide +kernel
theorem dX13_worked_25 : decode cX13_worked 25 = .ok (.getfield 56, 3) := by decide +kernel
theorem dX13_worked_28 : decode cX13_worked 28 = .ok (.iload_n 3, 1) := by decide +kernel
theorem dX13_worked_29 : decode cX13_worked 29 = .ok (.iaload, 1) := by decide +kernel
theorem dX13_worked_30 : decode cX13_worked 30 = .ok (.istore 4, 2) := by decide +kernel
theorem dX13_worked_32 : decode cX13_worked 32 = .ok (.iload 4, 2) := by decide +kernel
theorem dX13_worked_34 : decode cX13_worked 34 = .ok (.bipush 28, 2) := by decide +kernel
theorem dX13_worked_36 : decode cX13_worked 36 = .ok (.if_icmp .eq 10, 3) := by decide +kernel
theorem dX13_worked_39 : decode cX13_worked 39 = .ok (.iload 4, 2) := by decide +kernel
theorem dX13_worked_41 : decode cX13_worked 41 = .ok (.bipush 30, 2) := by decide +kernel
theorem dX13_worked_43 : decode cX13_worked 43 = .ok (.if_icmp .ne 32, 3) := by decide +kernel
theorem dX13_worked_46 : decode cX13_worked 46 = .ok (.iinc 2 1, 3) := by decide +kernel
theorem dX13_worked_49 : decode cX13_worked 49 = .ok (.aload_n 0, 1) := by decide +kernel
theorem dX13_worked_50 : decode cX13_worked 50 = .ok (.getfield 90, 3) := by decide +kernel
theorem dX13_worked_53 : decode cX13_worked 53 = .ok (.iload_n 2, 1) := by decide +kernel
theorem dX13_worked_54 : decode cX13_worked 54 = .ok (.iload 4, 2) := by decide +kernel
theorem dX13_worked_56 : decode cX13_worked 56 = .ok (.bipush 30, 2) := by decide +kernel
theorem dX13_worked_58 : decode cX13_worked 58 = .ok (.if_icmp .ne 7, 3) := by decide +kernel
theorem dX13_worked_61 : decode cX13_worked 61 = .ok (.iconst 1, 1) := by decide +kernel
theorem dX13_worked_62 : decode cX13_worked 62 = .ok (.goto 4, 3) := by decide +kernel
theorem dX13_worked_65 : decode cX13_worked 65 = .ok (.iconst 0, 1) := by decide +kernel
theorem dX13_worked_66 : decode cX13_worked 66 = .ok (.iastore, 1) := by decide +kernel
theorem dX13_worked_67 : decode cX13_worked 67 = .ok (.aload_n 0, 1) := by decide +kernel
theorem dX13_worked_68 : decode cX13_worked 68 = .ok (.iload_n 2, 1) := by decide +kernel
theorem dX13_worked_69 : decode cX13_worked 69 = .ok (.invokevirtual 241, 3) := by decide +kernel
theorem dX13_worked_72 : decode cX13_worked 72 = .ok (.goto 257, 3) := by decide +kernel
theorem dX13_worked_75 : decode cX13_worked 75 = .ok (.iload 4, 2) := by decide +kernel
theorem dX13_worked_77 : decode cX13_worked 77 = .ok (.bipush 20, 2) := by decide +kernel
theorem dX13_worked_79 : decode cX13_worked 79 = .ok (.if_icmp .eq 10, 3) := by decide +kernel
theorem dX13_worked_82 : decode cX13_worked 82 = .ok (.iload 4, 2) := by decide +kernel
theorem dX13_worked_84 : decode cX13_worked 84 = .ok (.bipush 21, 2) := by decide +kernel
theorem dX13_worked_86 : decode cX13_worked 86 = .ok (.if_icmp .ne 19, 3) := by decide +kernel
theorem dX13_worked_89 : decode cX13_worked 89 = .ok (.aload_n 0, 1) := by decide +kernel
theorem dX13_worked_90 : decode cX13_worked 90 = .ok (.iload_n 2, 1) := by decide +kernel
theorem dX13_worked_91 : decode cX13_worked 91 = .ok (.invokevirtual 238, 3) := by decide +kernel
theorem dX13_worked_94 : decode cX13_worked 94 = .ok (.aload_n 0, 1) := by decide +kernel
theorem dX13_worked_95 : decode cX13_worked 95 = .ok (.getfield 81, 3) := by decide +kernel
theorem dX13_worked_98 : decode cX13_worked 98 = .ok (.iload_n 2, 1) := by decide +kernel
theorem dX13_worked_99 : decode cX13_worked 99 = .ok (.iload 4, 2) := by decide +kernel
theorem dX13_worked_101 : decode cX13_worked 101 = .ok (.iastore, 1) := by decide +kernel
theorem dX13_worked_102 : decode cX13_worked 102 = .ok (.goto 227, 3) := by decide +kernel
theorem dX13_worked_105 : decode cX13_worked 105 = .ok (.iload 4, 2) := by decide +kernel
theorem dX13_worked_107 : decode cX13_worked 107 = .ok (.bipush 22, 2) := by decide +kernel
theorem dX13_worked_109 : decode cX13_worked 109 = .ok (.if_icmp .ne 14, 3) := by decide +kernel
theorem dX13_worked_112 : decode cX13_worked 112 = .ok (.aload_n 0, 1) := by decide +kernel
theorem dX13_worked_113 : decode cX13_worked 113 = .ok (.getfield 87, 3) := by decide +kernel
theorem dX13_worked_116 : decode cX13_worked 116 = .ok (.iload_n 2, 1) := by decide +kernel
theorem dX13_worked_117 : decode cX13_worked 117 = .ok (.iload 4, 2) := by decide +kernel
theorem dX13_worked_119 : decode cX13_worked 119 = .ok (.iastore, 1) := by decide +kernel
theorem dX13_worked_120 : decode cX13_worked 120 = .ok (.goto 209, 3) := by decide +kernel
theorem dX13_worked_123 : decode cX13_worked 123 = .ok (.iload 4, 2) := by decide +kernel
theorem dX13_worked_125 : decode cX13_worked 125 = .ok (.bipush 24, 2) := by decide +kernel
theorem dX13_worked_127 : decode cX13_worked 127 = .ok (.if_icmp .eq 10, 3) := by decide +kernel
theorem dX13_worked_130 : decode cX13_worked 130 = .ok (.iload 4, 2) := by decide +kernel
theorem dX13_worked_132 : decode cX13_worked 132 = .ok (.bipush 25, 2) := by decide +kernel
theorem dX13_worked_134 : decode cX13_worked 134 = .ok (.if_icmp .ne 46, 3) := by decide +kernel
theorem dX13_worked_137 : decode cX13_worked 137 = .ok (.aload_n 0, 1) := by decide +kernel
theorem dX13_worked_138 : decode cX13_worked 138 = .ok (.iload_n 2, 1) := by decide +kernel
theorem dX13_worked_139 : decode cX13_worked 139 = .ok (.invokevirtual 238, 3) := by decide +kernel
theorem dX13_worked_142 : decode cX13_worked 142 = .ok (.aload_n 0, 1) := by decide +kernel
theorem dX13_worked_143 : decode cX13_worked 143 = .ok (.getfield 72, 3) := by decide +kernel
theorem dX13_worked_146 : decode cX13_worked 146 = .ok (.iload_n 2, 1) := by decide +kernel
theorem dX13_worked_147 : decode cX13_worked 147 = .ok (.aload_n 0, 1) := by decide +kernel
theorem dX13_worked_148 : decode cX13_worked 148 = .ok (.getfield 78, 3) := by decide +kernel
theorem dX13_worked_151 : decode cX13_worked 151 = .ok (.iload_n 2, 1) := by decide +kernel
theorem dX13_worked_152 : decode cX13_worked 152 = .ok (.iaload, 1) := by decide +kernel
theorem dX13_worked_153 : decode cX13_worked 153 = .ok (.iastore, 1) := by decide +kernel
theorem dX13_worked_154 : decode cX13_worked 154 = .ok (.aload_n 0, 1) := by decide +kernel
theorem dX13_worked_155 : decode cX13_worked 155 = .ok (.getfield 75, 3) := by decide +kernel
theorem dX13_worked_158 : decode cX13_worked 158 = .ok (.iload_n 2, 1) := by decide +kernel
theorem dX13_worked_159 : decode cX13_worked 159 = .ok (.iload 4, 2) := by decide +kernel
theorem dX13_worked_161 : decode cX13_worked 161 = .ok (.iastore, 1) := by decide +kernel
theorem dX13_worked_162 : decode cX13_worked 162 = .ok (.aload_n 0, 1) := by decide +kernel
theorem dX13_worked_163 : decode cX13_worked 163 = .ok (.getfield 78, 3) := by decide +kernel
theorem dX13_worked_166 : decode cX13_worked 166 = .ok (.iload_n 2, 1) := by decide +kernel
theorem dX13_worked_167 : decode cX13_worked 167 = .ok (.iconst 0, 1) := by decide +kernel
theorem dX13_worked_168 : decode cX13_worked 168 = .ok (.iastore, 1) := by decide +kernel
theorem dX13_worked_169 : decode cX13_worked 169 = .ok (.aload_n 0, 1) := by decide +kernel
theorem dX13_worked_170 : decode cX13_worked 170 = .ok (.getfield 81, 3) := by decide +kernel
theorem dX13_worked_173 : decode cX13_worked 173 = .ok (.iload_n 2, 1) := by decide +kernel
theorem dX13_worked_174 : decode cX13_worked 174 = .ok (.bipush 20, 2) := by decide +kernel
theorem dX13_worked_176 : decode cX13_worked 176 = .ok (.iastore, 1) := by decide +kernel
theorem dX13_worked_177 : decode cX13_worked 177 = .ok (.goto 152, 3) := by decide +kernel
theorem dX13_worked_180 : decode cX13_worked 180 = .ok (.iload 4, 2) := by decide +kernel
theorem dX13_worked_182 : decode cX13_worked 182 = .ok (.bipush 26, 2) := by decide +kernel
theorem dX13_worked_184 : decode cX13_worked 184 = .ok (.if_icmp .eq 10, 3) := by decide +kernel
theorem dX13_worked_187 : decode cX13_worked 187 = .ok (.iload 4, 2) := by decide +kernel
theorem dX13_worked_189 : decode cX13_worked 189 = .ok (.bipush 27, 2) := by decide +kernel
theorem dX13_worked_191 : decode cX13_worked 191 = .ok (.if_icmp .ne 19, 3) := by decide +kernel
theorem dX13_worked_194 : decode cX13_worked 194 = .ok (.aload_n 0, 1) := by decide +kernel
theorem dX13_worked_195 : decode cX13_worked 195 = .ok (.iload_n 2, 1) := by decide +kernel
theorem dX13_worked_196 : decode cX13_worked 196 = .ok (.invokevirtual 244, 3) := by decide +kernel
theorem dX13_worked_199 : decode cX13_worked 199 = .ok (.aload_n 0, 1) := by decide +kernel
theorem dX13_worked_200 : decode cX13_worked 200 = .ok (.getfield 69, 3) := by decide +kernel
theorem dX13_worked_203 : decode cX13_worked 203 = .ok (.iload_n 2, 1) := by decide +kernel
theorem dX13_worked_204 : decode cX13_worked 204 = .ok (.iload 4, 2) := by decide +kernel
theorem dX13_worked_206 : decode cX13_worked 206 = .ok (.iastore, 1) := by decide +kernel
theorem dX13_worked_207 : decode cX13_worked 207 = .ok (.goto 122, 3) := by decide +kernel
theorem dX13_worked_210 : decode cX13_worked 210 = .ok (.iload 4, 2) := by decide +kernel
theorem dX13_worked_212 : decode cX13_worked 212 = .ok (.bipush 100, 2) := by decide +kernel
theorem dX13_worked_214 : decode cX13_worked 214 = .ok (.if_icmp .lt 11, 3) := by decide +kernel
theorem dX13_worked_217 : decode cX13_worked 217 = .ok (.iload 4, 2) := by decide +kernel
theorem dX13_worked_219 : decode cX13_worked 219 = .ok (.bipush 100, 2) := by decide +kernel
theorem dX13_worked_221 : decode cX13_worked 221 = .ok (.isub, 1) := by decide +kernel
theorem dX13_worked_222 : decode cX13_worked 222 = .ok (.goto 21, 3) := by decide +kernel
theorem dX13_worked_225 : decode cX13_worked 225 = .ok (.iload 4, 2) := by decide +kernel
theorem dX13_worked_227 : decode cX13_worked 227 = .ok (.bipush 20, 2) := by decide +kernel
theorem dX13_worked_229 : decode cX13_worked 229 = .ok (.if_icmp .ge 13, 3) := by decide +kernel
theorem dX13_worked_232 : decode cX13_worked 232 = .ok (.aload_n 0, 1) := by decide +kernel
theorem dX13_worked_233 : decode cX13_worked 233 = .ok (.getfield 93, 3) := by decide +kernel
theorem dX13_worked_236 : decode cX13_worked 236 = .ok (.iload 4, 2) := by decide +kernel
theorem dX13_worked_238 : decode cX13_worked 238 = .ok (.iaload, 1) := by decide +kernel
theorem dX13_worked_239 : decode cX13_worked 239 = .ok (.goto 4, 3) := by decide +kernel
theorem dX13_worked_242 : decode cX13_worked 242 = .ok (.iconst 0, 1) := by decide +kernel
theorem dX13_worked_243 : decode cX13_worked 243 = .ok (.istore 5, 2) := by decide +kernel
theorem dX13_worked_245 : decode cX13_worked 245 = .ok (.iload 4, 2) := by decide +kernel
theorem dX13_worked_247 : decode cX13_worked 247 = .ok (.bipush 29, 2) := by decide +kernel
theorem dX13_worked_249 : decode cX13_worked 249 = .ok (.if_icmp .ne 19, 3) := by decide +kernel
theorem dX13_worked_252 : decode cX13_worked 252 = .ok (.aload_n 0, 1) := by decide +kernel
theorem dX13_worked_253 : decode cX13_worked 253 = .ok (.iload_n 2, 1) := by decide +kernel
theorem dX13_worked_254 : decode cX13_worked 254 = .ok (.invokevirtual 244, 3) := by decide +kernel
theorem dX13_worked_257 : decode cX13_worked 257 = .ok (.aload_n 0, 1) := by decide +kernel
theorem dX13_worked_258 : decode cX13_worked 258 = .ok (.getfield 66, 3) := by decide +kernel
theorem dX13_worked_261 : decode cX13_worked 261 = .ok (.iload_n 2, 1) := by decide +kernel
theorem dX13_worked_262 : decode cX13_worked 262 = .ok (.iaload, 1) := by decide +kernel
theorem dX13_worked_263 : decode cX13_worked 263 = .ok (.istore 5, 2) := by decide +kernel
theorem dX13_worked_265 : decode cX13_worked 265 = .ok (.iinc 2 (-1), 3) := by decide +kernel
theorem dX13_worked_268 : decode cX13_worked 268 = .ok (.iload_n 2, 1) := by decide +kernel
theorem dX13_worked_269 : decode cX13_worked 269 = .ok (.ifCond .le 31, 3) := by decide +kernel
theorem dX13_worked_272 : decode cX13_worked 272 = .ok (.aload_n 0, 1) := by decide +kernel
theorem dX13_worked_273 : decode cX13_worked 273 = .ok (.getfield 90, 3) := by decide +kernel
theorem dX13_worked_276 : decode cX13_worked 276 = .ok (.iload_n 2, 1) := by decide +kernel
theorem dX13_worked_277 : decode cX13_worked 277 = .ok (.iaload, 1) := by decide +kernel
theorem dX13_worked_278 : decode cX13_worked 278 = .ok (.iconst 1, 1) := by decide +kernel
theorem dX13_worked_279 : decode cX13_worked 279 = .ok (.if_icmp .ne 21, 3) := by decide +kernel
theorem dX13_worked_282 : decode cX13_worked 282 = .ok (.iload 5, 2) := by decide +kernel
theorem dX13_worked_284 : decode cX13_worked 284 = .ok (.ifCond .ne 7, 3) := by decide +kernel
theorem dX13_worked_287 : decode cX13_worked 287 = .ok (.iconst 1, 1) := by decide +kernel
theorem dX13_worked_288 : decode cX13_worked 288 = .ok (.goto 4, 3) := by decide +kernel
theorem dX13_worked_291 : decode cX13_worked 291 = .ok (.iconst 0, 1) := by decide +kernel
theorem dX13_worked_292 : decode cX13_worked 292 = .ok (.istore 5, 2) := by decide +kernel
theorem dX13_worked_294 : decode cX13_worked 294 = .ok (.iinc 2 (-1), 3) := by decide +kernel
theorem dX13_worked_297 : decode cX13_worked 297 = .ok (.goto (-29), 3) := by decide +kernel
theorem dX13_worked_300 : decode cX13_worked 300 = .ok (.aload_n 0, 1) := by decide +kernel
theorem dX13_worked_301 : decode cX13_worked 301 = .ok (.getfield 84, 3) := by decide +kernel
theorem dX13_worked_304 : decode cX13_worked 304 = .ok (.iload_n 2, 1) := by decide +kernel
theorem dX13_worked_305 : decode cX13_worked 305 = .ok (.aload_n 0, 1) := by decide +kernel
theorem dX13_worked_306 : decode cX13_worked 306 = .ok (.getfield 87, 3) := by decide +kernel
theorem dX13_worked_309 : decode cX13_worked 309 = .ok (.iload_n 2, 1) := by decide +kernel
theorem dX13_worked_310 : decode cX13_worked 310 = .ok (.iaload, 1) := by decide +kernel
theorem dX13_worked_311 : decode cX13_worked 311 = .ok (.ifCond .ne 8, 3) := by decide +kernel
theorem dX13_worked_314 : decode cX13_worked 314 = .ok (.iload 5, 2) := by decide +kernel
theorem dX13_worked_316 : decode cX13_worked 316 = .ok (.goto 12, 3) := by decide +kernel
theorem dX13_worked_319 : decode cX13_worked 319 = .ok (.aload_n 0, 1) := by decide +kernel
theorem dX13_worked_320 : decode cX13_worked 320 = .ok (.getfield 84, 3) := by decide +kernel
theorem dX13_worked_323 : decode cX13_worked 323 = .ok (.iload_n 2, 1) := by decide +kernel
theorem dX13_worked_324 : decode cX13_worked 324 = .ok (.iaload, 1) := by decide +kernel
theorem dX13_worked_325 : decode cX13_worked 325 = .ok (.iload 5, 2) := by decide +kernel
theorem dX13_worked_327 : decode cX13_worked 327 = .ok (.imul, 1) := by decide +kernel
theorem dX13_worked_328 : decode cX13_worked 328 = .ok (.iastore, 1) := by decide +kernel
theorem dX13_worked_329 : decode cX13_worked 329 = .ok (.iinc 3 1, 3) := by decide +kernel
theorem dX13_worked_332 : decode cX13_worked 332 = .ok (.goto (-318), 3) := by decide +kernel
theorem dX13_worked_335 : decode cX13_worked 335 = .ok (.aload_n 0, 1) := by decide +kernel
theorem dX13_worked_336 : decode cX13_worked 336 = .ok (.iconst 0, 1) := by decide +kernel
theorem dX13_worked_337 : decode cX13_worked 337 = .ok (.invokevirtual 244, 3) := by decide +kernel
theorem dX13_worked_340 : decode cX13_worked 340 = .ok (.aload_n 0, 1) := by decide +kernel
theorem dX13_worked_341 : decode cX13_worked 341 = .ok (.getfield 66, 3) := by decide +kernel
theorem dX13_worked_344 : decode cX13_worked 344 = .ok (.iconst 0, 1) := by decide +kernel
theorem dX13_worked_345 : decode cX13_worked 345 = .ok (.iaload, 1) := by decide +kernel
theorem dX13_worked_346 : decode cX13_worked 346 = .ok (.ireturn, 1) := by decide +kernel
theorem dX13_isKeptWord_0 : decode cX13_isKeptWord 0 = .ok (.aload_n 0, 1) := by decide +kernel
theorem dX13_isKeptWord_1 : decode cX13_isKeptWord 1 = .ok (.getfield 178, 3) := by decide +kernel
theorem dX13_isKeptWord_4 : decode cX13_isKeptWord 4 = .ok (.iconst 1, 1) := by decide +kernel
theorem dX13_isKeptWord_5 : decode cX13_isKeptWord 5 = .ok (.if_icmp .eq 5, 3) := by decide +kernel
theorem dX13_isKeptWord_8 : decode cX13_isKeptWord 8 = .ok (.iconst 1, 1) := by decide +kernel
theorem dX13_isKeptWord_9 : decode cX13_isKeptWord 9 = .ok (.ireturn, 1) := by decide +kernel
theorem dX13_isKeptWord_10 : decode cX13_isKeptWord 10 = .ok (.aload_n 0, 1) := by decide +kernel
theorem dX13_isKeptWord_11 : decode cX13_isKeptWord 11 = .ok (.getfield 171, 3) := by decide +kernel
theorem dX13_isKeptWord_14 : decode cX13_isKeptWord 14 = .ok (.ldc2_w 247, 3) := by decide +kernel
theorem dX13_isKeptWord_17 : decode cX13_isKeptWord 17 = .ok (.lcmp, 1) := by decide +kernel
theorem dX13_isKeptWord_18 : decode cX13_isKeptWord 18 = .ok (.ifCond .eq 278, 3) := by decide +kernel
theorem dX13_isKeptWord_21 : decode cX13_isKeptWord 21 = .ok (.aload_n 0, 1) := by decide +kernel
theorem dX13_isKeptWord_22 : decode cX13_isKeptWord 22 = .ok (.getfield 171, 3) := by decide +kernel
theorem dX13_isKeptWord_25 : decode cX13_isKeptWord 25 = .ok (.ldc2_w 249, 3) := by decide +kernel
theorem dX13_isKeptWord_28 : decode cX13_isKeptWord 28 = .ok (.lcmp, 1) := by decide +kernel
theorem dX13_isKeptWord_29 : decode cX13_isKeptWord 29 = .ok (.ifCond .eq 267, 3) := by decide +kernel
theorem dX13_isKeptWord_32 : decode cX13_isKeptWord 32 = .ok (.aload_n 0, 1) := by decide +kernel
theorem dX13_isKeptWord_33 : decode cX13_isKeptWord 33 = .ok (.getfield 171, 3) := by decide +kernel
theorem dX13_isKeptWord_36 : decode cX13_isKeptWord 36 = .ok (.ldc2_w 251, 3) := by decide +kernel
theorem dX13_isKeptWord_39 : decode cX13_isKeptWord 39 = .ok (.lcmp, 1) := by decide +kernel
theorem dX13_isKeptWord_40 : decode cX13_isKeptWord 40 = .ok (.ifCond .eq 256, 3) := by decide +kernel
theorem dX13_isKeptWord_43 : decode cX13_isKeptWord 43 = .ok (.aload_n 0, 1) := by decide +kernel
theorem dX13_isKeptWord_44 : decode cX13_isKeptWord 44 = .ok (.getfield 171, 3) := by decide +kernel
theorem dX13_isKeptWord_47 : decode cX13_isKeptWord 47 = .ok (.ldc2_w 253, 3) := by decide +kernel
theorem dX13_isKeptWord_50 : decode cX13_isKeptWord 50 = .ok (.lcmp, 1) := by decide +kernel
theorem dX13_isKeptWord_51 : decode cX13_isKeptWord 51 = .ok (.ifCond .eq 245, 3) := by decide +kernel
theorem dX13_isKeptWord_54 : decode cX13_isKeptWord 54 = .ok (.aload_n 0, 1) := by decide +kernel
theorem dX13_isKeptWord_55 : decode cX13_isKeptWord 55 = .ok (.getfield 171, 3) := by decide +kernel
theorem dX13_isKeptWord_58 : decode cX13_isKeptWord 58 = .ok (.ldc2_w 255, 3) := by decide +kernel
theorem dX13_isKeptWord_61 : decode cX13_isKeptWord 61 = .ok (.lcmp, 1) := by decide +kernel
theorem dX13_isKeptWord_62 : decode cX13_isKeptWord 62 = .ok (.ifCond .eq 234, 3) := by decide +kernel
theorem dX13_isKeptWord_65 : decode cX13_isKeptWord 65 = .ok (.aload_n 0, 1) := by decide +kernel
theorem dX13_isKeptWord_66 : decode cX13_isKeptWord 66 = .ok (.getfield 171, 3) := by decide +kernel
theorem dX13_isKeptWord_69 : decode cX13_isKeptWord 69 = .ok (.ldc2_w 257, 3) := by decide +kernel
theorem dX13_isKeptWord_72 : decode cX13_isKeptWord 72 = .ok (.lcmp, 1) := by decide +kernel
theorem dX13_isKeptWord_73 : decode cX13_isKeptWord 73 = .ok (.ifCond .eq 223, 3) := by decide +kernel
theorem dX13_isKeptWord_76 : decode cX13_isKeptWord 76 = .ok (.aload_n 0, 1) := by decide +kernel
theorem dX13_isKeptWord_77 : decode cX13_isKeptWord 77 = .ok (.getfield 171, 3) := by decide +kernel
theorem dX13_isKeptWord_80 : decode cX13_isKeptWord 80 = .ok (.ldc2_w 259, 3) := by decide +kernel
theorem dX13_isKeptWord_83 : decode cX13_isKeptWord 83 = .ok (.lcmp, 1) := by decide +kernel
theorem dX13_isKeptWord_84 : decode cX13_isKeptWord 84 = .ok (.ifCond .eq 212, 3) := by decide +kernel
theorem dX13_isKeptWord_87 : decode cX13_isKeptWord 87 = .ok (.aload_n 0, 1) := by decide +kernel
theorem dX13_isKeptWord_88 : decode cX13_isKeptWord 88 = .ok (.getfield 171, 3) := by decide +kernel
theorem dX13_isKeptWord_91 : decode cX13_isKeptWord 91 = .ok (.ldc2_w 261, 3) := by decide +kernel
theorem dX13_isKeptWord_94 : decode cX13_isKeptWord 94 = .ok (.lcmp, 1) := by decide +kernel
theorem dX13_isKeptWord_95 : decode cX13_isKeptWord 95 = .ok (.ifCond .eq 201, 3) := by decide +kernel
theorem dX13_isKeptWord_98 : decode cX13_isKeptWord 98 = .ok (.aload_n 0, 1) := by decide +kernel
theorem dX13_isKeptWord_99 : decode cX13_isKeptWord 99 = .ok (.getfield 171, 3) := by decide +kernel
theorem dX13_isKeptWord_102 : decode cX13_isKeptWord 102 = .ok (.ldc2_w 263, 3) := by decide +kernel
theorem dX13_isKeptWord_105 : decode cX13_isKeptWord 105 = .ok (.lcmp, 1) := by decide +kernel
theorem dX13_isKeptWord_106 : decode cX13_isKeptWord 106 = .ok (.ifCond .eq 190, 3) := by decide +kernel
theorem dX13_isKeptWord_109 : decode cX13_isKeptWord 109 = .ok (.aload_n 0, 1) := by decide +kernel
theorem dX13_isKeptWord_110 : decode cX13_isKeptWord 110 = .ok (.getfield 171, 3) := by decide +kernel
theorem dX13_isKeptWord_113 : decode cX13_isKeptWord 113 = .ok (.ldc2_w 265, 3) := by decide +kernel
theorem dX13_isKeptWord_116 : decode cX13_isKeptWord 116 = .ok (.lcmp, 1) := by decide +kernel
theorem dX13_isKeptWord_117 : decode cX13_isKeptWord 117 = .ok (.ifCond .eq 179, 3) := by decide +kernel
theorem dX13_isKeptWord_120 : decode cX13_isKeptWord 120 = .ok (.aload_n 0, 1) := by decide +kernel
theorem dX13_isKeptWord_121 : decode cX13_isKeptWord 121 = .ok (.getfield 171, 3) := by decide +kernel
theorem dX13_isKeptWord_124 : decode cX13_isKeptWord 124 = .ok (.ldc2_w 267, 3) := by decide +kernel
theorem dX13_isKeptWord_127 : decode cX13_isKeptWord 127 = .ok (.lcmp, 1) := by decide +kernel
theorem dX13_isKeptWord_128 : decode cX13_isKeptWord 128 = .ok (.ifCond .eq 168, 3) := by decide +kernel
theorem dX13_isKeptWord_131 : decode cX13_isKeptWord 131 = .ok (.aload_n 0, 1) := by decide +kernel
theorem dX13_isKeptWord_132 : decode cX13_isKeptWord 132 = .ok (.getfield 171, 3) := by decide +kernel
theorem dX13_isKeptWord_135 : decode cX13_isKeptWord 135 = .ok (.ldc2_w 269, 3) := by decide +kernel
theorem dX13_isKeptWord_138 : decode cX13_isKeptWord 138 = .ok (.lcmp, 1) := by decide +kernel
theorem dX13_isKeptWord_139 : decode cX13_isKeptWord 139 = .ok (.ifCond .eq 157, 3) := by decide +kernel
theorem dX13_isKeptWord_142 : decode cX13_isKeptWord 142 = .ok (.aload_n 0, 1) := by decide +kernel
theorem dX13_isKeptWord_143 : decode cX13_isKeptWord 143 = .ok (.getfield 171, 3) := by decide +kernel
theorem dX13_isKeptWord_146 : decode cX13_isKeptWord 146 = .ok (.ldc2_w 271, 3) := by decide +kernel
theorem dX13_isKeptWord_149 : decode cX13_isKeptWord 149 = .ok (.lcmp, 1) := by decide +kernel
theorem dX13_isKeptWord_150 : decode cX13_isKeptWord 150 = .ok (.ifCond .eq 146, 3) := by decide +kernel
theorem dX13_isKeptWord_153 : decode cX13_isKeptWord 153 = .ok (.aload_n 0, 1) := by decide +kernel
theorem dX13_isKeptWord_154 : decode cX13_isKeptWord 154 = .ok (.getfield 171, 3) := by decide +kernel
theorem dX13_isKeptWord_157 : decode cX13_isKeptWord 157 = .ok (.ldc2_w 273, 3) := by decide +kernel
theorem dX13_isKeptWord_160 : decode cX13_isKeptWord 160 = .ok (.lcmp, 1) := by decide +kernel
theorem dX13_isKeptWord_161 : decode cX13_isKeptWord 161 = .ok (.ifCond .eq 135, 3) := by decide +kernel
theorem dX13_isKeptWord_164 : decode cX13_isKeptWord 164 = .ok (.aload_n 0, 1) := by decide +kernel
theorem dX13_isKeptWord_165 : decode cX13_isKeptWord 165 = .ok (.getfield 171, 3) := by decide +kernel
theorem dX13_isKeptWord_168 : decode cX13_isKeptWord 168 = .ok (.ldc2_w 275, 3) := by decide +kernel
theorem dX13_isKeptWord_171 : decode cX13_isKeptWord 171 = .ok (.lcmp, 1) := by decide +kernel
theorem dX13_isKeptWord_172 : decode cX13_isKeptWord 172 = .ok (.ifCond .eq 124, 3) := by decide +kernel
theorem dX13_isKeptWord_175 : decode cX13_isKeptWord 175 = .ok (.aload_n 0, 1) := by decide +kernel
theorem dX13_isKeptWord_176 : decode cX13_isKeptWord 176 = .ok (.getfield 171, 3) := by decide +kernel
theorem dX13_isKeptWord_179 : decode cX13_isKeptWord 179 = .ok (.ldc2_w 277, 3) := by decide +kernel
theorem dX13_isKeptWord_182 : decode cX13_isKeptWord 182 = .ok (.lcmp, 1) := by decide +kernel
theorem dX13_isKeptWord_183 : decode cX13_isKeptWord 183 = .ok (.ifCond .eq 113, 3) := by decide +kernel
theorem dX13_isKeptWord_186 : decode cX13_isKeptWord 186 = .ok (.aload_n 0, 1) := by decide +kernel
theorem dX13_isKeptWord_187 : decode cX13_isKeptWord 187 = .ok (.getfield 171, 3) := by decide +kernel
theorem dX13_isKeptWord_190 : decode cX13_isKeptWord 190 = .ok (.ldc2_w 279, 3) := by decide +kernel
theorem dX13_isKeptWord_193 : decode cX13_isKeptWord 193 = .ok (.lcmp, 1) := by decide +kernel
theorem dX13_isKeptWord_194 : decode cX13_isKeptWord 194 = .ok (.ifCond .eq 102, 3) := by decide +kernel
theorem dX13_isKeptWord_197 : decode cX13_isKeptWord 197 = .ok (.aload_n 0, 1) := by decide +kernel
theorem dX13_isKeptWord_198 : decode cX13_isKeptWord 198 = .ok (.getfield 171, 3) := by decide +kernel
theorem dX13_isKeptWord_201 : decode cX13_isKeptWord 201 = .ok (.ldc2_w 281, 3) := by decide +kernel
theorem dX13_isKeptWord_204 : decode cX13_isKeptWord 204 = .ok (.lcmp, 1) := by decide +kernel
theorem dX13_isKeptWord_205 : decode cX13_isKeptWord 205 = .ok (.ifCond .eq 91, 3) := by decide +kernel
theorem dX13_isKeptWord_208 : decode cX13_isKeptWord 208 = .ok (.aload_n 0, 1) := by decide +kernel
theorem dX13_isKeptWord_209 : decode cX13_isKeptWord 209 = .ok (.getfield 171, 3) := by decide +kernel
theorem dX13_isKeptWord_212 : decode cX13_isKeptWord 212 = .ok (.ldc2_w 283, 3) := by decide +kernel
theorem dX13_isKeptWord_215 : decode cX13_isKeptWord 215 = .ok (.lcmp, 1) := by decide +kernel
theorem dX13_isKeptWord_216 : decode cX13_isKeptWord 216 = .ok (.ifCond .eq 80, 3) := by decide +kernel
theorem dX13_isKeptWord_219 : decode cX13_isKeptWord 219 = .ok (.aload_n 0, 1) := by decide +kernel
theorem dX13_isKeptWord_220 : decode cX13_isKeptWord 220 = .ok (.getfield 171, 3) := by decide +kernel
theorem dX13_isKeptWord_223 : decode cX13_isKeptWord 223 = .ok (.ldc2_w 285, 3) := by decide +kernel
theorem dX13_isKeptWord_226 : decode cX13_isKeptWord 226 = .ok (.lcmp, 1) := by decide +kernel
theorem dX13_isKeptWord_227 : decode cX13_isKeptWord 227 = .ok (.ifCond .eq 69, 3) := by decide +kernel
theorem dX13_isKeptWord_230 : decode cX13_isKeptWord 230 = .ok (.aload_n 0, 1) := by decide +kernel
theorem dX13_isKeptWord_231 : decode cX13_isKeptWord 231 = .ok (.getfield 171, 3) := by decide +kernel
theorem dX13_isKeptWord_234 : decode cX13_isKeptWord 234 = .ok (.ldc2_w 287, 3) := by decide +kernel
theorem dX13_isKeptWord_237 : decode cX13_isKeptWord 237 = .ok (.lcmp, 1) := by decide +kernel
theorem dX13_isKeptWord_238 : decode cX13_isKeptWord 238 = .ok (.ifCond .eq 58, 3) := by decide +kernel
theorem dX13_isKeptWord_241 : decode cX13_isKeptWord 241 = .ok (.aload_n 0, 1) := by decide +kernel
theorem dX13_isKeptWord_242 : decode cX13_isKeptWord 242 = .ok (.getfield 171, 3) := by decide +kernel
theorem dX13_isKeptWord_245 : decode cX13_isKeptWord 245 = .ok (.ldc2_w 289, 3) := by decide +kernel
theorem dX13_isKeptWord_248 : decode cX13_isKeptWord 248 = .ok (.lcmp, 1) := by decide +kernel
theorem dX13_isKeptWord_249 : decode cX13_isKeptWord 249 = .ok (.ifCond .eq 47, 3) := by decide +kernel
theorem dX13_isKeptWord_252 : decode cX13_isKeptWord 252 = .ok (.aload_n 0, 1) := by decide +kernel
theorem dX13_isKeptWord_253 : decode cX13_isKeptWord 253 = .ok (.getfield 171, 3) := by decide +kernel
theorem dX13_isKeptWord_256 : decode cX13_isKeptWord 256 = .ok (.ldc2_w 291, 3) := by decide +kernel
theorem dX13_isKeptWord_259 : decode cX13_isKeptWord 259 = .ok (.lcmp, 1) := by decide +kernel
theorem dX13_isKeptWord_260 : decode cX13_isKeptWord 260 = .ok (.ifCond .eq 36, 3) := by decide +kernel
theorem dX13_isKeptWord_263 : decode cX13_isKeptWord 263 = .ok (.aload_n 0, 1) := by decide +kernel
theorem dX13_isKeptWord_264 : decode cX13_isKeptWord 264 = .ok (.getfield 171, 3) := by decide +kernel
theorem dX13_isKeptWord_267 : decode cX13_isKeptWord 267 = .ok (.ldc2_w 214, 3) := by decide +kernel
theorem dX13_isKeptWord_270 : decode cX13_isKeptWord 270 = .ok (.lcmp, 1) := by decide +kernel
theorem dX13_isKeptWord_271 : decode cX13_isKeptWord 271 = .ok (.ifCond .eq 25, 3) := by decide +kernel
theorem dX13_isKeptWord_274 : decode cX13_isKeptWord 274 = .ok (.aload_n 0, 1) := by decide +kernel
theorem dX13_isKeptWord_275 : decode cX13_isKeptWord 275 = .ok (.getfield 171, 3) := by decide +kernel
theorem dX13_isKeptWord_278 : decode cX13_isKeptWord 278 = .ok (.ldc2_w 234, 3) := by decide +kernel
theorem dX13_isKeptWord_281 : decode cX13_isKeptWord 281 = .ok (.lcmp, 1) := by decide +kernel
theorem dX13_isKeptWord_282 : decode cX13_isKeptWord 282 = .ok (.ifCond .eq 14, 3) := by decide +kernel
theorem dX13_isKeptWord_285 : decode cX13_isKeptWord 285 = .ok (.aload_n 0, 1) := by decide +kernel
theorem dX13_isKeptWord_286 : decode cX13_isKeptWord 286 = .ok (.getfield 171, 3) := by decide +kernel
theorem dX13_isKeptWord_289 : decode cX13_isKeptWord 289 = .ok (.ldc2_w 236, 3) := by decide +kernel
theorem dX13_isKeptWord_292 : decode cX13_isKeptWord 292 = .ok (.lcmp, 1) := by decide +kernel
theorem dX13_isKeptWord_293 : decode cX13_isKeptWord 293 = .ok (.ifCond .ne 7, 3) := by decide +kernel
theorem dX13_isKeptWord_296 : decode cX13_isKeptWord 296 = .ok (.iconst 1, 1) := by decide +kernel
theorem dX13_isKeptWord_297 : decode cX13_isKeptWord 297 = .ok (.goto 4, 3) := by decide +kernel
theorem dX13_isKeptWord_300 : decode cX13_isKeptWord 300 = .ok (.iconst 0, 1) := by decide +kernel
theorem dX13_isKeptWord_301 : decode cX13_isKeptWord 301 = .ok (.ireturn, 1) := by decide +kernel
theorem dX13_named_0 : decode cX13_named 0 = .ok (.iload_n 1, 1) := by decide +kernel
theorem dX13_named_1 : decode cX13_named 1 = .ok (.istore 5, 2) := by decide +kernel
theorem dX13_named_3 : decode cX13_named 3 = .ok (.iload 5, 2) := by decide +kernel
theorem dX13_named_5 : decode cX13_named 5 = .ok (.iload_n 1, 1) := by decide +kernel
theorem dX13_named_6 : decode cX13_named 6 = .ok (.iload_n 2, 1) := by decide +kernel
theorem dX13_named_7 : decode cX13_named 7 = .ok (.iadd, 1) := by decide +kernel
theorem dX13_named_8 : decode cX13_named 8 = .ok (.if_icmp .ge 23, 3) := by decide +kernel
theorem dX13_named_11 : decode cX13_named 11 = .ok (.aload_n 0, 1) := by decide +kernel
theorem dX13_named_12 : decode cX13_named 12 = .ok (.iload 5, 2) := by decide +kernel
theorem dX13_named_14 : decode cX13_named 14 = .ok (.laload, 1) := by decide +kernel
theorem dX13_named_15 : decode cX13_named 15 = .ok (.lload_n 3, 1) := by decide +kernel
theorem dX13_named_16 : decode cX13_named 16 = .ok (.lcmp, 1) := by decide +kernel
theorem dX13_named_17 : decode cX13_named 17 = .ok (.ifCond .ne 8, 3) := by decide +kernel
theorem dX13_named_20 : decode cX13_named 20 = .ok (.iload 5, 2) := by decide +kernel
theorem dX13_named_22 : decode cX13_named 22 = .ok (.iload_n 1, 1) := by decide +kernel
theorem dX13_named_23 : decode cX13_named 23 = .ok (.isub, 1) := by decide +kernel
theorem dX13_named_24 : decode cX13_named 24 = .ok (.ireturn, 1) := by decide +kernel
theorem dX13_named_25 : decode cX13_named 25 = .ok (.iinc 5 1, 3) := by decide +kernel
theorem dX13_named_28 : decode cX13_named 28 = .ok (.goto (-25), 3) := by decide +kernel
theorem dX13_named_31 : decode cX13_named 31 = .ok (.iconst (-1), 1) := by decide +kernel
theorem dX13_named_32 : decode cX13_named 32 = .ok (.ireturn, 1) := by decide +kernel
theorem dX13_manNamed_0 : decode cX13_manNamed 0 = .ok (.aload_n 0, 1) := by decide +kernel
theorem dX13_manNamed_1 : decode cX13_manNamed 1 = .ok (.getfield 16, 3) := by decide +kernel
theorem dX13_manNamed_4 : decode cX13_manNamed 4 = .ok (.bipush 6, 2) := by decide +kernel
theorem dX13_manNamed_6 : decode cX13_manNamed 6 = .ok (.iload_n 1, 1) := by decide +kernel
theorem dX13_manNamed_7 : decode cX13_manNamed 7 = .ok (.imul, 1) := by decide +kernel
theorem dX13_manNamed_8 : decode cX13_manNamed 8 = .ok (.aload_n 0, 1) := by decide +kernel
theorem dX13_manNamed_9 : decode cX13_manNamed 9 = .ok (.getfield 13, 3) := by decide +kernel
theorem dX13_manNamed_12 : decode cX13_manNamed 12 = .ok (.iconst 5, 1) := by decide +kernel
theorem dX13_manNamed_13 : decode cX13_manNamed 13 = .ok (.iload_n 1, 1) := by decide +kernel
theorem dX13_manNamed_14 : decode cX13_manNamed 14 = .ok (.imul, 1) := by decide +kernel
theorem dX13_manNamed_15 : decode cX13_manNamed 15 = .ok (.iconst 0, 1) := by decide +kernel
theorem dX13_manNamed_16 : decode cX13_manNamed 16 = .ok (.iadd, 1) := by decide +kernel
theorem dX13_manNamed_17 : decode cX13_manNamed 17 = .ok (.iaload, 1) := by decide +kernel
theorem dX13_manNamed_18 : decode cX13_manNamed 18 = .ok (.aload_n 0, 1) := by decide +kernel
theorem dX13_manNamed_19 : decode cX13_manNamed 19 = .ok (.getfield 171, 3) := by decide +kernel
theorem dX13_manNamed_22 : decode cX13_manNamed 22 = .ok (.invokestatic 293, 3) := by decide +kernel
theorem dX13_manNamed_25 : decode cX13_manNamed 25 = .ok (.ireturn, 1) := by decide +kernel
theorem dX13_dangerNamed_0 : decode cX13_dangerNamed 0 = .ok (.aload_n 0, 1) := by decide +kernel
theorem dX13_dangerNamed_1 : decode cX13_dangerNamed 1 = .ok (.getfield 20, 3) := by decide +kernel
theorem dX13_dangerNamed_4 : decode cX13_dangerNamed 4 = .ok (.iconst 5, 1) := by decide +kernel
theorem dX13_dangerNamed_5 : decode cX13_dangerNamed 5 = .ok (.iload_n 1, 1) := by decide +kernel
theorem dX13_dangerNamed_6 : decode cX13_dangerNamed 6 = .ok (.imul, 1) := by decide +kernel
theorem dX13_dangerNamed_7 : decode cX13_dangerNamed 7 = .ok (.aload_n 0, 1) := by decide +kernel
theorem dX13_dangerNamed_8 : decode cX13_dangerNamed 8 = .ok (.getfield 13, 3) := by decide +kernel
theorem dX13_dangerNamed_11 : decode cX13_dangerNamed 11 = .ok (.iconst 5, 1) := by decide +kernel
theorem dX13_dangerNamed_12 : decode cX13_dangerNamed 12 = .ok (.iload_n 1, 1) := by decide +kernel
theorem dX13_dangerNamed_13 : decode cX13_dangerNamed 13 = .ok (.imul, 1) := by decide +kernel
theorem dX13_dangerNamed_14 : decode cX13_dangerNamed 14 = .ok (.iconst 1, 1) := by decide +kernel
theorem dX13_dangerNamed_15 : decode cX13_dangerNamed 15 = .ok (.iadd, 1) := by decide +kernel
theorem dX13_dangerNamed_16 : decode cX13_dangerNamed 16 = .ok (.iaload, 1) := by decide +kernel
theorem dX13_dangerNamed_17 : decode cX13_dangerNamed 17 = .ok (.aload_n 0, 1) := by decide +kernel
theorem dX13_dangerNamed_18 : decode cX13_dangerNamed 18 = .ok (.getfield 171, 3) := by decide +kernel
theorem dX13_dangerNamed_21 : decode cX13_dangerNamed 21 = .ok (.invokestatic 293, 3) := by decide +kernel
theorem dX13_dangerNamed_24 : decode cX13_dangerNamed 24 = .ok (.ireturn, 1) := by decide +kernel
theorem dX13_decreeNamed_0 : decode cX13_decreeNamed 0 = .ok (.aload_n 0, 1) := by decide +kernel
theorem dX13_decreeNamed_1 : decode cX13_decreeNamed 1 = .ok (.getfield 23, 3) := by decide +kernel
theorem dX13_decreeNamed_4 : decode cX13_decreeNamed 4 = .ok (.bipush 6, 2) := by decide +kernel
theorem dX13_decreeNamed_6 : decode cX13_decreeNamed 6 = .ok (.aload_n 0, 1) := by decide +kernel
theorem dX13_decreeNamed_7 : decode cX13_decreeNamed 7 = .ok (.getfield 13, 3) := by decide +kernel
theorem dX13_decreeNamed_10 : decode cX13_decreeNamed 10 = .ok (.bipush 7, 2) := by decide +kernel
theorem dX13_decreeNamed_12 : decode cX13_decreeNamed 12 = .ok (.iaload, 1) := by decide +kernel
theorem dX13_decreeNamed_13 : decode cX13_decreeNamed 13 = .ok (.aload_n 0, 1) := by decide +kernel
theorem dX13_decreeNamed_14 : decode cX13_decreeNamed 14 = .ok (.getfield 171, 3) := by decide +kernel
theorem dX13_decreeNamed_17 : decode cX13_decreeNamed 17 = .ok (.invokestatic 293, 3) := by decide +kernel
theorem dX13_decreeNamed_20 : decode cX13_decreeNamed 20 = .ok (.ireturn, 1) := by decide +kernel
theorem dX13_needsNumber_0 : decode cX13_needsNumber 0 = .ok (.aload_n 0, 1) := by decide +kernel
theorem dX13_needsNumber_1 : decode cX13_needsNumber 1 = .ok (.getfield 178, 3) := by decide +kernel
theorem dX13_needsNumber_4 : decode cX13_needsNumber 4 = .ok (.iconst 2, 1) := by decide +kernel
theorem dX13_needsNumber_5 : decode cX13_needsNumber 5 = .ok (.if_icmp .eq 9, 3) := by decide +kernel
theorem dX13_needsNumber_8 : decode cX13_needsNumber 8 = .ok (.aload_n 0, 1) := by decide +kernel
theorem dX13_needsNumber_9 : decode cX13_needsNumber 9 = .ok (.iconst 1, 1) := by decide +kernel
theorem dX13_needsNumber_10 : decode cX13_needsNumber 10 = .ok (.invokevirtual 224, 3) := by decide +kernel
theorem dX13_needsNumber_13 : decode cX13_needsNumber 13 = .ok (.ireturn, 1) := by decide +kernel
theorem dX13_needsNumber_14 : decode cX13_needsNumber 14 = .ok (.aload_n 0, 1) := by decide +kernel
theorem dX13_needsNumber_15 : decode cX13_needsNumber 15 = .ok (.getfield 175, 3) := by decide +kernel
theorem dX13_needsNumber_18 : decode cX13_needsNumber 18 = .ok (.iload_n 1, 1) := by decide +kernel
theorem dX13_needsNumber_19 : decode cX13_needsNumber 19 = .ok (.iload_n 2, 1) := by decide +kernel
theorem dX13_needsNumber_20 : decode cX13_needsNumber 20 = .ok (.invokestatic 297, 3) := by decide +kernel
theorem dX13_needsNumber_23 : decode cX13_needsNumber 23 = .ok (.ifCond .ne 9, 3) := by decide +kernel
theorem dX13_needsNumber_26 : decode cX13_needsNumber 26 = .ok (.aload_n 0, 1) := by decide +kernel
theorem dX13_needsNumber_27 : decode cX13_needsNumber 27 = .ok (.iconst 4, 1) := by decide +kernel
theorem dX13_needsNumber_28 : decode cX13_needsNumber 28 = .ok (.invokevirtual 224, 3) := by decide +kernel
theorem dX13_needsNumber_31 : decode cX13_needsNumber 31 = .ok (.ireturn, 1) := by decide +kernel
theorem dX13_needsNumber_32 : decode cX13_needsNumber 32 = .ok (.aload_n 0, 1) := by decide +kernel
theorem dX13_needsNumber_33 : decode cX13_needsNumber 33 = .ok (.aload_n 0, 1) := by decide +kernel
theorem dX13_needsNumber_34 : decode cX13_needsNumber 34 = .ok (.getfield 175, 3) := by decide +kernel
theorem dX13_needsNumber_37 : decode cX13_needsNumber 37 = .ok (.putfield 301, 3) := by decide +kernel
theorem dX13_needsNumber_40 : decode cX13_needsNumber 40 = .ok (.aload_n 0, 1) := by decide +kernel
theorem dX13_needsNumber_41 : decode cX13_needsNumber 41 = .ok (.invokevirtual 231, 3) := by decide +kernel
theorem dX13_needsNumber_44 : decode cX13_needsNumber 44 = .ok (.iconst 1, 1) := by decide +kernel
theorem dX13_needsNumber_45 : decode cX13_needsNumber 45 = .ok (.ireturn, 1) := by decide +kernel
theorem dX13_needsBoth_0 : decode cX13_needsBoth 0 = .ok (.aload_n 0, 1) := by decide +kernel
theorem dX13_needsBoth_1 : decode cX13_needsBoth 1 = .ok (.lload_n 1, 1) := by decide +kernel
theorem dX13_needsBoth_2 : decode cX13_needsBoth 2 = .ok (.invokevirtual 216, 3) := by decide +kernel
theorem dX13_needsBoth_5 : decode cX13_needsBoth 5 = .ok (.ifCond .ne 9, 3) := by decide +kernel
theorem dX13_needsBoth_8 : decode cX13_needsBoth 8 = .ok (.aload_n 0, 1) := by decide +kernel
theorem dX13_needsBoth_9 : decode cX13_needsBoth 9 = .ok (.iconst 1, 1) := by decide +kernel
theorem dX13_needsBoth_10 : decode cX13_needsBoth 10 = .ok (.invokevirtual 224, 3) := by decide +kernel
theorem dX13_needsBoth_13 : decode cX13_needsBoth 13 = .ok (.ireturn, 1) := by decide +kernel
theorem dX13_needsBoth_14 : decode cX13_needsBoth 14 = .ok (.aload_n 0, 1) := by decide +kernel
theorem dX13_needsBoth_15 : decode cX13_needsBoth 15 = .ok (.invokevirtual 231, 3) := by decide +kernel
theorem dX13_needsBoth_18 : decode cX13_needsBoth 18 = .ok (.aload_n 0, 1) := by decide +kernel
theorem dX13_needsBoth_19 : decode cX13_needsBoth 19 = .ok (.iload_n 3, 1) := by decide +kernel
theorem dX13_needsBoth_20 : decode cX13_needsBoth 20 = .ok (.iload 4, 2) := by decide +kernel
theorem dX13_needsBoth_22 : decode cX13_needsBoth 22 = .ok (.invokevirtual 304, 3) := by decide +kernel
theorem dX13_needsBoth_25 : decode cX13_needsBoth 25 = .ok (.ireturn, 1) := by decide +kernel
theorem dX13_closes_0 : decode cX13_closes 0 = .ok (.aload_n 0, 1) := by decide +kernel
theorem dX13_closes_1 : decode cX13_closes 1 = .ok (.bipush 59, 2) := by decide +kernel
theorem dX13_closes_3 : decode cX13_closes 3 = .ok (.invokevirtual 220, 3) := by decide +kernel
theorem dX13_closes_6 : decode cX13_closes 6 = .ok (.ifCond .ne 9, 3) := by decide +kernel
theorem dX13_closes_9 : decode cX13_closes 9 = .ok (.aload_n 0, 1) := by decide +kernel
theorem dX13_closes_10 : decode cX13_closes 10 = .ok (.iconst 1, 1) := by decide +kernel
theorem dX13_closes_11 : decode cX13_closes 11 = .ok (.invokevirtual 224, 3) := by decide +kernel
theorem dX13_closes_14 : decode cX13_closes 14 = .ok (.ireturn, 1) := by decide +kernel
theorem dX13_closes_15 : decode cX13_closes 15 = .ok (.aload_n 0, 1) := by decide +kernel
theorem dX13_closes_16 : decode cX13_closes 16 = .ok (.invokevirtual 231, 3) := by decide +kernel
theorem dX13_closes_19 : decode cX13_closes 19 = .ok (.iconst 1, 1) := by decide +kernel
theorem dX13_closes_20 : decode cX13_closes 20 = .ok (.ireturn, 1) := by decide +kernel
theorem dX13_needsNew_0 : decode cX13_needsNew 0 = .ok (.aload_n 0, 1) := by decide +kernel
theorem dX13_needsNew_1 : decode cX13_needsNew 1 = .ok (.invokevirtual 308, 3) := by decide +kernel
theorem dX13_needsNew_4 : decode cX13_needsNew 4 = .ok (.ifCond .eq 9, 3) := by decide +kernel
theorem dX13_needsNew_7 : decode cX13_needsNew 7 = .ok (.aload_n 0, 1) := by decide +kernel
theorem dX13_needsNew_8 : decode cX13_needsNew 8 = .ok (.iconst 1, 1) := by decide +kernel
theorem dX13_needsNew_9 : decode cX13_needsNew 9 = .ok (.invokevirtual 224, 3) := by decide +kernel
theorem dX13_needsNew_12 : decode cX13_needsNew 12 = .ok (.ireturn, 1) := by decide +kernel
theorem dX13_needsNew_13 : decode cX13_needsNew 13 = .ok (.aload_n 0, 1) := by decide +kernel
theorem dX13_needsNew_14 : decode cX13_needsNew 14 = .ok (.iconst 1, 1) := by decide +kernel
theorem dX13_needsNew_15 : decode cX13_needsNew 15 = .ok (.invokevirtual 312, 3) := by decide +kernel
theorem dX13_needsNew_18 : decode cX13_needsNew 18 = .ok (.ifCond .ge 18, 3) := by decide +kernel
theorem dX13_needsNew_21 : decode cX13_needsNew 21 = .ok (.aload_n 0, 1) := by decide +kernel
theorem dX13_needsNew_22 : decode cX13_needsNew 22 = .ok (.iconst 1, 1) := by decide +kernel
theorem dX13_needsNew_23 : decode cX13_needsNew 23 = .ok (.invokevirtual 315, 3) := by decide +kernel
theorem dX13_needsNew_26 : decode cX13_needsNew 26 = .ok (.ifCond .ge 10, 3) := by decide +kernel
theorem dX13_needsNew_29 : decode cX13_needsNew 29 = .ok (.aload_n 0, 1) := by decide +kernel
theorem dX13_needsNew_30 : decode cX13_needsNew 30 = .ok (.invokevirtual 318, 3) := by decide +kernel
theorem dX13_needsNew_33 : decode cX13_needsNew 33 = .ok (.ifCond .lt 9, 3) := by decide +kernel
theorem dX13_needsNew_36 : decode cX13_needsNew 36 = .ok (.aload_n 0, 1) := by decide +kernel
theorem dX13_needsNew_37 : decode cX13_needsNew 37 = .ok (.iconst 3, 1) := by decide +kernel
theorem dX13_needsNew_38 : decode cX13_needsNew 38 = .ok (.invokevirtual 224, 3) := by decide +kernel
theorem dX13_needsNew_41 : decode cX13_needsNew 41 = .ok (.ireturn, 1) := by decide +kernel
theorem dX13_needsNew_42 : decode cX13_needsNew 42 = .ok (.aload_n 0, 1) := by decide +kernel
theorem dX13_needsNew_43 : decode cX13_needsNew 43 = .ok (.aload_n 0, 1) := by decide +kernel
theorem dX13_needsNew_44 : decode cX13_needsNew 44 = .ok (.getfield 171, 3) := by decide +kernel
theorem dX13_needsNew_47 : decode cX13_needsNew 47 = .ok (.putfield 321, 3) := by decide +kernel
theorem dX13_needsNew_50 : decode cX13_needsNew 50 = .ok (.aload_n 0, 1) := by decide +kernel
theorem dX13_needsNew_51 : decode cX13_needsNew 51 = .ok (.invokevirtual 231, 3) := by decide +kernel
theorem dX13_needsNew_54 : decode cX13_needsNew 54 = .ok (.iconst 1, 1) := by decide +kernel
theorem dX13_needsNew_55 : decode cX13_needsNew 55 = .ok (.ireturn, 1) := by decide +kernel
theorem dX13_needsMan_0 : decode cX13_needsMan 0 = .ok (.aload_n 0, 1) := by decide +kernel
theorem dX13_needsMan_1 : decode cX13_needsMan 1 = .ok (.invokevirtual 308, 3) := by decide +kernel
theorem dX13_needsMan_4 : decode cX13_needsMan 4 = .ok (.ifCond .eq 9, 3) := by decide +kernel
theorem dX13_needsMan_7 : decode cX13_needsMan 7 = .ok (.aload_n 0, 1) := by decide +kernel
theorem dX13_needsMan_8 : decode cX13_needsMan 8 = .ok (.iconst 1, 1) := by decide +kernel
theorem dX13_needsMan_9 : decode cX13_needsMan 9 = .ok (.invokevirtual 224, 3) := by decide +kernel
theorem dX13_needsMan_12 : decode cX13_needsMan 12 = .ok (.ireturn, 1) := by decide +kernel
theorem dX13_needsMan_13 : decode cX13_needsMan 13 = .ok (.aload_n 0, 1) := by decide +kernel
theorem dX13_needsMan_14 : decode cX13_needsMan 14 = .ok (.aload_n 0, 1) := by decide +kernel
theorem dX13_needsMan_15 : decode cX13_needsMan 15 = .ok (.iload_n 1, 1) := by decide +kernel
theorem dX13_needsMan_16 : decode cX13_needsMan 16 = .ok (.invokevirtual 312, 3) := by decide +kernel
theorem dX13_needsMan_19 : decode cX13_needsMan 19 = .ok (.putfield 301, 3) := by decide +kernel
theorem dX13_needsMan_22 : decode cX13_needsMan 22 = .ok (.aload_n 0, 1) := by decide +kernel
theorem dX13_needsMan_23 : decode cX13_needsMan 23 = .ok (.getfield 301, 3) := by decide +kernel
theorem dX13_needsMan_26 : decode cX13_needsMan 26 = .ok (.ifCond .ge 11, 3) := by decide +kernel
theorem dX13_needsMan_29 : decode cX13_needsMan 29 = .ok (.aload_n 0, 1) := by decide +kernel
theorem dX13_needsMan_30 : decode cX13_needsMan 30 = .ok (.iconst 2, 1) := by decide +kernel
theorem dX13_needsMan_31 : decode cX13_needsMan 31 = .ok (.invokevirtual 224, 3) := by decide +kernel
theorem dX13_needsMan_34 : decode cX13_needsMan 34 = .ok (.ifCond .eq 7, 3) := by decide +kernel
theorem dX13_needsMan_37 : decode cX13_needsMan 37 = .ok (.iconst 1, 1) := by decide +kernel
theorem dX13_needsMan_38 : decode cX13_needsMan 38 = .ok (.goto 4, 3) := by decide +kernel
theorem dX13_needsMan_41 : decode cX13_needsMan 41 = .ok (.iconst 0, 1) := by decide +kernel
theorem dX13_needsMan_42 : decode cX13_needsMan 42 = .ok (.ireturn, 1) := by decide +kernel
theorem dX13_needsDanger_0 : decode cX13_needsDanger 0 = .ok (.aload_n 0, 1) := by decide +kernel
theorem dX13_needsDanger_1 : decode cX13_needsDanger 1 = .ok (.invokevirtual 308, 3) := by decide +kernel
theorem dX13_needsDanger_4 : decode cX13_needsDanger 4 = .ok (.ifCond .eq 9, 3) := by decide +kernel
theorem dX13_needsDanger_7 : decode cX13_needsDanger 7 = .ok (.aload_n 0, 1) := by decide +kernel
theorem dX13_needsDanger_8 : decode cX13_needsDanger 8 = .ok (.iconst 1, 1) := by decide +kernel
theorem dX13_needsDanger_9 : decode cX13_needsDanger 9 = .ok (.invokevirtual 224, 3) := by decide +kernel
theorem dX13_needsDanger_12 : decode cX13_needsDanger 12 = .ok (.ireturn, 1) := by decide +kernel
theorem dX13_needsDanger_13 : decode cX13_needsDanger 13 = .ok (.aload_n 0, 1) := by decide +kernel
theorem dX13_needsDanger_14 : decode cX13_needsDanger 14 = .ok (.aload_n 0, 1) := by decide +kernel
theorem dX13_needsDanger_15 : decode cX13_needsDanger 15 = .ok (.iconst 0, 1) := by decide +kernel
theorem dX13_needsDanger_16 : decode cX13_needsDanger 16 = .ok (.invokevirtual 315, 3) := by decide +kernel
theorem dX13_needsDanger_19 : decode cX13_needsDanger 19 = .ok (.putfield 301, 3) := by decide +kernel
theorem dX13_needsDanger_22 : decode cX13_needsDanger 22 = .ok (.aload_n 0, 1) := by decide +kernel
theorem dX13_needsDanger_23 : decode cX13_needsDanger 23 = .ok (.getfield 301, 3) := by decide +kernel
theorem dX13_needsDanger_26 : decode cX13_needsDanger 26 = .ok (.ifCond .ge 11, 3) := by decide +kernel
theorem dX13_needsDanger_29 : decode cX13_needsDanger 29 = .ok (.aload_n 0, 1) := by decide +kernel
theorem dX13_needsDanger_30 : decode cX13_needsDanger 30 = .ok (.iconst 2, 1) := by decide +kernel
theorem dX13_needsDanger_31 : decode cX13_needsDanger 31 = .ok (.invokevirtual 224, 3) := by decide +kernel
theorem dX13_needsDanger_34 : decode cX13_needsDanger 34 = .ok (.ifCond .eq 7, 3) := by decide +kernel
theorem dX13_needsDanger_37 : decode cX13_needsDanger 37 = .ok (.iconst 1, 1) := by decide +kernel
theorem dX13_needsDanger_38 : decode cX13_needsDanger 38 = .ok (.goto 4, 3) := by decide +kernel
theorem dX13_needsDanger_41 : decode cX13_needsDanger 41 = .ok (.iconst 0, 1) := by decide +kernel
theorem dX13_needsDanger_42 : decode cX13_needsDanger 42 = .ok (.ireturn, 1) := by decide +kernel
theorem dX13_isTwice_0 : decode cX13_isTwice 0 = .ok (.aload_n 0, 1) := by decide +kernel
theorem dX13_isTwice_1 : decode cX13_isTwice 1 = .ok (.getfield 323, 3) := by decide +kernel
theorem dX13_isTwice_4 : decode cX13_isTwice 4 = .ok (.iload_n 1, 1) := by decide +kernel
theorem dX13_isTwice_5 : decode cX13_isTwice 5 = .ok (.ishr, 1) := by decide +kernel
theorem dX13_isTwice_6 : decode cX13_isTwice 6 = .ok (.iconst 1, 1) := by decide +kernel
theorem dX13_isTwice_7 : decode cX13_isTwice 7 = .ok (.iand, 1) := by decide +kernel
theorem dX13_isTwice_8 : decode cX13_isTwice 8 = .ok (.iconst 1, 1) := by decide +kernel
theorem dX13_isTwice_9 : decode cX13_isTwice 9 = .ok (.if_icmp .ne 5, 3) := by decide +kernel
theorem dX13_isTwice_12 : decode cX13_isTwice 12 = .ok (.iconst 1, 1) := by decide +kernel
theorem dX13_isTwice_13 : decode cX13_isTwice 13 = .ok (.ireturn, 1) := by decide +kernel
theorem dX13_isTwice_14 : decode cX13_isTwice 14 = .ok (.aload_n 0, 1) := by decide +kernel
theorem dX13_isTwice_15 : decode cX13_isTwice 15 = .ok (.dup, 1) := by decide +kernel
theorem dX13_isTwice_16 : decode cX13_isTwice 16 = .ok (.getfield 323, 3) := by decide +kernel
theorem dX13_isTwice_19 : decode cX13_isTwice 19 = .ok (.iconst 1, 1) := by decide +kernel
theorem dX13_isTwice_20 : decode cX13_isTwice 20 = .ok (.iload_n 1, 1) := by decide +kernel
theorem dX13_isTwice_21 : decode cX13_isTwice 21 = .ok (.ishl, 1) := by decide +kernel
theorem dX13_isTwice_22 : decode cX13_isTwice 22 = .ok (.ior, 1) := by decide +kernel
theorem dX13_isTwice_23 : decode cX13_isTwice 23 = .ok (.putfield 323, 3) := by decide +kernel
theorem dX13_isTwice_26 : decode cX13_isTwice 26 = .ok (.iconst 0, 1) := by decide +kernel
theorem dX13_isTwice_27 : decode cX13_isTwice 27 = .ok (.ireturn, 1) := by decide +kernel
theorem dX13_readsMan_0 : decode cX13_readsMan 0 = .ok (.bipush 6, 2) := by decide +kernel
theorem dX13_readsMan_2 : decode cX13_readsMan 2 = .ok (.aload_n 0, 1) := by decide +kernel
theorem dX13_readsMan_3 : decode cX13_readsMan 3 = .ok (.getfield 13, 3) := by decide +kernel
theorem dX13_readsMan_6 : decode cX13_readsMan 6 = .ok (.iconst 5, 1) := by decide +kernel
theorem dX13_readsMan_7 : decode cX13_readsMan 7 = .ok (.iaload, 1) := by decide +kernel
theorem dX13_readsMan_8 : decode cX13_readsMan 8 = .ok (.iadd, 1) := by decide +kernel
theorem dX13_readsMan_9 : decode cX13_readsMan 9 = .ok (.istore_n 1, 1) := by decide +kernel
theorem dX13_readsMan_10 : decode cX13_readsMan 10 = .ok (.iload_n 1, 1) := by decide +kernel
theorem dX13_readsMan_11 : decode cX13_readsMan 11 = .ok (.bipush 12, 2) := by decide +kernel
theorem dX13_readsMan_13 : decode cX13_readsMan 13 = .ok (.if_icmp .ne 9, 3) := by decide +kernel
theorem dX13_readsMan_16 : decode cX13_readsMan 16 = .ok (.aload_n 0, 1) := by decide +kernel
theorem dX13_readsMan_17 : decode cX13_readsMan 17 = .ok (.iconst 5, 1) := by decide +kernel
theorem dX13_readsMan_18 : decode cX13_readsMan 18 = .ok (.invokevirtual 224, 3) := by decide +kernel
theorem dX13_readsMan_21 : decode cX13_readsMan 21 = .ok (.ireturn, 1) := by decide +kernel
theorem dX13_readsMan_22 : decode cX13_readsMan 22 = .ok (.aload_n 0, 1) := by decide +kernel
theorem dX13_readsMan_23 : decode cX13_readsMan 23 = .ok (.invokevirtual 231, 3) := by decide +kernel
theorem dX13_readsMan_26 : decode cX13_readsMan 26 = .ok (.aload_n 0, 1) := by decide +kernel
theorem dX13_readsMan_27 : decode cX13_readsMan 27 = .ok (.invokevirtual 326, 3) := by decide +kernel
theorem dX13_readsMan_30 : decode cX13_readsMan 30 = .ok (.ifCond .ne 5, 3) := by decide +kernel
theorem dX13_readsMan_33 : decode cX13_readsMan 33 = .ok (.iconst 0, 1) := by decide +kernel
theorem dX13_readsMan_34 : decode cX13_readsMan 34 = .ok (.ireturn, 1) := by decide +kernel
theorem dX13_readsMan_35 : decode cX13_readsMan 35 = .ok (.aload_n 0, 1) := by decide +kernel
theorem dX13_readsMan_36 : decode cX13_readsMan 36 = .ok (.getfield 26, 3) := by decide +kernel
theorem dX13_readsMan_39 : decode cX13_readsMan 39 = .ok (.iload_n 1, 1) := by decide +kernel
theorem dX13_readsMan_40 : decode cX13_readsMan 40 = .ok (.aload_n 0, 1) := by decide +kernel
theorem dX13_readsMan_41 : decode cX13_readsMan 41 = .ok (.ldc2_w 285, 3) := by decide +kernel
theorem dX13_readsMan_44 : decode cX13_readsMan 44 = .ok (.invokevirtual 216, 3) := by decide +kernel
theorem dX13_readsMan_47 : decode cX13_readsMan 47 = .ok (.ifCond .eq 7, 3) := by decide +kernel
theorem dX13_readsMan_50 : decode cX13_readsMan 50 = .ok (.iconst 0, 1) := by decide +kernel
theorem dX13_readsMan_51 : decode cX13_readsMan 51 = .ok (.goto 46, 3) := by decide +kernel
theorem dX13_readsMan_54 : decode cX13_readsMan 54 = .ok (.aload_n 0, 1) := by decide +kernel
theorem dX13_readsMan_55 : decode cX13_readsMan 55 = .ok (.ldc2_w 287, 3) := by decide +kernel
theorem dX13_readsMan_58 : decode cX13_readsMan 58 = .ok (.invokevirtual 216, 3) := by decide +kernel
theorem dX13_readsMan_61 : decode cX13_readsMan 61 = .ok (.ifCond .eq 7, 3) := by decide +kernel
theorem dX13_readsMan_64 : decode cX13_readsMan 64 = .ok (.iconst 1, 1) := by decide +kernel
theorem dX13_readsMan_65 : decode cX13_readsMan 65 = .ok (.goto 32, 3) := by decide +kernel
theorem dX13_readsMan_68 : decode cX13_readsMan 68 = .ok (.aload_n 0, 1) := by decide +kernel
theorem dX13_readsMan_69 : decode cX13_readsMan 69 = .ok (.ldc2_w 289, 3) := by decide +kernel
theorem dX13_readsMan_72 : decode cX13_readsMan 72 = .ok (.invokevirtual 216, 3) := by decide +kernel
theorem dX13_readsMan_75 : decode cX13_readsMan 75 = .ok (.ifCond .eq 7, 3) := by decide +kernel
theorem dX13_readsMan_78 : decode cX13_readsMan 78 = .ok (.iconst 2, 1) := by decide +kernel
theorem dX13_readsMan_79 : decode cX13_readsMan 79 = .ok (.goto 18, 3) := by decide +kernel
theorem dX13_readsMan_82 : decode cX13_readsMan 82 = .ok (.aload_n 0, 1) := by decide +kernel
theorem dX13_readsMan_83 : decode cX13_readsMan 83 = .ok (.ldc2_w 291, 3) := by decide +kernel
theorem dX13_readsMan_86 : decode cX13_readsMan 86 = .ok (.invokevirtual 216, 3) := by decide +kernel
theorem dX13_readsMan_89 : decode cX13_readsMan 89 = .ok (.ifCond .eq 7, 3) := by decide +kernel
theorem dX13_readsMan_92 : decode cX13_readsMan 92 = .ok (.iconst 3, 1) := by decide +kernel
theorem dX13_readsMan_93 : decode cX13_readsMan 93 = .ok (.goto 4, 3) := by decide +kernel
theorem dX13_readsMan_96 : decode cX13_readsMan 96 = .ok (.iconst (-1), 1) := by decide +kernel
theorem dX13_readsMan_97 : decode cX13_readsMan 97 = .ok (.iastore, 1) := by decide +kernel
theorem dX13_readsMan_98 : decode cX13_readsMan 98 = .ok (.aload_n 0, 1) := by decide +kernel
theorem dX13_readsMan_99 : decode cX13_readsMan 99 = .ok (.getfield 26, 3) := by decide +kernel
theorem dX13_readsMan_102 : decode cX13_readsMan 102 = .ok (.iload_n 1, 1) := by decide +kernel
theorem dX13_readsMan_103 : decode cX13_readsMan 103 = .ok (.iaload, 1) := by decide +kernel
theorem dX13_readsMan_104 : decode cX13_readsMan 104 = .ok (.ifCond .ge 9, 3) := by decide +kernel
theorem dX13_readsMan_107 : decode cX13_readsMan 107 = .ok (.aload_n 0, 1) := by decide +kernel
theorem dX13_readsMan_108 : decode cX13_readsMan 108 = .ok (.iconst 1, 1) := by decide +kernel
theorem dX13_readsMan_109 : decode cX13_readsMan 109 = .ok (.invokevirtual 224, 3) := by decide +kernel
theorem dX13_readsMan_112 : decode cX13_readsMan 112 = .ok (.ireturn, 1) := by decide +kernel
theorem dX13_readsMan_113 : decode cX13_readsMan 113 = .ok (.aload_n 0, 1) := by decide +kernel
theorem dX13_readsMan_114 : decode cX13_readsMan 114 = .ok (.invokevirtual 231, 3) := by decide +kernel
theorem dX13_readsMan_117 : decode cX13_readsMan 117 = .ok (.aload_n 0, 1) := by decide +kernel
theorem dX13_readsMan_118 : decode cX13_readsMan 118 = .ok (.ldc2_w 249, 3) := by decide +kernel
theorem dX13_readsMan_121 : decode cX13_readsMan 121 = .ok (.iconst 0, 1) := by decide +kernel
theorem dX13_readsMan_122 : decode cX13_readsMan 122 = .ok (.bipush 9, 2) := by decide +kernel
theorem dX13_readsMan_124 : decode cX13_readsMan 124 = .ok (.invokevirtual 329, 3) := by decide +kernel
theorem dX13_readsMan_127 : decode cX13_readsMan 127 = .ok (.ifCond .ne 5, 3) := by decide +kernel
theorem dX13_readsMan_130 : decode cX13_readsMan 130 = .ok (.iconst 0, 1) := by decide +kernel
theorem dX13_readsMan_131 : decode cX13_readsMan 131 = .ok (.ireturn, 1) := by decide +kernel
theorem dX13_readsMan_132 : decode cX13_readsMan 132 = .ok (.aload_n 0, 1) := by decide +kernel
theorem dX13_readsMan_133 : decode cX13_readsMan 133 = .ok (.getfield 29, 3) := by decide +kernel
theorem dX13_readsMan_136 : decode cX13_readsMan 136 = .ok (.iload_n 1, 1) := by decide +kernel
theorem dX13_readsMan_137 : decode cX13_readsMan 137 = .ok (.aload_n 0, 1) := by decide +kernel
theorem dX13_readsMan_138 : decode cX13_readsMan 138 = .ok (.getfield 301, 3) := by decide +kernel
theorem dX13_readsMan_141 : decode cX13_readsMan 141 = .ok (.iastore, 1) := by decide +kernel
theorem dX13_readsMan_142 : decode cX13_readsMan 142 = .ok (.aload_n 0, 1) := by decide +kernel
theorem dX13_readsMan_143 : decode cX13_readsMan 143 = .ok (.ldc2_w 251, 3) := by decide +kernel
theorem dX13_readsMan_146 : decode cX13_readsMan 146 = .ok (.iconst 0, 1) := by decide +kernel
theorem dX13_readsMan_147 : decode cX13_readsMan 147 = .ok (.bipush 99, 2) := by decide +kernel
theorem dX13_readsMan_149 : decode cX13_readsMan 149 = .ok (.invokevirtual 329, 3) := by decide +kernel
theorem dX13_readsMan_152 : decode cX13_readsMan 152 = .ok (.ifCond .ne 5, 3) := by decide +kernel
theorem dX13_readsMan_155 : decode cX13_readsMan 155 = .ok (.iconst 0, 1) := by decide +kernel
theorem dX13_readsMan_156 : decode cX13_readsMan 156 = .ok (.ireturn, 1) := by decide +kernel
theorem dX13_readsMan_157 : decode cX13_readsMan 157 = .ok (.aload_n 0, 1) := by decide +kernel
theorem dX13_readsMan_158 : decode cX13_readsMan 158 = .ok (.getfield 32, 3) := by decide +kernel
theorem dX13_readsMan_161 : decode cX13_readsMan 161 = .ok (.iload_n 1, 1) := by decide +kernel
theorem dX13_readsMan_162 : decode cX13_readsMan 162 = .ok (.aload_n 0, 1) := by decide +kernel
theorem dX13_readsMan_163 : decode cX13_readsMan 163 = .ok (.getfield 301, 3) := by decide +kernel
theorem dX13_readsMan_166 : decode cX13_readsMan 166 = .ok (.iastore, 1) := by decide +kernel
theorem dX13_readsMan_167 : decode cX13_readsMan 167 = .ok (.aload_n 0, 1) := by decide +kernel
theorem dX13_readsMan_168 : decode cX13_readsMan 168 = .ok (.ldc2_w 253, 3) := by decide +kernel
theorem dX13_readsMan_171 : decode cX13_readsMan 171 = .ok (.iconst 0, 1) := by decide +kernel
theorem dX13_readsMan_172 : decode cX13_readsMan 172 = .ok (.bipush 9, 2) := by decide +kernel
theorem dX13_readsMan_174 : decode cX13_readsMan 174 = .ok (.invokevirtual 329, 3) := by decide +kernel
theorem dX13_readsMan_177 : decode cX13_readsMan 177 = .ok (.ifCond .ne 5, 3) := by decide +kernel
theorem dX13_readsMan_180 : decode cX13_readsMan 180 = .ok (.iconst 0, 1) := by decide +kernel
theorem dX13_readsMan_181 : decode cX13_readsMan 181 = .ok (.ireturn, 1) := by decide +kernel
theorem dX13_readsMan_182 : decode cX13_readsMan 182 = .ok (.aload_n 0, 1) := by decide +kernel
theorem dX13_readsMan_183 : decode cX13_readsMan 183 = .ok (.getfield 35, 3) := by decide +kernel
theorem dX13_readsMan_186 : decode cX13_readsMan 186 = .ok (.iload_n 1, 1) := by decide +kernel
theorem dX13_readsMan_187 : decode cX13_readsMan 187 = .ok (.aload_n 0, 1) := by decide +kernel
theorem dX13_readsMan_188 : decode cX13_readsMan 188 = .ok (.getfield 301, 3) := by decide +kernel
theorem dX13_readsMan_191 : decode cX13_readsMan 191 = .ok (.iastore, 1) := by decide +kernel
theorem dX13_readsMan_192 : decode cX13_readsMan 192 = .ok (.aload_n 0, 1) := by decide +kernel
theorem dX13_readsMan_193 : decode cX13_readsMan 193 = .ok (.getfield 38, 3) := by decide +kernel
theorem dX13_readsMan_196 : decode cX13_readsMan 196 = .ok (.iload_n 1, 1) := by decide +kernel
theorem dX13_readsMan_197 : decode cX13_readsMan 197 = .ok (.iconst 0, 1) := by decide +kernel
theorem dX13_readsMan_198 : decode cX13_readsMan 198 = .ok (.iastore, 1) := by decide +kernel
theorem dX13_readsMan_199 : decode cX13_readsMan 199 = .ok (.aload_n 0, 1) := by decide +kernel
theorem dX13_readsMan_200 : decode cX13_readsMan 200 = .ok (.getfield 16, 3) := by decide +kernel
theorem dX13_readsMan_203 : decode cX13_readsMan 203 = .ok (.iload_n 1, 1) := by decide +kernel
theorem dX13_readsMan_204 : decode cX13_readsMan 204 = .ok (.aload_n 0, 1) := by decide +kernel
theorem dX13_readsMan_205 : decode cX13_readsMan 205 = .ok (.getfield 321, 3) := by decide +kernel
theorem dX13_readsMan_208 : decode cX13_readsMan 208 = .ok (.lastore, 1) := by decide +kernel
theorem dX13_readsMan_209 : decode cX13_readsMan 209 = .ok (.aload_n 0, 1) := by decide +kernel
theorem dX13_readsMan_210 : decode cX13_readsMan 210 = .ok (.getfield 13, 3) := by decide +kernel
theorem dX13_readsMan_213 : decode cX13_readsMan 213 = .ok (.iconst 5, 1) := by decide +kernel
theorem dX13_readsMan_214 : decode cX13_readsMan 214 = .ok (.dup2, 1) := by decide +kernel
theorem dX13_readsMan_215 : decode cX13_readsMan 215 = .ok (.iaload, 1) := by decide +kernel
theorem dX13_readsMan_216 : decode cX13_readsMan 216 = .ok (.iconst 1, 1) := by decide +kernel
theorem dX13_readsMan_217 : decode cX13_readsMan 217 = .ok (.iadd, 1) := by decide +kernel
theorem dX13_readsMan_218 : decode cX13_readsMan 218 = .ok (.iastore, 1) := by decide +kernel
theorem dX13_readsMan_219 : decode cX13_readsMan 219 = .ok (.aload_n 0, 1) := by decide +kernel
theorem dX13_readsMan_220 : decode cX13_readsMan 220 = .ok (.invokevirtual 333, 3) := by decide +kernel
theorem dX13_readsMan_223 : decode cX13_readsMan 223 = .ok (.ireturn, 1) := by decide +kernel
theorem dX13_readsConsul_0 : decode cX13_readsConsul 0 = .ok (.aload_n 0, 1) := by decide +kernel
theorem dX13_readsConsul_1 : decode cX13_readsConsul 1 = .ok (.getfield 336, 3) := by decide +kernel
theorem dX13_readsConsul_4 : decode cX13_readsConsul 4 = .ok (.iconst 2, 1) := by decide +kernel
theorem dX13_readsConsul_5 : decode cX13_readsConsul 5 = .ok (.if_icmp .ne 9, 3) := by decide +kernel
theorem dX13_readsConsul_8 : decode cX13_readsConsul 8 = .ok (.aload_n 0, 1) := by decide +kernel
theorem dX13_readsConsul_9 : decode cX13_readsConsul 9 = .ok (.iconst 5, 1) := by decide +kernel
theorem dX13_readsConsul_10 : decode cX13_readsConsul 10 = .ok (.invokevirtual 224, 3) := by decide +kernel
theorem dX13_readsConsul_13 : decode cX13_readsConsul 13 = .ok (.ireturn, 1) := by decide +kernel
theorem dX13_readsConsul_14 : decode cX13_readsConsul 14 = .ok (.aload_n 0, 1) := by decide +kernel
theorem dX13_readsConsul_15 : decode cX13_readsConsul 15 = .ok (.invokevirtual 231, 3) := by decide +kernel
theorem dX13_readsConsul_18 : decode cX13_readsConsul 18 = .ok (.aload_n 0, 1) := by decide +kernel
theorem dX13_readsConsul_19 : decode cX13_readsConsul 19 = .ok (.iconst 1, 1) := by decide +kernel
theorem dX13_readsConsul_20 : decode cX13_readsConsul 20 = .ok (.invokevirtual 339, 3) := by decide +kernel
theorem dX13_readsConsul_23 : decode cX13_readsConsul 23 = .ok (.ifCond .ne 5, 3) := by decide +kernel
theorem dX13_readsConsul_26 : decode cX13_readsConsul 26 = .ok (.iconst 0, 1) := by decide +kernel
theorem dX13_readsConsul_27 : decode cX13_readsConsul 27 = .ok (.ireturn, 1) := by decide +kernel
theorem dX13_readsConsul_28 : decode cX13_readsConsul 28 = .ok (.aload_n 0, 1) := by decide +kernel
theorem dX13_readsConsul_29 : decode cX13_readsConsul 29 = .ok (.getfield 13, 3) := by decide +kernel
theorem dX13_readsConsul_32 : decode cX13_readsConsul 32 = .ok (.bipush 8, 2) := by decide +kernel
theorem dX13_readsConsul_34 : decode cX13_readsConsul 34 = .ok (.iaload, 1) := by decide +kernel
theorem dX13_readsConsul_35 : decode cX13_readsConsul 35 = .ok (.aload_n 0, 1) := by decide +kernel
theorem dX13_readsConsul_36 : decode cX13_readsConsul 36 = .ok (.getfield 301, 3) := by decide +kernel
theorem dX13_readsConsul_39 : decode cX13_readsConsul 39 = .ok (.ishr, 1) := by decide +kernel
theorem dX13_readsConsul_40 : decode cX13_readsConsul 40 = .ok (.iconst 1, 1) := by decide +kernel
theorem dX13_readsConsul_41 : decode cX13_readsConsul 41 = .ok (.iand, 1) := by decide +kernel
theorem dX13_readsConsul_42 : decode cX13_readsConsul 42 = .ok (.iconst 1, 1) := by decide +kernel
theorem dX13_readsConsul_43 : decode cX13_readsConsul 43 = .ok (.if_icmp .ne 9, 3) := by decide +kernel
theorem dX13_readsConsul_46 : decode cX13_readsConsul 46 = .ok (.aload_n 0, 1) := by decide +kernel
theorem dX13_readsConsul_47 : decode cX13_readsConsul 47 = .ok (.iconst 3, 1) := by decide +kernel
theorem dX13_readsConsul_48 : decode cX13_readsConsul 48 = .ok (.invokevirtual 224, 3) := by decide +kernel
theorem dX13_readsConsul_51 : decode cX13_readsConsul 51 = .ok (.ireturn, 1) := by decide +kernel
theorem dX13_readsConsul_52 : decode cX13_readsConsul 52 = .ok (.aload_n 0, 1) := by decide +kernel
theorem dX13_readsConsul_53 : decode cX13_readsConsul 53 = .ok (.getfield 13, 3) := by decide +kernel
theorem dX13_readsConsul_56 : decode cX13_readsConsul 56 = .ok (.bipush 8, 2) := by decide +kernel
theorem dX13_readsConsul_58 : decode cX13_readsConsul 58 = .ok (.dup2, 1) := by decide +kernel
theorem dX13_readsConsul_59 : decode cX13_readsConsul 59 = .ok (.iaload, 1) := by decide +kernel
theorem dX13_readsConsul_60 : decode cX13_readsConsul 60 = .ok (.iconst 1, 1) := by decide +kernel
theorem dX13_readsConsul_61 : decode cX13_readsConsul 61 = .ok (.aload_n 0, 1) := by decide +kernel
theorem dX13_readsConsul_62 : decode cX13_readsConsul 62 = .ok (.getfield 301, 3) := by decide +kernel
theorem dX13_readsConsul_65 : decode cX13_readsConsul 65 = .ok (.ishl, 1) := by decide +kernel
theorem dX13_readsConsul_66 : decode cX13_readsConsul 66 = .ok (.ior, 1) := by decide +kernel
theorem dX13_readsConsul_67 : decode cX13_readsConsul 67 = .ok (.iastore, 1) := by decide +kernel
theorem dX13_readsConsul_68 : decode cX13_readsConsul 68 = .ok (.aload_n 0, 1) := by decide +kernel
theorem dX13_readsConsul_69 : decode cX13_readsConsul 69 = .ok (.dup, 1) := by decide +kernel
theorem dX13_readsConsul_70 : decode cX13_readsConsul 70 = .ok (.getfield 336, 3) := by decide +kernel
theorem dX13_readsConsul_73 : decode cX13_readsConsul 73 = .ok (.iconst 1, 1) := by decide +kernel
theorem dX13_readsConsul_74 : decode cX13_readsConsul 74 = .ok (.iadd, 1) := by decide +kernel
theorem dX13_readsConsul_75 : decode cX13_readsConsul 75 = .ok (.putfield 336, 3) := by decide +kernel
theorem dX13_readsConsul_78 : decode cX13_readsConsul 78 = .ok (.aload_n 0, 1) := by decide +kernel
theorem dX13_readsConsul_79 : decode cX13_readsConsul 79 = .ok (.invokevirtual 231, 3) := by decide +kernel
theorem dX13_readsConsul_82 : decode cX13_readsConsul 82 = .ok (.aload_n 0, 1) := by decide +kernel
theorem dX13_readsConsul_83 : decode cX13_readsConsul 83 = .ok (.invokevirtual 333, 3) := by decide +kernel
theorem dX13_readsConsul_86 : decode cX13_readsConsul 86 = .ok (.ireturn, 1) := by decide +kernel
theorem dX13_readsHates_0 : decode cX13_readsHates 0 = .ok (.aload_n 0, 1) := by decide +kernel
theorem dX13_readsHates_1 : decode cX13_readsHates 1 = .ok (.invokevirtual 231, 3) := by decide +kernel
theorem dX13_readsHates_4 : decode cX13_readsHates 4 = .ok (.aload_n 0, 1) := by decide +kernel
theorem dX13_readsHates_5 : decode cX13_readsHates 5 = .ok (.iconst 1, 1) := by decide +kernel
theorem dX13_readsHates_6 : decode cX13_readsHates 6 = .ok (.invokevirtual 339, 3) := by decide +kernel
theorem dX13_readsHates_9 : decode cX13_readsHates 9 = .ok (.ifCond .ne 5, 3) := by decide +kernel
theorem dX13_readsHates_12 : decode cX13_readsHates 12 = .ok (.iconst 0, 1) := by decide +kernel
theorem dX13_readsHates_13 : decode cX13_readsHates 13 = .ok (.ireturn, 1) := by decide +kernel
theorem dX13_readsHates_14 : decode cX13_readsHates 14 = .ok (.aload_n 0, 1) := by decide +kernel
theorem dX13_readsHates_15 : decode cX13_readsHates 15 = .ok (.getfield 301, 3) := by decide +kernel
theorem dX13_readsHates_18 : decode cX13_readsHates 18 = .ok (.istore_n 1, 1) := by decide +kernel
theorem dX13_readsHates_19 : decode cX13_readsHates 19 = .ok (.aload_n 0, 1) := by decide +kernel
theorem dX13_readsHates_20 : decode cX13_readsHates 20 = .ok (.invokevirtual 231, 3) := by decide +kernel
theorem dX13_readsHates_23 : decode cX13_readsHates 23 = .ok (.aload_n 0, 1) := by decide +kernel
theorem dX13_readsHates_24 : decode cX13_readsHates 24 = .ok (.iconst 1, 1) := by decide +kernel
theorem dX13_readsHates_25 : decode cX13_readsHates 25 = .ok (.invokevirtual 339, 3) := by decide +kernel
theorem dX13_readsHates_28 : decode cX13_readsHates 28 = .ok (.ifCond .ne 5, 3) := by decide +kernel
theorem dX13_readsHates_31 : decode cX13_readsHates 31 = .ok (.iconst 0, 1) := by decide +kernel
theorem dX13_readsHates_32 : decode cX13_readsHates 32 = .ok (.ireturn, 1) := by decide +kernel
theorem dX13_readsHates_33 : decode cX13_readsHates 33 = .ok (.iload_n 1, 1) := by decide +kernel
theorem dX13_readsHates_34 : decode cX13_readsHates 34 = .ok (.aload_n 0, 1) := by decide +kernel
theorem dX13_readsHates_35 : decode cX13_readsHates 35 = .ok (.getfield 301, 3) := by decide +kernel
theorem dX13_readsHates_38 : decode cX13_readsHates 38 = .ok (.if_icmp .eq 23, 3) := by decide +kernel
theorem dX13_readsHates_41 : decode cX13_readsHates 41 = .ok (.aload_n 0, 1) := by decide +kernel
theorem dX13_readsHates_42 : decode cX13_readsHates 42 = .ok (.getfield 38, 3) := by decide +kernel
theorem dX13_readsHates_45 : decode cX13_readsHates 45 = .ok (.bipush 6, 2) := by decide +kernel
theorem dX13_readsHates_47 : decode cX13_readsHates 47 = .ok (.iload_n 1, 1) := by decide +kernel
theorem dX13_readsHates_48 : decode cX13_readsHates 48 = .ok (.iadd, 1) := by decide +kernel
theorem dX13_readsHates_49 : decode cX13_readsHates 49 = .ok (.iaload, 1) := by decide +kernel
theorem dX13_readsHates_50 : decode cX13_readsHates 50 = .ok (.aload_n 0, 1) := by decide +kernel
theorem dX13_readsHates_51 : decode cX13_readsHates 51 = .ok (.getfield 301, 3) := by decide +kernel
theorem dX13_readsHates_54 : decode cX13_readsHates 54 = .ok (.ishr, 1) := by decide +kernel
theorem dX13_readsHates_55 : decode cX13_readsHates 55 = .ok (.iconst 1, 1) := by decide +kernel
theorem dX13_readsHates_56 : decode cX13_readsHates 56 = .ok (.iand, 1) := by decide +kernel
theorem dX13_readsHates_57 : decode cX13_readsHates 57 = .ok (.iconst 1, 1) := by decide +kernel
theorem dX13_readsHates_58 : decode cX13_readsHates 58 = .ok (.if_icmp .ne 9, 3) := by decide +kernel
theorem dX13_readsHates_61 : decode cX13_readsHates 61 = .ok (.aload_n 0, 1) := by decide +kernel
theorem dX13_readsHates_62 : decode cX13_readsHates 62 = .ok (.iconst 3, 1) := by decide +kernel
theorem dX13_readsHates_63 : decode cX13_readsHates 63 = .ok (.invokevirtual 224, 3) := by decide +kernel
theorem dX13_readsHates_66 : decode cX13_readsHates 66 = .ok (.ireturn, 1) := by decide +kernel
theorem dX13_readsHates_67 : decode cX13_readsHates 67 = .ok (.aload_n 0, 1) := by decide +kernel
theorem dX13_readsHates_68 : decode cX13_readsHates 68 = .ok (.getfield 38, 3) := by decide +kernel
theorem dX13_readsHates_71 : decode cX13_readsHates 71 = .ok (.bipush 6, 2) := by decide +kernel
theorem dX13_readsHates_73 : decode cX13_readsHates 73 = .ok (.iload_n 1, 1) := by decide +kernel
theorem dX13_readsHates_74 : decode cX13_readsHates 74 = .ok (.iadd, 1) := by decide +kernel
theorem dX13_readsHates_75 : decode cX13_readsHates 75 = .ok (.dup2, 1) := by decide +kernel
theorem dX13_readsHates_76 : decode cX13_readsHates 76 = .ok (.iaload, 1) := by decide +kernel
theorem dX13_readsHates_77 : decode cX13_readsHates 77 = .ok (.iconst 1, 1) := by decide +kernel
theorem dX13_readsHates_78 : decode cX13_readsHates 78 = .ok (.aload_n 0, 1) := by decide +kernel
theorem dX13_readsHates_79 : decode cX13_readsHates 79 = .ok (.getfield 301, 3) := by decide +kernel
theorem dX13_readsHates_82 : decode cX13_readsHates 82 = .ok (.ishl, 1) := by decide +kernel
theorem dX13_readsHates_83 : decode cX13_readsHates 83 = .ok (.ior, 1) := by decide +kernel
theorem dX13_readsHates_84 : decode cX13_readsHates 84 = .ok (.iastore, 1) := by decide +kernel
theorem dX13_readsHates_85 : decode cX13_readsHates 85 = .ok (.aload_n 0, 1) := by decide +kernel
theorem dX13_readsHates_86 : decode cX13_readsHates 86 = .ok (.invokevirtual 231, 3) := by decide +kernel
theorem dX13_readsHates_89 : decode cX13_readsHates 89 = .ok (.aload_n 0, 1) := by decide +kernel
theorem dX13_readsHates_90 : decode cX13_readsHates 90 = .ok (.invokevirtual 333, 3) := by decide +kernel
theorem dX13_readsHates_93 : decode cX13_readsHates 93 = .ok (.ireturn, 1) := by decide +kernel
theorem dX13_readsDanger_0 : decode cX13_readsDanger 0 = .ok (.iconst 5, 1) := by decide +kernel
theorem dX13_readsDanger_1 : decode cX13_readsDanger 1 = .ok (.aload_n 0, 1) := by decide +kernel
theorem dX13_readsDanger_2 : decode cX13_readsDanger 2 = .ok (.getfield 13, 3) := by decide +kernel
theorem dX13_readsDanger_5 : decode cX13_readsDanger 5 = .ok (.bipush 6, 2) := by decide +kernel
theorem dX13_readsDanger_7 : decode cX13_readsDanger 7 = .ok (.iaload, 1) := by decide +kernel
theorem dX13_readsDanger_8 : decode cX13_readsDanger 8 = .ok (.iadd, 1) := by decide +kernel
theorem dX13_readsDanger_9 : decode cX13_readsDanger 9 = .ok (.istore_n 1, 1) := by decide +kernel
theorem dX13_readsDanger_10 : decode cX13_readsDanger 10 = .ok (.iload_n 1, 1) := by decide +kernel
theorem dX13_readsDanger_11 : decode cX13_readsDanger 11 = .ok (.bipush 10, 2) := by decide +kernel
theorem dX13_readsDanger_13 : decode cX13_readsDanger 13 = .ok (.if_icmp .ne 9, 3) := by decide +kernel
theorem dX13_readsDanger_16 : decode cX13_readsDanger 16 = .ok (.aload_n 0, 1) := by decide +kernel
theorem dX13_readsDanger_17 : decode cX13_readsDanger 17 = .ok (.iconst 5, 1) := by decide +kernel
theorem dX13_readsDanger_18 : decode cX13_readsDanger 18 = .ok (.invokevirtual 224, 3) := by decide +kernel
theorem dX13_readsDanger_21 : decode cX13_readsDanger 21 = .ok (.ireturn, 1) := by decide +kernel
theorem dX13_readsDanger_22 : decode cX13_readsDanger 22 = .ok (.aload_n 0, 1) := by decide +kernel
theorem dX13_readsDanger_23 : decode cX13_readsDanger 23 = .ok (.invokevirtual 231, 3) := by decide +kernel
theorem dX13_readsDanger_26 : decode cX13_readsDanger 26 = .ok (.aload_n 0, 1) := by decide +kernel
theorem dX13_readsDanger_27 : decode cX13_readsDanger 27 = .ok (.invokevirtual 326, 3) := by decide +kernel
theorem dX13_readsDanger_30 : decode cX13_readsDanger 30 = .ok (.ifCond .eq 16, 3) := by decide +kernel
theorem dX13_readsDanger_33 : decode cX13_readsDanger 33 = .ok (.aload_n 0, 1) := by decide +kernel
theorem dX13_readsDanger_34 : decode cX13_readsDanger 34 = .ok (.ldc2_w 261, 3) := by decide +kernel
theorem dX13_readsDanger_37 : decode cX13_readsDanger 37 = .ok (.iconst 1, 1) := by decide +kernel
theorem dX13_readsDanger_38 : decode cX13_readsDanger 38 = .ok (.bipush 99, 2) := by decide +kernel
theorem dX13_readsDanger_40 : decode cX13_readsDanger 40 = .ok (.invokevirtual 329, 3) := by decide +kernel
theorem dX13_readsDanger_43 : decode cX13_readsDanger 43 = .ok (.ifCond .ne 5, 3) := by decide +kernel
theorem dX13_readsDanger_46 : decode cX13_readsDanger 46 = .ok (.iconst 0, 1) := by decide +kernel
theorem dX13_readsDanger_47 : decode cX13_readsDanger 47 = .ok (.ireturn, 1) := by decide +kernel
theorem dX13_readsDanger_48 : decode cX13_readsDanger 48 = .ok (.aload_n 0, 1) := by decide +kernel
theorem dX13_readsDanger_49 : decode cX13_readsDanger 49 = .ok (.getfield 44, 3) := by decide +kernel
theorem dX13_readsDanger_52 : decode cX13_readsDanger 52 = .ok (.iload_n 1, 1) := by decide +kernel
theorem dX13_readsDanger_53 : decode cX13_readsDanger 53 = .ok (.aload_n 0, 1) := by decide +kernel
theorem dX13_readsDanger_54 : decode cX13_readsDanger 54 = .ok (.getfield 301, 3) := by decide +kernel
theorem dX13_readsDanger_57 : decode cX13_readsDanger 57 = .ok (.iastore, 1) := by decide +kernel
theorem dX13_readsDanger_58 : decode cX13_readsDanger 58 = .ok (.aload_n 0, 1) := by decide +kernel
theorem dX13_readsDanger_59 : decode cX13_readsDanger 59 = .ok (.ldc2_w 263, 3) := by decide +kernel
theorem dX13_readsDanger_62 : decode cX13_readsDanger 62 = .ok (.iconst 0, 1) := by decide +kernel
theorem dX13_readsDanger_63 : decode cX13_readsDanger 63 = .ok (.bipush 9, 2) := by decide +kernel
theorem dX13_readsDanger_65 : decode cX13_readsDanger 65 = .ok (.invokevirtual 329, 3) := by decide +kernel
theorem dX13_readsDanger_68 : decode cX13_readsDanger 68 = .ok (.ifCond .ne 5, 3) := by decide +kernel
theorem dX13_readsDanger_71 : decode cX13_readsDanger 71 = .ok (.iconst 0, 1) := by decide +kernel
theorem dX13_readsDanger_72 : decode cX13_readsDanger 72 = .ok (.ireturn, 1) := by decide +kernel
theorem dX13_readsDanger_73 : decode cX13_readsDanger 73 = .ok (.aload_n 0, 1) := by decide +kernel
theorem dX13_readsDanger_74 : decode cX13_readsDanger 74 = .ok (.getfield 47, 3) := by decide +kernel
theorem dX13_readsDanger_77 : decode cX13_readsDanger 77 = .ok (.iload_n 1, 1) := by decide +kernel
theorem dX13_readsDanger_78 : decode cX13_readsDanger 78 = .ok (.aload_n 0, 1) := by decide +kernel
theorem dX13_readsDanger_79 : decode cX13_readsDanger 79 = .ok (.getfield 301, 3) := by decide +kernel
theorem dX13_readsDanger_82 : decode cX13_readsDanger 82 = .ok (.iastore, 1) := by decide +kernel
theorem dX13_readsDanger_83 : decode cX13_readsDanger 83 = .ok (.aload_n 0, 1) := by decide +kernel
theorem dX13_readsDanger_84 : decode cX13_readsDanger 84 = .ok (.getfield 20, 3) := by decide +kernel
theorem dX13_readsDanger_87 : decode cX13_readsDanger 87 = .ok (.iload_n 1, 1) := by decide +kernel
theorem dX13_readsDanger_88 : decode cX13_readsDanger 88 = .ok (.aload_n 0, 1) := by decide +kernel
theorem dX13_readsDanger_89 : decode cX13_readsDanger 89 = .ok (.getfield 321, 3) := by decide +kernel
theorem dX13_readsDanger_92 : decode cX13_readsDanger 92 = .ok (.lastore, 1) := by decide +kernel
theorem dX13_readsDanger_93 : decode cX13_readsDanger 93 = .ok (.aload_n 0, 1) := by decide +kernel
theorem dX13_readsDanger_94 : decode cX13_readsDanger 94 = .ok (.getfield 13, 3) := by decide +kernel
theorem dX13_readsDanger_97 : decode cX13_readsDanger 97 = .ok (.bipush 6, 2) := by decide +kernel
theorem dX13_readsDanger_99 : decode cX13_readsDanger 99 = .ok (.dup2, 1) := by decide +kernel
theorem dX13_readsDanger_100 : decode cX13_readsDanger 100 = .ok (.iaload, 1) := by decide +kernel
theorem dX13_readsDanger_101 : decode cX13_readsDanger 101 = .ok (.iconst 1, 1) := by decide +kernel
theorem dX13_readsDanger_102 : decode cX13_readsDanger 102 = .ok (.iadd, 1) := by decide +kernel
theorem dX13_readsDanger_103 : decode cX13_readsDanger 103 = .ok (.iastore, 1) := by decide +kernel
theorem dX13_readsDanger_104 : decode cX13_readsDanger 104 = .ok (.aload_n 0, 1) := by decide +kernel
theorem dX13_readsDanger_105 : decode cX13_readsDanger 105 = .ok (.invokevirtual 333, 3) := by decide +kernel
theorem dX13_readsDanger_108 : decode cX13_readsDanger 108 = .ok (.ireturn, 1) := by decide +kernel
theorem dX13_readsDecree_0 : decode cX13_readsDecree 0 = .ok (.bipush 6, 2) := by decide +kernel
theorem dX13_readsDecree_2 : decode cX13_readsDecree 2 = .ok (.aload_n 0, 1) := by decide +kernel
theorem dX13_readsDecree_3 : decode cX13_readsDecree 3 = .ok (.getfield 13, 3) := by decide +kernel
theorem dX13_readsDecree_6 : decode cX13_readsDecree 6 = .ok (.bipush 7, 2) := by decide +kernel
theorem dX13_readsDecree_8 : decode cX13_readsDecree 8 = .ok (.iaload, 1) := by decide +kernel
theorem dX13_readsDecree_9 : decode cX13_readsDecree 9 = .ok (.iadd, 1) := by decide +kernel
theorem dX13_readsDecree_10 : decode cX13_readsDecree 10 = .ok (.istore_n 1, 1) := by decide +kernel
theorem dX13_readsDecree_11 : decode cX13_readsDecree 11 = .ok (.iload_n 1, 1) := by decide +kernel
theorem dX13_readsDecree_12 : decode cX13_readsDecree 12 = .ok (.bipush 12, 2) := by decide +kernel
theorem dX13_readsDecree_14 : decode cX13_readsDecree 14 = .ok (.if_icmp .ne 9, 3) := by decide +kernel
theorem dX13_readsDecree_17 : decode cX13_readsDecree 17 = .ok (.aload_n 0, 1) := by decide +kernel
theorem dX13_readsDecree_18 : decode cX13_readsDecree 18 = .ok (.iconst 5, 1) := by decide +kernel
theorem dX13_readsDecree_19 : decode cX13_readsDecree 19 = .ok (.invokevirtual 224, 3) := by decide +kernel
theorem dX13_readsDecree_22 : decode cX13_readsDecree 22 = .ok (.ireturn, 1) := by decide +kernel
theorem dX13_readsDecree_23 : decode cX13_readsDecree 23 = .ok (.aload_n 0, 1) := by decide +kernel
theorem dX13_readsDecree_24 : decode cX13_readsDecree 24 = .ok (.invokevirtual 231, 3) := by decide +kernel
theorem dX13_readsDecree_27 : decode cX13_readsDecree 27 = .ok (.aload_n 0, 1) := by decide +kernel
theorem dX13_readsDecree_28 : decode cX13_readsDecree 28 = .ok (.invokevirtual 326, 3) := by decide +kernel
theorem dX13_readsDecree_31 : decode cX13_readsDecree 31 = .ok (.ifCond .ne 5, 3) := by decide +kernel
theorem dX13_readsDecree_34 : decode cX13_readsDecree 34 = .ok (.iconst 0, 1) := by decide +kernel
theorem dX13_readsDecree_35 : decode cX13_readsDecree 35 = .ok (.ireturn, 1) := by decide +kernel
theorem dX13_readsDecree_36 : decode cX13_readsDecree 36 = .ok (.aload_n 0, 1) := by decide +kernel
theorem dX13_readsDecree_37 : decode cX13_readsDecree 37 = .ok (.getfield 321, 3) := by decide +kernel
theorem dX13_readsDecree_40 : decode cX13_readsDecree 40 = .ok (.lstore_n 2, 1) := by decide +kernel
theorem dX13_readsDecree_41 : decode cX13_readsDecree 41 = .ok (.aload_n 0, 1) := by decide +kernel
theorem dX13_readsDecree_42 : decode cX13_readsDecree 42 = .ok (.getfield 41, 3) := by decide +kernel
theorem dX13_readsDecree_45 : decode cX13_readsDecree 45 = .ok (.iload_n 1, 1) := by decide +kernel
theorem dX13_readsDecree_46 : decode cX13_readsDecree 46 = .ok (.iconst 0, 1) := by decide +kernel
theorem dX13_readsDecree_47 : decode cX13_readsDecree 47 = .ok (.iastore, 1) := by decide +kernel
theorem dX13_readsDecree_48 : decode cX13_readsDecree 48 = .ok (.aload_n 0, 1) := by decide +kernel
theorem dX13_readsDecree_49 : decode cX13_readsDecree 49 = .ok (.ldc2_w 267, 3) := by decide +kernel
theorem dX13_readsDecree_52 : decode cX13_readsDecree 52 = .ok (.invokevirtual 216, 3) := by decide +kernel
theorem dX13_readsDecree_55 : decode cX13_readsDecree 55 = .ok (.ifCond .eq 96, 3) := by decide +kernel
theorem dX13_readsDecree_58 : decode cX13_readsDecree 58 = .ok (.aload_n 0, 1) := by decide +kernel
theorem dX13_readsDecree_59 : decode cX13_readsDecree 59 = .ok (.invokevirtual 231, 3) := by decide +kernel
theorem dX13_readsDecree_62 : decode cX13_readsDecree 62 = .ok (.aload_n 0, 1) := by decide +kernel
theorem dX13_readsDecree_63 : decode cX13_readsDecree 63 = .ok (.getfield 41, 3) := by decide +kernel
theorem dX13_readsDecree_66 : decode cX13_readsDecree 66 = .ok (.iload_n 1, 1) := by decide +kernel
theorem dX13_readsDecree_67 : decode cX13_readsDecree 67 = .ok (.iaload, 1) := by decide +kernel
theorem dX13_readsDecree_68 : decode cX13_readsDecree 68 = .ok (.ifCond .eq 12, 3) := by decide +kernel
theorem dX13_readsDecree_71 : decode cX13_readsDecree 71 = .ok (.aload_n 0, 1) := by decide +kernel
theorem dX13_readsDecree_72 : decode cX13_readsDecree 72 = .ok (.bipush 59, 2) := by decide +kernel
theorem dX13_readsDecree_74 : decode cX13_readsDecree 74 = .ok (.invokevirtual 220, 3) := by decide +kernel
theorem dX13_readsDecree_77 : decode cX13_readsDecree 77 = .ok (.ifCond .ne 74, 3) := by decide +kernel
theorem dX13_readsDecree_80 : decode cX13_readsDecree 80 = .ok (.aload_n 0, 1) := by decide +kernel
theorem dX13_readsDecree_81 : decode cX13_readsDecree 81 = .ok (.invokevirtual 308, 3) := by decide +kernel
theorem dX13_readsDecree_84 : decode cX13_readsDecree 84 = .ok (.ifCond .eq 9, 3) := by decide +kernel
theorem dX13_readsDecree_87 : decode cX13_readsDecree 87 = .ok (.aload_n 0, 1) := by decide +kernel
theorem dX13_readsDecree_88 : decode cX13_readsDecree 88 = .ok (.iconst 1, 1) := by decide +kernel
theorem dX13_readsDecree_89 : decode cX13_readsDecree 89 = .ok (.invokevirtual 224, 3) := by decide +kernel
theorem dX13_readsDecree_92 : decode cX13_readsDecree 92 = .ok (.ireturn, 1) := by decide +kernel
theorem dX13_readsDecree_93 : decode cX13_readsDecree 93 = .ok (.aload_n 0, 1) := by decide +kernel
theorem dX13_readsDecree_94 : decode cX13_readsDecree 94 = .ok (.invokevirtual 318, 3) := by decide +kernel
theorem dX13_readsDecree_97 : decode cX13_readsDecree 97 = .ok (.istore 4, 2) := by decide +kernel
theorem dX13_readsDecree_99 : decode cX13_readsDecree 99 = .ok (.iload 4, 2) := by decide +kernel
theorem dX13_readsDecree_101 : decode cX13_readsDecree 101 = .ok (.ifCond .ge 9, 3) := by decide +kernel
theorem dX13_readsDecree_104 : decode cX13_readsDecree 104 = .ok (.aload_n 0, 1) := by decide +kernel
theorem dX13_readsDecree_105 : decode cX13_readsDecree 105 = .ok (.iconst 2, 1) := by decide +kernel
theorem dX13_readsDecree_106 : decode cX13_readsDecree 106 = .ok (.invokevirtual 224, 3) := by decide +kernel
theorem dX13_readsDecree_109 : decode cX13_readsDecree 109 = .ok (.ireturn, 1) := by decide +kernel
theorem dX13_readsDecree_110 : decode cX13_readsDecree 110 = .ok (.aload_n 0, 1) := by decide +kernel
theorem dX13_readsDecree_111 : decode cX13_readsDecree 111 = .ok (.getfield 41, 3) := by decide +kernel
theorem dX13_readsDecree_114 : decode cX13_readsDecree 114 = .ok (.iload_n 1, 1) := by decide +kernel
theorem dX13_readsDecree_115 : decode cX13_readsDecree 115 = .ok (.iaload, 1) := by decide +kernel
theorem dX13_readsDecree_116 : decode cX13_readsDecree 116 = .ok (.iload 4, 2) := by decide +kernel
theorem dX13_readsDecree_118 : decode cX13_readsDecree 118 = .ok (.ishr, 1) := by decide +kernel
theorem dX13_readsDecree_119 : decode cX13_readsDecree 119 = .ok (.iconst 1, 1) := by decide +kernel
theorem dX13_readsDecree_120 : decode cX13_readsDecree 120 = .ok (.iand, 1) := by decide +kernel
theorem dX13_readsDecree_121 : decode cX13_readsDecree 121 = .ok (.iconst 1, 1) := by decide +kernel
theorem dX13_readsDecree_122 : decode cX13_readsDecree 122 = .ok (.if_icmp .ne 9, 3) := by decide +kernel
theorem dX13_readsDecree_125 : decode cX13_readsDecree 125 = .ok (.aload_n 0, 1) := by decide +kernel
theorem dX13_readsDecree_126 : decode cX13_readsDecree 126 = .ok (.iconst 3, 1) := by decide +kernel
theorem dX13_readsDecree_127 : decode cX13_readsDecree 127 = .ok (.invokevirtual 224, 3) := by decide +kernel
theorem dX13_readsDecree_130 : decode cX13_readsDecree 130 = .ok (.ireturn, 1) := by decide +kernel
theorem dX13_readsDecree_131 : decode cX13_readsDecree 131 = .ok (.aload_n 0, 1) := by decide +kernel
theorem dX13_readsDecree_132 : decode cX13_readsDecree 132 = .ok (.getfield 41, 3) := by decide +kernel
theorem dX13_readsDecree_135 : decode cX13_readsDecree 135 = .ok (.iload_n 1, 1) := by decide +kernel
theorem dX13_readsDecree_136 : decode cX13_readsDecree 136 = .ok (.dup2, 1) := by decide +kernel
theorem dX13_readsDecree_137 : decode cX13_readsDecree 137 = .ok (.iaload, 1) := by decide +kernel
theorem dX13_readsDecree_138 : decode cX13_readsDecree 138 = .ok (.iconst 1, 1) := by decide +kernel
theorem dX13_readsDecree_139 : decode cX13_readsDecree 139 = .ok (.iload 4, 2) := by decide +kernel
theorem dX13_readsDecree_141 : decode cX13_readsDecree 141 = .ok (.ishl, 1) := by decide +kernel
theorem dX13_readsDecree_142 : decode cX13_readsDecree 142 = .ok (.ior, 1) := by decide +kernel
theorem dX13_readsDecree_143 : decode cX13_readsDecree 143 = .ok (.iastore, 1) := by decide +kernel
theorem dX13_readsDecree_144 : decode cX13_readsDecree 144 = .ok (.aload_n 0, 1) := by decide +kernel
theorem dX13_readsDecree_145 : decode cX13_readsDecree 145 = .ok (.invokevirtual 231, 3) := by decide +kernel
theorem dX13_readsDecree_148 : decode cX13_readsDecree 148 = .ok (.goto (-86), 3) := by decide +kernel
theorem dX13_readsDecree_151 : decode cX13_readsDecree 151 = .ok (.aload_n 0, 1) := by decide +kernel
theorem dX13_readsDecree_152 : decode cX13_readsDecree 152 = .ok (.getfield 23, 3) := by decide +kernel
theorem dX13_readsDecree_155 : decode cX13_readsDecree 155 = .ok (.iload_n 1, 1) := by decide +kernel
theorem dX13_readsDecree_156 : decode cX13_readsDecree 156 = .ok (.lload_n 2, 1) := by decide +kernel
theorem dX13_readsDecree_157 : decode cX13_readsDecree 157 = .ok (.lastore, 1) := by decide +kernel
theorem dX13_readsDecree_158 : decode cX13_readsDecree 158 = .ok (.aload_n 0, 1) := by decide +kernel
theorem dX13_readsDecree_159 : decode cX13_readsDecree 159 = .ok (.getfield 13, 3) := by decide +kernel
theorem dX13_readsDecree_162 : decode cX13_readsDecree 162 = .ok (.bipush 7, 2) := by decide +kernel
theorem dX13_readsDecree_164 : decode cX13_readsDecree 164 = .ok (.dup2, 1) := by decide +kernel
theorem dX13_readsDecree_165 : decode cX13_readsDecree 165 = .ok (.iaload, 1) := by decide +kernel
theorem dX13_readsDecree_166 : decode cX13_readsDecree 166 = .ok (.iconst 1, 1) := by decide +kernel
theorem dX13_readsDecree_167 : decode cX13_readsDecree 167 = .ok (.iadd, 1) := by decide +kernel
theorem dX13_readsDecree_168 : decode cX13_readsDecree 168 = .ok (.iastore, 1) := by decide +kernel
theorem dX13_readsDecree_169 : decode cX13_readsDecree 169 = .ok (.aload_n 0, 1) := by decide +kernel
theorem dX13_readsDecree_170 : decode cX13_readsDecree 170 = .ok (.invokevirtual 333, 3) := by decide +kernel
theorem dX13_readsDecree_173 : decode cX13_readsDecree 173 = .ok (.ireturn, 1) := by decide +kernel
theorem dX13_readsTerm_0 : decode cX13_readsTerm 0 = .ok (.aload_n 0, 1) := by decide +kernel
theorem dX13_readsTerm_1 : decode cX13_readsTerm 1 = .ok (.iconst 4, 1) := by decide +kernel
theorem dX13_readsTerm_2 : decode cX13_readsTerm 2 = .ok (.invokevirtual 342, 3) := by decide +kernel
theorem dX13_readsTerm_5 : decode cX13_readsTerm 5 = .ok (.ifCond .eq 9, 3) := by decide +kernel
theorem dX13_readsTerm_8 : decode cX13_readsTerm 8 = .ok (.aload_n 0, 1) := by decide +kernel
theorem dX13_readsTerm_9 : decode cX13_readsTerm 9 = .ok (.iconst 3, 1) := by decide +kernel
theorem dX13_readsTerm_10 : decode cX13_readsTerm 10 = .ok (.invokevirtual 224, 3) := by decide +kernel
theorem dX13_readsTerm_13 : decode cX13_readsTerm 13 = .ok (.ireturn, 1) := by decide +kernel
theorem dX13_readsTerm_14 : decode cX13_readsTerm 14 = .ok (.aload_n 0, 1) := by decide +kernel
theorem dX13_readsTerm_15 : decode cX13_readsTerm 15 = .ok (.invokevirtual 231, 3) := by decide +kernel
theorem dX13_readsTerm_18 : decode cX13_readsTerm 18 = .ok (.aload_n 0, 1) := by decide +kernel
theorem dX13_readsTerm_19 : decode cX13_readsTerm 19 = .ok (.iconst 1, 1) := by decide +kernel
theorem dX13_readsTerm_20 : decode cX13_readsTerm 20 = .ok (.bipush 12, 2) := by decide +kernel
theorem dX13_readsTerm_22 : decode cX13_readsTerm 22 = .ok (.invokevirtual 304, 3) := by decide +kernel
theorem dX13_readsTerm_25 : decode cX13_readsTerm 25 = .ok (.ifCond .ne 5, 3) := by decide +kernel
theorem dX13_readsTerm_28 : decode cX13_readsTerm 28 = .ok (.iconst 0, 1) := by decide +kernel
theorem dX13_readsTerm_29 : decode cX13_readsTerm 29 = .ok (.ireturn, 1) := by decide +kernel
theorem dX13_readsTerm_30 : decode cX13_readsTerm 30 = .ok (.aload_n 0, 1) := by decide +kernel
theorem dX13_readsTerm_31 : decode cX13_readsTerm 31 = .ok (.getfield 13, 3) := by decide +kernel
theorem dX13_readsTerm_34 : decode cX13_readsTerm 34 = .ok (.bipush 9, 2) := by decide +kernel
theorem dX13_readsTerm_36 : decode cX13_readsTerm 36 = .ok (.aload_n 0, 1) := by decide +kernel
theorem dX13_readsTerm_37 : decode cX13_readsTerm 37 = .ok (.getfield 301, 3) := by decide +kernel
theorem dX13_readsTerm_40 : decode cX13_readsTerm 40 = .ok (.iastore, 1) := by decide +kernel
theorem dX13_readsTerm_41 : decode cX13_readsTerm 41 = .ok (.aload_n 0, 1) := by decide +kernel
theorem dX13_readsTerm_42 : decode cX13_readsTerm 42 = .ok (.invokevirtual 333, 3) := by decide +kernel
theorem dX13_readsTerm_45 : decode cX13_readsTerm 45 = .ok (.ireturn, 1) := by decide +kernel
theorem dX13_readsLaw_0 : decode cX13_readsLaw 0 = .ok (.aload_n 0, 1) := by decide +kernel
theorem dX13_readsLaw_1 : decode cX13_readsLaw 1 = .ok (.getfield 53, 3) := by decide +kernel
theorem dX13_readsLaw_4 : decode cX13_readsLaw 4 = .ok (.iconst 2, 1) := by decide +kernel
theorem dX13_readsLaw_5 : decode cX13_readsLaw 5 = .ok (.iload_n 1, 1) := by decide +kernel
theorem dX13_readsLaw_6 : decode cX13_readsLaw 6 = .ok (.iadd, 1) := by decide +kernel
theorem dX13_readsLaw_7 : decode cX13_readsLaw 7 = .ok (.iaload, 1) := by decide +kernel
theorem dX13_readsLaw_8 : decode cX13_readsLaw 8 = .ok (.aload_n 0, 1) := by decide +kernel
theorem dX13_readsLaw_9 : decode cX13_readsLaw 9 = .ok (.getfield 50, 3) := by decide +kernel
theorem dX13_readsLaw_12 : decode cX13_readsLaw 12 = .ok (.iconst 2, 1) := by decide +kernel
theorem dX13_readsLaw_13 : decode cX13_readsLaw 13 = .ok (.iload_n 1, 1) := by decide +kernel
theorem dX13_readsLaw_14 : decode cX13_readsLaw 14 = .ok (.iadd, 1) := by decide +kernel
theorem dX13_readsLaw_15 : decode cX13_readsLaw 15 = .ok (.iaload, 1) := by decide +kernel
theorem dX13_readsLaw_16 : decode cX13_readsLaw 16 = .ok (.if_icmp .le 9, 3) := by decide +kernel
theorem dX13_readsLaw_19 : decode cX13_readsLaw 19 = .ok (.aload_n 0, 1) := by decide +kernel
theorem dX13_readsLaw_20 : decode cX13_readsLaw 20 = .ok (.iconst 3, 1) := by decide +kernel
theorem dX13_readsLaw_21 : decode cX13_readsLaw 21 = .ok (.invokevirtual 224, 3) := by decide +kernel
theorem dX13_readsLaw_24 : decode cX13_readsLaw 24 = .ok (.ireturn, 1) := by decide +kernel
theorem dX13_readsLaw_25 : decode cX13_readsLaw 25 = .ok (.aload_n 0, 1) := by decide +kernel
theorem dX13_readsLaw_26 : decode cX13_readsLaw 26 = .ok (.iload_n 1, 1) := by decide +kernel
theorem dX13_readsLaw_27 : decode cX13_readsLaw 27 = .ok (.putfield 199, 3) := by decide +kernel
theorem dX13_readsLaw_30 : decode cX13_readsLaw 30 = .ok (.aload_n 0, 1) := by decide +kernel
theorem dX13_readsLaw_31 : decode cX13_readsLaw 31 = .ok (.invokevirtual 231, 3) := by decide +kernel
theorem dX13_readsLaw_34 : decode cX13_readsLaw 34 = .ok (.aload_n 0, 1) := by decide +kernel
theorem dX13_readsLaw_35 : decode cX13_readsLaw 35 = .ok (.getfield 50, 3) := by decide +kernel
theorem dX13_readsLaw_38 : decode cX13_readsLaw 38 = .ok (.iconst 2, 1) := by decide +kernel
theorem dX13_readsLaw_39 : decode cX13_readsLaw 39 = .ok (.iload_n 1, 1) := by decide +kernel
theorem dX13_readsLaw_40 : decode cX13_readsLaw 40 = .ok (.iadd, 1) := by decide +kernel
theorem dX13_readsLaw_41 : decode cX13_readsLaw 41 = .ok (.aload_n 0, 1) := by decide +kernel
theorem dX13_readsLaw_42 : decode cX13_readsLaw 42 = .ok (.getfield 192, 3) := by decide +kernel
theorem dX13_readsLaw_45 : decode cX13_readsLaw 45 = .ok (.iastore, 1) := by decide +kernel
theorem dX13_readsLaw_46 : decode cX13_readsLaw 46 = .ok (.aload_n 0, 1) := by decide +kernel
theorem dX13_readsLaw_47 : decode cX13_readsLaw 47 = .ok (.invokevirtual 345, 3) := by decide +kernel
theorem dX13_readsLaw_50 : decode cX13_readsLaw 50 = .ok (.ifCond .ne 5, 3) := by decide +kernel
theorem dX13_readsLaw_53 : decode cX13_readsLaw 53 = .ok (.iconst 0, 1) := by decide +kernel
theorem dX13_readsLaw_54 : decode cX13_readsLaw 54 = .ok (.ireturn, 1) := by decide +kernel
theorem dX13_readsLaw_55 : decode cX13_readsLaw 55 = .ok (.aload_n 0, 1) := by decide +kernel
theorem dX13_readsLaw_56 : decode cX13_readsLaw 56 = .ok (.getfield 53, 3) := by decide +kernel
theorem dX13_readsLaw_59 : decode cX13_readsLaw 59 = .ok (.iconst 2, 1) := by decide +kernel
theorem dX13_readsLaw_60 : decode cX13_readsLaw 60 = .ok (.iload_n 1, 1) := by decide +kernel
theorem dX13_readsLaw_61 : decode cX13_readsLaw 61 = .ok (.iadd, 1) := by decide +kernel
theorem dX13_readsLaw_62 : decode cX13_readsLaw 62 = .ok (.aload_n 0, 1) := by decide +kernel
theorem dX13_readsLaw_63 : decode cX13_readsLaw 63 = .ok (.getfield 192, 3) := by decide +kernel
theorem dX13_readsLaw_66 : decode cX13_readsLaw 66 = .ok (.iastore, 1) := by decide +kernel
theorem dX13_readsLaw_67 : decode cX13_readsLaw 67 = .ok (.iconst 1, 1) := by decide +kernel
theorem dX13_readsLaw_68 : decode cX13_readsLaw 68 = .ok (.ireturn, 1) := by decide +kernel
theorem dX13_begins_0 : decode cX13_begins 0 = .ok (.aload_n 0, 1) := by decide +kernel
theorem dX13_begins_1 : decode cX13_begins 1 = .ok (.aload_n 0, 1) := by decide +kernel
theorem dX13_begins_2 : decode cX13_begins 2 = .ok (.getfield 159, 3) := by decide +kernel
theorem dX13_begins_5 : decode cX13_begins 5 = .ok (.putfield 162, 3) := by decide +kernel
theorem dX13_begins_8 : decode cX13_begins 8 = .ok (.aload_n 0, 1) := by decide +kernel
theorem dX13_begins_9 : decode cX13_begins 9 = .ok (.iconst 0, 1) := by decide +kernel
theorem dX13_begins_10 : decode cX13_begins 10 = .ok (.putfield 159, 3) := by decide +kernel
theorem dX13_begins_13 : decode cX13_begins 13 = .ok (.aload_n 0, 1) := by decide +kernel
theorem dX13_begins_14 : decode cX13_begins 14 = .ok (.iconst 0, 1) := by decide +kernel
theorem dX13_begins_15 : decode cX13_begins 15 = .ok (.putfield 165, 3) := by decide +kernel
theorem dX13_begins_18 : decode cX13_begins 18 = .ok (.aload_n 0, 1) := by decide +kernel
theorem dX13_begins_19 : decode cX13_begins 19 = .ok (.invokevirtual 231, 3) := by decide +kernel
theorem dX13_begins_22 : decode cX13_begins 22 = .ok (.return_, 1) := by decide +kernel
theorem dX13_readsAll_0 : decode cX13_readsAll 0 = .ok (.iconst 5, 1) := by decide +kernel
theorem dX13_readsAll_1 : decode cX13_readsAll 1 = .ok (.istore_n 1, 1) := by decide +kernel
theorem dX13_readsAll_2 : decode cX13_readsAll 2 = .ok (.iload_n 1, 1) := by decide +kernel
theorem dX13_readsAll_3 : decode cX13_readsAll 3 = .ok (.bipush 10, 2) := by decide +kernel
theorem dX13_readsAll_5 : decode cX13_readsAll 5 = .ok (.if_icmp .ge 27, 3) := by decide +kernel
theorem dX13_readsAll_8 : decode cX13_readsAll 8 = .ok (.aload_n 0, 1) := by decide +kernel
theorem dX13_readsAll_9 : decode cX13_readsAll 9 = .ok (.getfield 13, 3) := by decide +kernel
theorem dX13_readsAll_12 : decode cX13_readsAll 12 = .ok (.iload_n 1, 1) := by decide +kernel
theorem dX13_readsAll_13 : decode cX13_readsAll 13 = .ok (.iload_n 1, 1) := by decide +kernel
theorem dX13_readsAll_14 : decode cX13_readsAll 14 = .ok (.bipush 9, 2) := by decide +kernel
theorem dX13_readsAll_16 : decode cX13_readsAll 16 = .ok (.if_icmp .ne 8, 3) := by decide +kernel
theorem dX13_readsAll_19 : decode cX13_readsAll 19 = .ok (.bipush 6, 2) := by decide +kernel
theorem dX13_readsAll_21 : decode cX13_readsAll 21 = .ok (.goto 4, 3) := by decide +kernel
theorem dX13_readsAll_24 : decode cX13_readsAll 24 = .ok (.iconst 0, 1) := by decide +kernel
theorem dX13_readsAll_25 : decode cX13_readsAll 25 = .ok (.iastore, 1) := by decide +kernel
theorem dX13_readsAll_26 : decode cX13_readsAll 26 = .ok (.iinc 1 1, 3) := by decide +kernel
theorem dX13_readsAll_29 : decode cX13_readsAll 29 = .ok (.goto (-27), 3) := by decide +kernel
theorem dX13_readsAll_32 : decode cX13_readsAll 32 = .ok (.iconst 2, 1) := by decide +kernel
theorem dX13_readsAll_33 : decode cX13_readsAll 33 = .ok (.istore_n 1, 1) := by decide +kernel
theorem dX13_readsAll_34 : decode cX13_readsAll 34 = .ok (.iload_n 1, 1) := by decide +kernel
theorem dX13_readsAll_35 : decode cX13_readsAll 35 = .ok (.iconst 4, 1) := by decide +kernel
theorem dX13_readsAll_36 : decode cX13_readsAll 36 = .ok (.if_icmp .ge 27, 3) := by decide +kernel
theorem dX13_readsAll_39 : decode cX13_readsAll 39 = .ok (.aload_n 0, 1) := by decide +kernel
theorem dX13_readsAll_40 : decode cX13_readsAll 40 = .ok (.getfield 50, 3) := by decide +kernel
theorem dX13_readsAll_43 : decode cX13_readsAll 43 = .ok (.iload_n 1, 1) := by decide +kernel
theorem dX13_readsAll_44 : decode cX13_readsAll 44 = .ok (.sipush 1000, 3) := by decide +kernel
theorem dX13_readsAll_47 : decode cX13_readsAll 47 = .ok (.iastore, 1) := by decide +kernel
theorem dX13_readsAll_48 : decode cX13_readsAll 48 = .ok (.aload_n 0, 1) := by decide +kernel
theorem dX13_readsAll_49 : decode cX13_readsAll 49 = .ok (.getfield 53, 3) := by decide +kernel
theorem dX13_readsAll_52 : decode cX13_readsAll 52 = .ok (.iload_n 1, 1) := by decide +kernel
theorem dX13_readsAll_53 : decode cX13_readsAll 53 = .ok (.sipush 1000, 3) := by decide +kernel
theorem dX13_readsAll_56 : decode cX13_readsAll 56 = .ok (.iastore, 1) := by decide +kernel
theorem dX13_readsAll_57 : decode cX13_readsAll 57 = .ok (.iinc 1 1, 3) := by decide +kernel
theorem dX13_readsAll_60 : decode cX13_readsAll 60 = .ok (.goto (-26), 3) := by decide +kernel
theorem dX13_readsAll_63 : decode cX13_readsAll 63 = .ok (.aload_n 0, 1) := by decide +kernel
theorem dX13_readsAll_64 : decode cX13_readsAll 64 = .ok (.iconst 0, 1) := by decide +kernel
theorem dX13_readsAll_65 : decode cX13_readsAll 65 = .ok (.putfield 336, 3) := by decide +kernel
theorem dX13_readsAll_68 : decode cX13_readsAll 68 = .ok (.aload_n 0, 1) := by decide +kernel
theorem dX13_readsAll_69 : decode cX13_readsAll 69 = .ok (.iconst 0, 1) := by decide +kernel
theorem dX13_readsAll_70 : decode cX13_readsAll 70 = .ok (.putfield 323, 3) := by decide +kernel
theorem dX13_readsAll_73 : decode cX13_readsAll 73 = .ok (.aload_n 0, 1) := by decide +kernel
theorem dX13_readsAll_74 : decode cX13_readsAll 74 = .ok (.sipush 1000, 3) := by decide +kernel
theorem dX13_readsAll_77 : decode cX13_readsAll 77 = .ok (.putfield 192, 3) := by decide +kernel
theorem dX13_readsAll_80 : decode cX13_readsAll 80 = .ok (.aload_n 0, 1) := by decide +kernel
theorem dX13_readsAll_81 : decode cX13_readsAll 81 = .ok (.invokevirtual 348, 3) := by decide +kernel
theorem dX13_readsAll_84 : decode cX13_readsAll 84 = .ok (.aload_n 0, 1) := by decide +kernel
theorem dX13_readsAll_85 : decode cX13_readsAll 85 = .ok (.getfield 178, 3) := by decide +kernel
theorem dX13_readsAll_88 : decode cX13_readsAll 88 = .ok (.ifCond .eq 156, 3) := by decide +kernel
theorem dX13_readsAll_91 : decode cX13_readsAll 91 = .ok (.aload_n 0, 1) := by decide +kernel
theorem dX13_readsAll_92 : decode cX13_readsAll 92 = .ok (.ldc2_w 247, 3) := by decide +kernel
theorem dX13_readsAll_95 : decode cX13_readsAll 95 = .ok (.invokevirtual 216, 3) := by decide +kernel
theorem dX13_readsAll_98 : decode cX13_readsAll 98 = .ok (.ifCond .eq 10, 3) := by decide +kernel
theorem dX13_readsAll_101 : decode cX13_readsAll 101 = .ok (.aload_n 0, 1) := by decide +kernel
theorem dX13_readsAll_102 : decode cX13_readsAll 102 = .ok (.invokevirtual 351, 3) := by decide +kernel
theorem dX13_readsAll_105 : decode cX13_readsAll 105 = .ok (.goto 129, 3) := by decide +kernel
theorem dX13_readsAll_108 : decode cX13_readsAll 108 = .ok (.aload_n 0, 1) := by decide +kernel
theorem dX13_readsAll_109 : decode cX13_readsAll 109 = .ok (.ldc2_w 255, 3) := by decide +kernel
theorem dX13_readsAll_112 : decode cX13_readsAll 112 = .ok (.invokevirtual 216, 3) := by decide +kernel
theorem dX13_readsAll_115 : decode cX13_readsAll 115 = .ok (.ifCond .eq 10, 3) := by decide +kernel
theorem dX13_readsAll_118 : decode cX13_readsAll 118 = .ok (.aload_n 0, 1) := by decide +kernel
theorem dX13_readsAll_119 : decode cX13_readsAll 119 = .ok (.invokevirtual 354, 3) := by decide +kernel
theorem dX13_readsAll_122 : decode cX13_readsAll 122 = .ok (.goto 112, 3) := by decide +kernel
theorem dX13_readsAll_125 : decode cX13_readsAll 125 = .ok (.aload_n 0, 1) := by decide +kernel
theorem dX13_readsAll_126 : decode cX13_readsAll 126 = .ok (.ldc2_w 257, 3) := by decide +kernel
theorem dX13_readsAll_129 : decode cX13_readsAll 129 = .ok (.invokevirtual 216, 3) := by decide +kernel
theorem dX13_readsAll_132 : decode cX13_readsAll 132 = .ok (.ifCond .eq 10, 3) := by decide +kernel
theorem dX13_readsAll_135 : decode cX13_readsAll 135 = .ok (.aload_n 0, 1) := by decide +kernel
theorem dX13_readsAll_136 : decode cX13_readsAll 136 = .ok (.invokevirtual 357, 3) := by decide +kernel
theorem dX13_readsAll_139 : decode cX13_readsAll 139 = .ok (.goto 95, 3) := by decide +kernel
theorem dX13_readsAll_142 : decode cX13_readsAll 142 = .ok (.aload_n 0, 1) := by decide +kernel
theorem dX13_readsAll_143 : decode cX13_readsAll 143 = .ok (.ldc2_w 259, 3) := by decide +kernel
theorem dX13_readsAll_146 : decode cX13_readsAll 146 = .ok (.invokevirtual 216, 3) := by decide +kernel
theorem dX13_readsAll_149 : decode cX13_readsAll 149 = .ok (.ifCond .eq 10, 3) := by decide +kernel
theorem dX13_readsAll_152 : decode cX13_readsAll 152 = .ok (.aload_n 0, 1) := by decide +kernel
theorem dX13_readsAll_153 : decode cX13_readsAll 153 = .ok (.invokevirtual 360, 3) := by decide +kernel
theorem dX13_readsAll_156 : decode cX13_readsAll 156 = .ok (.goto 78, 3) := by decide +kernel
theorem dX13_readsAll_159 : decode cX13_readsAll 159 = .ok (.aload_n 0, 1) := by decide +kernel
theorem dX13_readsAll_160 : decode cX13_readsAll 160 = .ok (.ldc2_w 265, 3) := by decide +kernel
theorem dX13_readsAll_163 : decode cX13_readsAll 163 = .ok (.invokevirtual 216, 3) := by decide +kernel
theorem dX13_readsAll_166 : decode cX13_readsAll 166 = .ok (.ifCond .eq 10, 3) := by decide +kernel
theorem dX13_readsAll_169 : decode cX13_readsAll 169 = .ok (.aload_n 0, 1) := by decide +kernel
theorem dX13_readsAll_170 : decode cX13_readsAll 170 = .ok (.invokevirtual 363, 3) := by decide +kernel
theorem dX13_readsAll_173 : decode cX13_readsAll 173 = .ok (.goto 61, 3) := by decide +kernel
theorem dX13_readsAll_176 : decode cX13_readsAll 176 = .ok (.aload_n 0, 1) := by decide +kernel
theorem dX13_readsAll_177 : decode cX13_readsAll 177 = .ok (.ldc2_w 269, 3) := by decide +kernel
theorem dX13_readsAll_180 : decode cX13_readsAll 180 = .ok (.invokevirtual 216, 3) := by decide +kernel
theorem dX13_readsAll_183 : decode cX13_readsAll 183 = .ok (.ifCond .eq 10, 3) := by decide +kernel
theorem dX13_readsAll_186 : decode cX13_readsAll 186 = .ok (.aload_n 0, 1) := by decide +kernel
theorem dX13_readsAll_187 : decode cX13_readsAll 187 = .ok (.invokevirtual 366, 3) := by decide +kernel
theorem dX13_readsAll_190 : decode cX13_readsAll 190 = .ok (.goto 44, 3) := by decide +kernel
theorem dX13_readsAll_193 : decode cX13_readsAll 193 = .ok (.aload_n 0, 1) := by decide +kernel
theorem dX13_readsAll_194 : decode cX13_readsAll 194 = .ok (.ldc2_w 271, 3) := by decide +kernel
theorem dX13_readsAll_197 : decode cX13_readsAll 197 = .ok (.invokevirtual 216, 3) := by decide +kernel
theorem dX13_readsAll_200 : decode cX13_readsAll 200 = .ok (.ifCond .eq 11, 3) := by decide +kernel
theorem dX13_readsAll_203 : decode cX13_readsAll 203 = .ok (.aload_n 0, 1) := by decide +kernel
theorem dX13_readsAll_204 : decode cX13_readsAll 204 = .ok (.iconst 0, 1) := by decide +kernel
theorem dX13_readsAll_205 : decode cX13_readsAll 205 = .ok (.invokevirtual 369, 3) := by decide +kernel
theorem dX13_readsAll_208 : decode cX13_readsAll 208 = .ok (.goto 26, 3) := by decide +kernel
theorem dX13_readsAll_211 : decode cX13_readsAll 211 = .ok (.aload_n 0, 1) := by decide +kernel
theorem dX13_readsAll_212 : decode cX13_readsAll 212 = .ok (.ldc2_w 273, 3) := by decide +kernel
theorem dX13_readsAll_215 : decode cX13_readsAll 215 = .ok (.invokevirtual 216, 3) := by decide +kernel
theorem dX13_readsAll_218 : decode cX13_readsAll 218 = .ok (.ifCond .eq 11, 3) := by decide +kernel
theorem dX13_readsAll_221 : decode cX13_readsAll 221 = .ok (.aload_n 0, 1) := by decide +kernel
theorem dX13_readsAll_222 : decode cX13_readsAll 222 = .ok (.iconst 1, 1) := by decide +kernel
theorem dX13_readsAll_223 : decode cX13_readsAll 223 = .ok (.invokevirtual 369, 3) := by decide +kernel
theorem dX13_readsAll_226 : decode cX13_readsAll 226 = .ok (.goto 8, 3) := by decide +kernel
theorem dX13_readsAll_229 : decode cX13_readsAll 229 = .ok (.aload_n 0, 1) := by decide +kernel
theorem dX13_readsAll_230 : decode cX13_readsAll 230 = .ok (.iconst 1, 1) := by decide +kernel
theorem dX13_readsAll_231 : decode cX13_readsAll 231 = .ok (.invokevirtual 224, 3) := by decide +kernel
theorem dX13_readsAll_234 : decode cX13_readsAll 234 = .ok (.istore_n 1, 1) := by decide +kernel
theorem dX13_readsAll_235 : decode cX13_readsAll 235 = .ok (.iload_n 1, 1) := by decide +kernel
theorem dX13_readsAll_236 : decode cX13_readsAll 236 = .ok (.ifCond .ne 5, 3) := by decide +kernel
theorem dX13_readsAll_239 : decode cX13_readsAll 239 = .ok (.iconst 0, 1) := by decide +kernel
theorem dX13_readsAll_240 : decode cX13_readsAll 240 = .ok (.ireturn, 1) := by decide +kernel
theorem dX13_readsAll_241 : decode cX13_readsAll 241 = .ok (.goto (-157), 3) := by decide +kernel
theorem dX13_readsAll_244 : decode cX13_readsAll 244 = .ok (.iconst 1, 1) := by decide +kernel
theorem dX13_readsAll_245 : decode cX13_readsAll 245 = .ok (.ireturn, 1) := by decide +kernel
theorem dX13_shifts_0 : decode cX13_shifts 0 = .ok (.iconst 0, 1) := by decide +kernel
theorem dX13_shifts_1 : decode cX13_shifts 1 = .ok (.istore_n 2, 1) := by decide +kernel
theorem dX13_shifts_2 : decode cX13_shifts 2 = .ok (.iload_n 2, 1) := by decide +kernel
theorem dX13_shifts_3 : decode cX13_shifts 3 = .ok (.iload_n 1, 1) := by decide +kernel
theorem dX13_shifts_4 : decode cX13_shifts 4 = .ok (.if_icmp .ge 17, 3) := by decide +kernel
theorem dX13_shifts_7 : decode cX13_shifts 7 = .ok (.aload_n 0, 1) := by decide +kernel
theorem dX13_shifts_8 : decode cX13_shifts 8 = .ok (.iload_n 2, 1) := by decide +kernel
theorem dX13_shifts_9 : decode cX13_shifts 9 = .ok (.aload_n 0, 1) := by decide +kernel
theorem dX13_shifts_10 : decode cX13_shifts 10 = .ok (.iload_n 1, 1) := by decide +kernel
theorem dX13_shifts_11 : decode cX13_shifts 11 = .ok (.iload_n 2, 1) := by decide +kernel
theorem dX13_shifts_12 : decode cX13_shifts 12 = .ok (.iadd, 1) := by decide +kernel
theorem dX13_shifts_13 : decode cX13_shifts 13 = .ok (.iaload, 1) := by decide +kernel
theorem dX13_shifts_14 : decode cX13_shifts 14 = .ok (.iastore, 1) := by decide +kernel
theorem dX13_shifts_15 : decode cX13_shifts 15 = .ok (.iinc 2 1, 3) := by decide +kernel
theorem dX13_shifts_18 : decode cX13_shifts 18 = .ok (.goto (-16), 3) := by decide +kernel
theorem dX13_shifts_21 : decode cX13_shifts 21 = .ok (.return_, 1) := by decide +kernel
theorem dX13_shiftsNames_0 : decode cX13_shiftsNames 0 = .ok (.iconst 0, 1) := by decide +kernel
theorem dX13_shiftsNames_1 : decode cX13_shiftsNames 1 = .ok (.istore_n 2, 1) := by decide +kernel
theorem dX13_shiftsNames_2 : decode cX13_shiftsNames 2 = .ok (.iload_n 2, 1) := by decide +kernel
theorem dX13_shiftsNames_3 : decode cX13_shiftsNames 3 = .ok (.iload_n 1, 1) := by decide +kernel
theorem dX13_shiftsNames_4 : decode cX13_shiftsNames 4 = .ok (.if_icmp .ge 17, 3) := by decide +kernel
theorem dX13_shiftsNames_7 : decode cX13_shiftsNames 7 = .ok (.aload_n 0, 1) := by decide +kernel
theorem dX13_shiftsNames_8 : decode cX13_shiftsNames 8 = .ok (.iload_n 2, 1) := by decide +kernel
theorem dX13_shiftsNames_9 : decode cX13_shiftsNames 9 = .ok (.aload_n 0, 1) := by decide +kernel
theorem dX13_shiftsNames_10 : decode cX13_shiftsNames 10 = .ok (.iload_n 1, 1) := by decide +kernel
theorem dX13_shiftsNames_11 : decode cX13_shiftsNames 11 = .ok (.iload_n 2, 1) := by decide +kernel
theorem dX13_shiftsNames_12 : decode cX13_shiftsNames 12 = .ok (.iadd, 1) := by decide +kernel
theorem dX13_shiftsNames_13 : decode cX13_shiftsNames 13 = .ok (.laload, 1) := by decide +kernel
theorem dX13_shiftsNames_14 : decode cX13_shiftsNames 14 = .ok (.lastore, 1) := by decide +kernel
theorem dX13_shiftsNames_15 : decode cX13_shiftsNames 15 = .ok (.iinc 2 1, 3) := by decide +kernel
theorem dX13_shiftsNames_18 : decode cX13_shiftsNames 18 = .ok (.goto (-16), 3) := by decide +kernel
theorem dX13_shiftsNames_21 : decode cX13_shiftsNames 21 = .ok (.return_, 1) := by decide +kernel
theorem dX13_lays_0 : decode cX13_lays 0 = .ok (.aload_n 0, 1) := by decide +kernel
theorem dX13_lays_1 : decode cX13_lays 1 = .ok (.getfield 13, 3) := by decide +kernel
theorem dX13_lays_4 : decode cX13_lays 4 = .ok (.iconst 5, 1) := by decide +kernel
theorem dX13_lays_5 : decode cX13_lays 5 = .ok (.invokestatic 372, 3) := by decide +kernel
theorem dX13_lays_8 : decode cX13_lays 8 = .ok (.aload_n 0, 1) := by decide +kernel
theorem dX13_lays_9 : decode cX13_lays 9 = .ok (.getfield 16, 3) := by decide +kernel
theorem dX13_lays_12 : decode cX13_lays 12 = .ok (.bipush 6, 2) := by decide +kernel
theorem dX13_lays_14 : decode cX13_lays 14 = .ok (.invokestatic 376, 3) := by decide +kernel
theorem dX13_lays_17 : decode cX13_lays 17 = .ok (.aload_n 0, 1) := by decide +kernel
theorem dX13_lays_18 : decode cX13_lays 18 = .ok (.getfield 20, 3) := by decide +kernel
theorem dX13_lays_21 : decode cX13_lays 21 = .ok (.iconst 5, 1) := by decide +kernel
theorem dX13_lays_22 : decode cX13_lays 22 = .ok (.invokestatic 376, 3) := by decide +kernel
theorem dX13_lays_25 : decode cX13_lays 25 = .ok (.aload_n 0, 1) := by decide +kernel
theorem dX13_lays_26 : decode cX13_lays 26 = .ok (.getfield 23, 3) := by decide +kernel
theorem dX13_lays_29 : decode cX13_lays 29 = .ok (.bipush 6, 2) := by decide +kernel
theorem dX13_lays_31 : decode cX13_lays 31 = .ok (.invokestatic 376, 3) := by decide +kernel
theorem dX13_lays_34 : decode cX13_lays 34 = .ok (.aload_n 0, 1) := by decide +kernel
theorem dX13_lays_35 : decode cX13_lays 35 = .ok (.getfield 26, 3) := by decide +kernel
theorem dX13_lays_38 : decode cX13_lays 38 = .ok (.bipush 6, 2) := by decide +kernel
theorem dX13_lays_40 : decode cX13_lays 40 = .ok (.invokestatic 372, 3) := by decide +kernel
theorem dX13_lays_43 : decode cX13_lays 43 = .ok (.aload_n 0, 1) := by decide +kernel
theorem dX13_lays_44 : decode cX13_lays 44 = .ok (.getfield 29, 3) := by decide +kernel
theorem dX13_lays_47 : decode cX13_lays 47 = .ok (.bipush 6, 2) := by decide +kernel
theorem dX13_lays_49 : decode cX13_lays 49 = .ok (.invokestatic 372, 3) := by decide +kernel
theorem dX13_lays_52 : decode cX13_lays 52 = .ok (.aload_n 0, 1) := by decide +kernel
theorem dX13_lays_53 : decode cX13_lays 53 = .ok (.getfield 32, 3) := by decide +kernel
theorem dX13_lays_56 : decode cX13_lays 56 = .ok (.bipush 6, 2) := by decide +kernel
theorem dX13_lays_58 : decode cX13_lays 58 = .ok (.invokestatic 372, 3) := by decide +kernel
theorem dX13_lays_61 : decode cX13_lays 61 = .ok (.aload_n 0, 1) := by decide +kernel
theorem dX13_lays_62 : decode cX13_lays 62 = .ok (.getfield 35, 3) := by decide +kernel
theorem dX13_lays_65 : decode cX13_lays 65 = .ok (.bipush 6, 2) := by decide +kernel
theorem dX13_lays_67 : decode cX13_lays 67 = .ok (.invokestatic 372, 3) := by decide +kernel
theorem dX13_lays_70 : decode cX13_lays 70 = .ok (.aload_n 0, 1) := by decide +kernel
theorem dX13_lays_71 : decode cX13_lays 71 = .ok (.getfield 38, 3) := by decide +kernel
theorem dX13_lays_74 : decode cX13_lays 74 = .ok (.bipush 6, 2) := by decide +kernel
theorem dX13_lays_76 : decode cX13_lays 76 = .ok (.invokestatic 372, 3) := by decide +kernel
theorem dX13_lays_79 : decode cX13_lays 79 = .ok (.aload_n 0, 1) := by decide +kernel
theorem dX13_lays_80 : decode cX13_lays 80 = .ok (.getfield 41, 3) := by decide +kernel
theorem dX13_lays_83 : decode cX13_lays 83 = .ok (.bipush 6, 2) := by decide +kernel
theorem dX13_lays_85 : decode cX13_lays 85 = .ok (.invokestatic 372, 3) := by decide +kernel
theorem dX13_lays_88 : decode cX13_lays 88 = .ok (.aload_n 0, 1) := by decide +kernel
theorem dX13_lays_89 : decode cX13_lays 89 = .ok (.getfield 44, 3) := by decide +kernel
theorem dX13_lays_92 : decode cX13_lays 92 = .ok (.iconst 5, 1) := by decide +kernel
theorem dX13_lays_93 : decode cX13_lays 93 = .ok (.invokestatic 372, 3) := by decide +kernel
theorem dX13_lays_96 : decode cX13_lays 96 = .ok (.aload_n 0, 1) := by decide +kernel
theorem dX13_lays_97 : decode cX13_lays 97 = .ok (.getfield 47, 3) := by decide +kernel
theorem dX13_lays_100 : decode cX13_lays 100 = .ok (.iconst 5, 1) := by decide +kernel
theorem dX13_lays_101 : decode cX13_lays 101 = .ok (.invokestatic 372, 3) := by decide +kernel
theorem dX13_lays_104 : decode cX13_lays 104 = .ok (.aload_n 0, 1) := by decide +kernel
theorem dX13_lays_105 : decode cX13_lays 105 = .ok (.getfield 56, 3) := by decide +kernel
theorem dX13_lays_108 : decode cX13_lays 108 = .ok (.sipush 1000, 3) := by decide +kernel
theorem dX13_lays_111 : decode cX13_lays 111 = .ok (.invokestatic 372, 3) := by decide +kernel
theorem dX13_lays_114 : decode cX13_lays 114 = .ok (.iconst 0, 1) := by decide +kernel
theorem dX13_lays_115 : decode cX13_lays 115 = .ok (.istore_n 1, 1) := by decide +kernel
theorem dX13_lays_116 : decode cX13_lays 116 = .ok (.iload_n 1, 1) := by decide +kernel
theorem dX13_lays_117 : decode cX13_lays 117 = .ok (.iconst 2, 1) := by decide +kernel
theorem dX13_lays_118 : decode cX13_lays 118 = .ok (.if_icmp .ge 45, 3) := by decide +kernel
theorem dX13_lays_121 : decode cX13_lays 121 = .ok (.aload_n 0, 1) := by decide +kernel
theorem dX13_lays_122 : decode cX13_lays 122 = .ok (.getfield 50, 3) := by decide +kernel
theorem dX13_lays_125 : decode cX13_lays 125 = .ok (.iload_n 1, 1) := by decide +kernel
theorem dX13_lays_126 : decode cX13_lays 126 = .ok (.aload_n 0, 1) := by decide +kernel
theorem dX13_lays_127 : decode cX13_lays 127 = .ok (.getfield 50, 3) := by decide +kernel
theorem dX13_lays_130 : decode cX13_lays 130 = .ok (.iconst 2, 1) := by decide +kernel
theorem dX13_lays_131 : decode cX13_lays 131 = .ok (.iload_n 1, 1) := by decide +kernel
theorem dX13_lays_132 : decode cX13_lays 132 = .ok (.iadd, 1) := by decide +kernel
theorem dX13_lays_133 : decode cX13_lays 133 = .ok (.iaload, 1) := by decide +kernel
theorem dX13_lays_134 : decode cX13_lays 134 = .ok (.sipush 1000, 3) := by decide +kernel
theorem dX13_lays_137 : decode cX13_lays 137 = .ok (.isub, 1) := by decide +kernel
theorem dX13_lays_138 : decode cX13_lays 138 = .ok (.iastore, 1) := by decide +kernel
theorem dX13_lays_139 : decode cX13_lays 139 = .ok (.aload_n 0, 1) := by decide +kernel
theorem dX13_lays_140 : decode cX13_lays 140 = .ok (.getfield 53, 3) := by decide +kernel
theorem dX13_lays_143 : decode cX13_lays 143 = .ok (.iload_n 1, 1) := by decide +kernel
theorem dX13_lays_144 : decode cX13_lays 144 = .ok (.aload_n 0, 1) := by decide +kernel
theorem dX13_lays_145 : decode cX13_lays 145 = .ok (.getfield 53, 3) := by decide +kernel
theorem dX13_lays_148 : decode cX13_lays 148 = .ok (.iconst 2, 1) := by decide +kernel
theorem dX13_lays_149 : decode cX13_lays 149 = .ok (.iload_n 1, 1) := by decide +kernel
theorem dX13_lays_150 : decode cX13_lays 150 = .ok (.iadd, 1) := by decide +kernel
theorem dX13_lays_151 : decode cX13_lays 151 = .ok (.iaload, 1) := by decide +kernel
theorem dX13_lays_152 : decode cX13_lays 152 = .ok (.sipush 1000, 3) := by decide +kernel
theorem dX13_lays_155 : decode cX13_lays 155 = .ok (.isub, 1) := by decide +kernel
theorem dX13_lays_156 : decode cX13_lays 156 = .ok (.iastore, 1) := by decide +kernel
theorem dX13_lays_157 : decode cX13_lays 157 = .ok (.iinc 1 1, 3) := by decide +kernel
theorem dX13_lays_160 : decode cX13_lays 160 = .ok (.goto (-44), 3) := by decide +kernel
theorem dX13_lays_163 : decode cX13_lays 163 = .ok (.return_, 1) := by decide +kernel
theorem dX13_copies_0 : decode cX13_copies 0 = .ok (.iconst 0, 1) := by decide +kernel
theorem dX13_copies_1 : decode cX13_copies 1 = .ok (.istore 4, 2) := by decide +kernel
theorem dX13_copies_3 : decode cX13_copies 3 = .ok (.iload 4, 2) := by decide +kernel
theorem dX13_copies_5 : decode cX13_copies 5 = .ok (.bipush 23, 2) := by decide +kernel
theorem dX13_copies_7 : decode cX13_copies 7 = .ok (.if_icmp .ge 21, 3) := by decide +kernel
theorem dX13_copies_10 : decode cX13_copies 10 = .ok (.aload_n 2, 1) := by decide +kernel
theorem dX13_copies_11 : decode cX13_copies 11 = .ok (.iload_n 3, 1) := by decide +kernel
theorem dX13_copies_12 : decode cX13_copies 12 = .ok (.iload 4, 2) := by decide +kernel
theorem dX13_copies_14 : decode cX13_copies 14 = .ok (.iadd, 1) := by decide +kernel
theorem dX13_copies_15 : decode cX13_copies 15 = .ok (.aload_n 0, 1) := by decide +kernel
theorem dX13_copies_16 : decode cX13_copies 16 = .ok (.iload_n 1, 1) := by decide +kernel
theorem dX13_copies_17 : decode cX13_copies 17 = .ok (.iload 4, 2) := by decide +kernel
theorem dX13_copies_19 : decode cX13_copies 19 = .ok (.iadd, 1) := by decide +kernel
theorem dX13_copies_20 : decode cX13_copies 20 = .ok (.iaload, 1) := by decide +kernel
theorem dX13_copies_21 : decode cX13_copies 21 = .ok (.iastore, 1) := by decide +kernel
theorem dX13_copies_22 : decode cX13_copies 22 = .ok (.iinc 4 1, 3) := by decide +kernel
theorem dX13_copies_25 : decode cX13_copies 25 = .ok (.goto (-22), 3) := by decide +kernel
theorem dX13_copies_28 : decode cX13_copies 28 = .ok (.return_, 1) := by decide +kernel
theorem dX13_readsTwo_0 : decode cX13_readsTwo 0 = .ok (.iload_n 2, 1) := by decide +kernel
theorem dX13_readsTwo_1 : decode cX13_readsTwo 1 = .ok (.ifCond .eq 14, 3) := by decide +kernel
theorem dX13_readsTwo_4 : decode cX13_readsTwo 4 = .ok (.aload_n 0, 1) := by decide +kernel
theorem dX13_readsTwo_5 : decode cX13_readsTwo 5 = .ok (.iconst 0, 1) := by decide +kernel
theorem dX13_readsTwo_6 : decode cX13_readsTwo 6 = .ok (.invokevirtual 339, 3) := by decide +kernel
theorem dX13_readsTwo_9 : decode cX13_readsTwo 9 = .ok (.ifCond .ne 15, 3) := by decide +kernel
theorem dX13_readsTwo_12 : decode cX13_readsTwo 12 = .ok (.goto 10, 3) := by decide +kernel
theorem dX13_readsTwo_15 : decode cX13_readsTwo 15 = .ok (.aload_n 0, 1) := by decide +kernel
theorem dX13_readsTwo_16 : decode cX13_readsTwo 16 = .ok (.invokevirtual 380, 3) := by decide +kernel
theorem dX13_readsTwo_19 : decode cX13_readsTwo 19 = .ok (.ifCond .ne 5, 3) := by decide +kernel
theorem dX13_readsTwo_22 : decode cX13_readsTwo 22 = .ok (.iconst 0, 1) := by decide +kernel
theorem dX13_readsTwo_23 : decode cX13_readsTwo 23 = .ok (.ireturn, 1) := by decide +kernel
theorem dX13_readsTwo_24 : decode cX13_readsTwo 24 = .ok (.aload_n 0, 1) := by decide +kernel
theorem dX13_readsTwo_25 : decode cX13_readsTwo 25 = .ok (.getfield 102, 3) := by decide +kernel
theorem dX13_readsTwo_28 : decode cX13_readsTwo 28 = .ok (.iload_n 1, 1) := by decide +kernel
theorem dX13_readsTwo_29 : decode cX13_readsTwo 29 = .ok (.aload_n 0, 1) := by decide +kernel
theorem dX13_readsTwo_30 : decode cX13_readsTwo 30 = .ok (.getfield 301, 3) := by decide +kernel
theorem dX13_readsTwo_33 : decode cX13_readsTwo 33 = .ok (.iastore, 1) := by decide +kernel
theorem dX13_readsTwo_34 : decode cX13_readsTwo 34 = .ok (.aload_n 0, 1) := by decide +kernel
theorem dX13_readsTwo_35 : decode cX13_readsTwo 35 = .ok (.invokevirtual 231, 3) := by decide +kernel
theorem dX13_readsTwo_38 : decode cX13_readsTwo 38 = .ok (.iload_n 2, 1) := by decide +kernel
theorem dX13_readsTwo_39 : decode cX13_readsTwo 39 = .ok (.ifCond .eq 14, 3) := by decide +kernel
theorem dX13_readsTwo_42 : decode cX13_readsTwo 42 = .ok (.aload_n 0, 1) := by decide +kernel
theorem dX13_readsTwo_43 : decode cX13_readsTwo 43 = .ok (.iconst 0, 1) := by decide +kernel
theorem dX13_readsTwo_44 : decode cX13_readsTwo 44 = .ok (.invokevirtual 339, 3) := by decide +kernel
theorem dX13_readsTwo_47 : decode cX13_readsTwo 47 = .ok (.ifCond .ne 15, 3) := by decide +kernel
theorem dX13_readsTwo_50 : decode cX13_readsTwo 50 = .ok (.goto 10, 3) := by decide +kernel
theorem dX13_readsTwo_53 : decode cX13_readsTwo 53 = .ok (.aload_n 0, 1) := by decide +kernel
theorem dX13_readsTwo_54 : decode cX13_readsTwo 54 = .ok (.invokevirtual 380, 3) := by decide +kernel
theorem dX13_readsTwo_57 : decode cX13_readsTwo 57 = .ok (.ifCond .ne 5, 3) := by decide +kernel
theorem dX13_readsTwo_60 : decode cX13_readsTwo 60 = .ok (.iconst 0, 1) := by decide +kernel
theorem dX13_readsTwo_61 : decode cX13_readsTwo 61 = .ok (.ireturn, 1) := by decide +kernel
theorem dX13_readsTwo_62 : decode cX13_readsTwo 62 = .ok (.aload_n 0, 1) := by decide +kernel
theorem dX13_readsTwo_63 : decode cX13_readsTwo 63 = .ok (.getfield 301, 3) := by decide +kernel
theorem dX13_readsTwo_66 : decode cX13_readsTwo 66 = .ok (.aload_n 0, 1) := by decide +kernel
theorem dX13_readsTwo_67 : decode cX13_readsTwo 67 = .ok (.getfield 102, 3) := by decide +kernel
theorem dX13_readsTwo_70 : decode cX13_readsTwo 70 = .ok (.iload_n 1, 1) := by decide +kernel
theorem dX13_readsTwo_71 : decode cX13_readsTwo 71 = .ok (.iaload, 1) := by decide +kernel
theorem dX13_readsTwo_72 : decode cX13_readsTwo 72 = .ok (.if_icmp .ne 9, 3) := by decide +kernel
theorem dX13_readsTwo_75 : decode cX13_readsTwo 75 = .ok (.aload_n 0, 1) := by decide +kernel
theorem dX13_readsTwo_76 : decode cX13_readsTwo 76 = .ok (.iconst 3, 1) := by decide +kernel
theorem dX13_readsTwo_77 : decode cX13_readsTwo 77 = .ok (.invokevirtual 224, 3) := by decide +kernel
theorem dX13_readsTwo_80 : decode cX13_readsTwo 80 = .ok (.ireturn, 1) := by decide +kernel
theorem dX13_readsTwo_81 : decode cX13_readsTwo 81 = .ok (.aload_n 0, 1) := by decide +kernel
theorem dX13_readsTwo_82 : decode cX13_readsTwo 82 = .ok (.getfield 105, 3) := by decide +kernel
theorem dX13_readsTwo_85 : decode cX13_readsTwo 85 = .ok (.iload_n 1, 1) := by decide +kernel
theorem dX13_readsTwo_86 : decode cX13_readsTwo 86 = .ok (.aload_n 0, 1) := by decide +kernel
theorem dX13_readsTwo_87 : decode cX13_readsTwo 87 = .ok (.getfield 301, 3) := by decide +kernel
theorem dX13_readsTwo_90 : decode cX13_readsTwo 90 = .ok (.iastore, 1) := by decide +kernel
theorem dX13_readsTwo_91 : decode cX13_readsTwo 91 = .ok (.aload_n 0, 1) := by decide +kernel
theorem dX13_readsTwo_92 : decode cX13_readsTwo 92 = .ok (.invokevirtual 231, 3) := by decide +kernel
theorem dX13_readsTwo_95 : decode cX13_readsTwo 95 = .ok (.iconst 1, 1) := by decide +kernel
theorem dX13_readsTwo_96 : decode cX13_readsTwo 96 = .ok (.ireturn, 1) := by decide +kernel
theorem dX13_readsLine_0 : decode cX13_readsLine 0 = .ok (.aload_n 0, 1) := by decide +kernel
theorem dX13_readsLine_1 : decode cX13_readsLine 1 = .ok (.ldc2_w 275, 3) := by decide +kernel
theorem dX13_readsLine_4 : decode cX13_readsLine 4 = .ok (.invokevirtual 216, 3) := by decide +kernel
theorem dX13_readsLine_7 : decode cX13_readsLine 7 = .ok (.ifCond .eq 7, 3) := by decide +kernel
theorem dX13_readsLine_10 : decode cX13_readsLine 10 = .ok (.iconst 0, 1) := by decide +kernel
theorem dX13_readsLine_11 : decode cX13_readsLine 11 = .ok (.goto 60, 3) := by decide +kernel
theorem dX13_readsLine_14 : decode cX13_readsLine 14 = .ok (.aload_n 0, 1) := by decide +kernel
theorem dX13_readsLine_15 : decode cX13_readsLine 15 = .ok (.ldc2_w 277, 3) := by decide +kernel
theorem dX13_readsLine_18 : decode cX13_readsLine 18 = .ok (.invokevirtual 216, 3) := by decide +kernel
theorem dX13_readsLine_21 : decode cX13_readsLine 21 = .ok (.ifCond .eq 7, 3) := by decide +kernel
theorem dX13_readsLine_24 : decode cX13_readsLine 24 = .ok (.iconst 1, 1) := by decide +kernel
theorem dX13_readsLine_25 : decode cX13_readsLine 25 = .ok (.goto 46, 3) := by decide +kernel
theorem dX13_readsLine_28 : decode cX13_readsLine 28 = .ok (.aload_n 0, 1) := by decide +kernel
theorem dX13_readsLine_29 : decode cX13_readsLine 29 = .ok (.ldc2_w 279, 3) := by decide +kernel
theorem dX13_readsLine_32 : decode cX13_readsLine 32 = .ok (.invokevirtual 216, 3) := by decide +kernel
theorem dX13_readsLine_35 : decode cX13_readsLine 35 = .ok (.ifCond .eq 7, 3) := by decide +kernel
theorem dX13_readsLine_38 : decode cX13_readsLine 38 = .ok (.iconst 2, 1) := by decide +kernel
theorem dX13_readsLine_39 : decode cX13_readsLine 39 = .ok (.goto 32, 3) := by decide +kernel
theorem dX13_readsLine_42 : decode cX13_readsLine 42 = .ok (.aload_n 0, 1) := by decide +kernel
theorem dX13_readsLine_43 : decode cX13_readsLine 43 = .ok (.ldc2_w 281, 3) := by decide +kernel
theorem dX13_readsLine_46 : decode cX13_readsLine 46 = .ok (.invokevirtual 216, 3) := by decide +kernel
theorem dX13_readsLine_49 : decode cX13_readsLine 49 = .ok (.ifCond .eq 7, 3) := by decide +kernel
theorem dX13_readsLine_52 : decode cX13_readsLine 52 = .ok (.iconst 3, 1) := by decide +kernel
theorem dX13_readsLine_53 : decode cX13_readsLine 53 = .ok (.goto 18, 3) := by decide +kernel
theorem dX13_readsLine_56 : decode cX13_readsLine 56 = .ok (.aload_n 0, 1) := by decide +kernel
theorem dX13_readsLine_57 : decode cX13_readsLine 57 = .ok (.ldc2_w 283, 3) := by decide +kernel
theorem dX13_readsLine_60 : decode cX13_readsLine 60 = .ok (.invokevirtual 216, 3) := by decide +kernel
theorem dX13_readsLine_63 : decode cX13_readsLine 63 = .ok (.ifCond .eq 7, 3) := by decide +kernel
theorem dX13_readsLine_66 : decode cX13_readsLine 66 = .ok (.iconst 4, 1) := by decide +kernel
theorem dX13_readsLine_67 : decode cX13_readsLine 67 = .ok (.goto 4, 3) := by decide +kernel
theorem dX13_readsLine_70 : decode cX13_readsLine 70 = .ok (.iconst (-1), 1) := by decide +kernel
theorem dX13_readsLine_71 : decode cX13_readsLine 71 = .ok (.istore_n 1, 1) := by decide +kernel
theorem dX13_readsLine_72 : decode cX13_readsLine 72 = .ok (.iload_n 1, 1) := by decide +kernel
theorem dX13_readsLine_73 : decode cX13_readsLine 73 = .ok (.ifCond .ge 9, 3) := by decide +kernel
theorem dX13_readsLine_76 : decode cX13_readsLine 76 = .ok (.aload_n 0, 1) := by decide +kernel
theorem dX13_readsLine_77 : decode cX13_readsLine 77 = .ok (.iconst 1, 1) := by decide +kernel
theorem dX13_readsLine_78 : decode cX13_readsLine 78 = .ok (.invokevirtual 224, 3) := by decide +kernel
theorem dX13_readsLine_81 : decode cX13_readsLine 81 = .ok (.ireturn, 1) := by decide +kernel
theorem dX13_readsLine_82 : decode cX13_readsLine 82 = .ok (.aload_n 0, 1) := by decide +kernel
theorem dX13_readsLine_83 : decode cX13_readsLine 83 = .ok (.getfield 96, 3) := by decide +kernel
theorem dX13_readsLine_86 : decode cX13_readsLine 86 = .ok (.iconst 5, 1) := by decide +kernel
theorem dX13_readsLine_87 : decode cX13_readsLine 87 = .ok (.iaload, 1) := by decide +kernel
theorem dX13_readsLine_88 : decode cX13_readsLine 88 = .ok (.bipush 40, 2) := by decide +kernel
theorem dX13_readsLine_90 : decode cX13_readsLine 90 = .ok (.if_icmp .ne 9, 3) := by decide +kernel
theorem dX13_readsLine_93 : decode cX13_readsLine 93 = .ok (.aload_n 0, 1) := by decide +kernel
theorem dX13_readsLine_94 : decode cX13_readsLine 94 = .ok (.iconst 5, 1) := by decide +kernel
theorem dX13_readsLine_95 : decode cX13_readsLine 95 = .ok (.invokevirtual 224, 3) := by decide +kernel
theorem dX13_readsLine_98 : decode cX13_readsLine 98 = .ok (.ireturn, 1) := by decide +kernel
theorem dX13_readsLine_99 : decode cX13_readsLine 99 = .ok (.aload_n 0, 1) := by decide +kernel
theorem dX13_readsLine_100 : decode cX13_readsLine 100 = .ok (.invokevirtual 231, 3) := by decide +kernel
theorem dX13_readsLine_103 : decode cX13_readsLine 103 = .ok (.sipush 200, 3) := by decide +kernel
theorem dX13_readsLine_106 : decode cX13_readsLine 106 = .ok (.aload_n 0, 1) := by decide +kernel
theorem dX13_readsLine_107 : decode cX13_readsLine 107 = .ok (.getfield 96, 3) := by decide +kernel
theorem dX13_readsLine_110 : decode cX13_readsLine 110 = .ok (.iconst 5, 1) := by decide +kernel
theorem dX13_readsLine_111 : decode cX13_readsLine 111 = .ok (.iaload, 1) := by decide +kernel
theorem dX13_readsLine_112 : decode cX13_readsLine 112 = .ok (.iadd, 1) := by decide +kernel
theorem dX13_readsLine_113 : decode cX13_readsLine 113 = .ok (.istore_n 2, 1) := by decide +kernel
theorem dX13_readsLine_114 : decode cX13_readsLine 114 = .ok (.aload_n 0, 1) := by decide +kernel
theorem dX13_readsLine_115 : decode cX13_readsLine 115 = .ok (.getfield 99, 3) := by decide +kernel
theorem dX13_readsLine_118 : decode cX13_readsLine 118 = .ok (.iload_n 2, 1) := by decide +kernel
theorem dX13_readsLine_119 : decode cX13_readsLine 119 = .ok (.iload_n 1, 1) := by decide +kernel
theorem dX13_readsLine_120 : decode cX13_readsLine 120 = .ok (.iastore, 1) := by decide +kernel
theorem dX13_readsLine_121 : decode cX13_readsLine 121 = .ok (.iload_n 1, 1) := by decide +kernel
theorem dX13_readsLine_122 : decode cX13_readsLine 122 = .ok (.ifCond .eq 8, 3) := by decide +kernel
theorem dX13_readsLine_125 : decode cX13_readsLine 125 = .ok (.iload_n 1, 1) := by decide +kernel
theorem dX13_readsLine_126 : decode cX13_readsLine 126 = .ok (.iconst 3, 1) := by decide +kernel
theorem dX13_readsLine_127 : decode cX13_readsLine 127 = .ok (.if_icmp .ne 22, 3) := by decide +kernel
theorem dX13_readsLine_130 : decode cX13_readsLine 130 = .ok (.aload_n 0, 1) := by decide +kernel
theorem dX13_readsLine_131 : decode cX13_readsLine 131 = .ok (.iload_n 2, 1) := by decide +kernel
theorem dX13_readsLine_132 : decode cX13_readsLine 132 = .ok (.iload_n 1, 1) := by decide +kernel
theorem dX13_readsLine_133 : decode cX13_readsLine 133 = .ok (.ifCond .ne 7, 3) := by decide +kernel
theorem dX13_readsLine_136 : decode cX13_readsLine 136 = .ok (.iconst 1, 1) := by decide +kernel
theorem dX13_readsLine_137 : decode cX13_readsLine 137 = .ok (.goto 4, 3) := by decide +kernel
theorem dX13_readsLine_140 : decode cX13_readsLine 140 = .ok (.iconst 0, 1) := by decide +kernel
theorem dX13_readsLine_141 : decode cX13_readsLine 141 = .ok (.invokevirtual 383, 3) := by decide +kernel
theorem dX13_readsLine_144 : decode cX13_readsLine 144 = .ok (.ifCond .ne 5, 3) := by decide +kernel
theorem dX13_readsLine_147 : decode cX13_readsLine 147 = .ok (.iconst 0, 1) := by decide +kernel
theorem dX13_readsLine_148 : decode cX13_readsLine 148 = .ok (.ireturn, 1) := by decide +kernel
theorem dX13_readsLine_149 : decode cX13_readsLine 149 = .ok (.iload_n 1, 1) := by decide +kernel
theorem dX13_readsLine_150 : decode cX13_readsLine 150 = .ok (.iconst 1, 1) := by decide +kernel
theorem dX13_readsLine_151 : decode cX13_readsLine 151 = .ok (.if_icmp .eq 8, 3) := by decide +kernel
theorem dX13_readsLine_154 : decode cX13_readsLine 154 = .ok (.iload_n 1, 1) := by decide +kernel
theorem dX13_readsLine_155 : decode cX13_readsLine 155 = .ok (.iconst 2, 1) := by decide +kernel
theorem dX13_readsLine_156 : decode cX13_readsLine 156 = .ok (.if_icmp .ne 42, 3) := by decide +kernel
theorem dX13_readsLine_159 : decode cX13_readsLine 159 = .ok (.iload_n 1, 1) := by decide +kernel
theorem dX13_readsLine_160 : decode cX13_readsLine 160 = .ok (.iconst 1, 1) := by decide +kernel
theorem dX13_readsLine_161 : decode cX13_readsLine 161 = .ok (.if_icmp .ne 14, 3) := by decide +kernel
theorem dX13_readsLine_164 : decode cX13_readsLine 164 = .ok (.aload_n 0, 1) := by decide +kernel
theorem dX13_readsLine_165 : decode cX13_readsLine 165 = .ok (.iconst 0, 1) := by decide +kernel
theorem dX13_readsLine_166 : decode cX13_readsLine 166 = .ok (.invokevirtual 339, 3) := by decide +kernel
theorem dX13_readsLine_169 : decode cX13_readsLine 169 = .ok (.ifCond .ne 15, 3) := by decide +kernel
theorem dX13_readsLine_172 : decode cX13_readsLine 172 = .ok (.goto 10, 3) := by decide +kernel
theorem dX13_readsLine_175 : decode cX13_readsLine 175 = .ok (.aload_n 0, 1) := by decide +kernel
theorem dX13_readsLine_176 : decode cX13_readsLine 176 = .ok (.invokevirtual 380, 3) := by decide +kernel
theorem dX13_readsLine_179 : decode cX13_readsLine 179 = .ok (.ifCond .ne 5, 3) := by decide +kernel
theorem dX13_readsLine_182 : decode cX13_readsLine 182 = .ok (.iconst 0, 1) := by decide +kernel
theorem dX13_readsLine_183 : decode cX13_readsLine 183 = .ok (.ireturn, 1) := by decide +kernel
theorem dX13_readsLine_184 : decode cX13_readsLine 184 = .ok (.aload_n 0, 1) := by decide +kernel
theorem dX13_readsLine_185 : decode cX13_readsLine 185 = .ok (.getfield 102, 3) := by decide +kernel
theorem dX13_readsLine_188 : decode cX13_readsLine 188 = .ok (.iload_n 2, 1) := by decide +kernel
theorem dX13_readsLine_189 : decode cX13_readsLine 189 = .ok (.aload_n 0, 1) := by decide +kernel
theorem dX13_readsLine_190 : decode cX13_readsLine 190 = .ok (.getfield 301, 3) := by decide +kernel
theorem dX13_readsLine_193 : decode cX13_readsLine 193 = .ok (.iastore, 1) := by decide +kernel
theorem dX13_readsLine_194 : decode cX13_readsLine 194 = .ok (.aload_n 0, 1) := by decide +kernel
theorem dX13_readsLine_195 : decode cX13_readsLine 195 = .ok (.invokevirtual 231, 3) := by decide +kernel
theorem dX13_readsLine_198 : decode cX13_readsLine 198 = .ok (.aload_n 0, 1) := by decide +kernel
theorem dX13_readsLine_199 : decode cX13_readsLine 199 = .ok (.getfield 96, 3) := by decide +kernel
theorem dX13_readsLine_202 : decode cX13_readsLine 202 = .ok (.iconst 5, 1) := by decide +kernel
theorem dX13_readsLine_203 : decode cX13_readsLine 203 = .ok (.dup2, 1) := by decide +kernel
theorem dX13_readsLine_204 : decode cX13_readsLine 204 = .ok (.iaload, 1) := by decide +kernel
theorem dX13_readsLine_205 : decode cX13_readsLine 205 = .ok (.iconst 1, 1) := by decide +kernel
theorem dX13_readsLine_206 : decode cX13_readsLine 206 = .ok (.iadd, 1) := by decide +kernel
theorem dX13_readsLine_207 : decode cX13_readsLine 207 = .ok (.iastore, 1) := by decide +kernel
theorem dX13_readsLine_208 : decode cX13_readsLine 208 = .ok (.aload_n 0, 1) := by decide +kernel
theorem dX13_readsLine_209 : decode cX13_readsLine 209 = .ok (.invokevirtual 333, 3) := by decide +kernel
theorem dX13_readsLine_212 : decode cX13_readsLine 212 = .ok (.ireturn, 1) := by decide +kernel
theorem dX13_laysLines_0 : decode cX13_laysLines 0 = .ok (.aload_n 0, 1) := by decide +kernel
theorem dX13_laysLines_1 : decode cX13_laysLines 1 = .ok (.getfield 96, 3) := by decide +kernel
theorem dX13_laysLines_4 : decode cX13_laysLines 4 = .ok (.iload_n 2, 1) := by decide +kernel
theorem dX13_laysLines_5 : decode cX13_laysLines 5 = .ok (.aload_n 0, 1) := by decide +kernel
theorem dX13_laysLines_6 : decode cX13_laysLines 6 = .ok (.getfield 96, 3) := by decide +kernel
theorem dX13_laysLines_9 : decode cX13_laysLines 9 = .ok (.iload_n 1, 1) := by decide +kernel
theorem dX13_laysLines_10 : decode cX13_laysLines 10 = .ok (.iaload, 1) := by decide +kernel
theorem dX13_laysLines_11 : decode cX13_laysLines 11 = .ok (.iastore, 1) := by decide +kernel
theorem dX13_laysLines_12 : decode cX13_laysLines 12 = .ok (.iconst 0, 1) := by decide +kernel
theorem dX13_laysLines_13 : decode cX13_laysLines 13 = .ok (.istore_n 3, 1) := by decide +kernel
theorem dX13_laysLines_14 : decode cX13_laysLines 14 = .ok (.iload_n 3, 1) := by decide +kernel
theorem dX13_laysLines_15 : decode cX13_laysLines 15 = .ok (.bipush 40, 2) := by decide +kernel
theorem dX13_laysLines_17 : decode cX13_laysLines 17 = .ok (.if_icmp .ge 75, 3) := by decide +kernel
theorem dX13_laysLines_20 : decode cX13_laysLines 20 = .ok (.aload_n 0, 1) := by decide +kernel
theorem dX13_laysLines_21 : decode cX13_laysLines 21 = .ok (.getfield 99, 3) := by decide +kernel
theorem dX13_laysLines_24 : decode cX13_laysLines 24 = .ok (.bipush 40, 2) := by decide +kernel
theorem dX13_laysLines_26 : decode cX13_laysLines 26 = .ok (.iload_n 2, 1) := by decide +kernel
theorem dX13_laysLines_27 : decode cX13_laysLines 27 = .ok (.imul, 1) := by decide +kernel
theorem dX13_laysLines_28 : decode cX13_laysLines 28 = .ok (.iload_n 3, 1) := by decide +kernel
theorem dX13_laysLines_29 : decode cX13_laysLines 29 = .ok (.iadd, 1) := by decide +kernel
theorem dX13_laysLines_30 : decode cX13_laysLines 30 = .ok (.aload_n 0, 1) := by decide +kernel
theorem dX13_laysLines_31 : decode cX13_laysLines 31 = .ok (.getfield 99, 3) := by decide +kernel
theorem dX13_laysLines_34 : decode cX13_laysLines 34 = .ok (.bipush 40, 2) := by decide +kernel
theorem dX13_laysLines_36 : decode cX13_laysLines 36 = .ok (.iload_n 1, 1) := by decide +kernel
theorem dX13_laysLines_37 : decode cX13_laysLines 37 = .ok (.imul, 1) := by decide +kernel
theorem dX13_laysLines_38 : decode cX13_laysLines 38 = .ok (.iload_n 3, 1) := by decide +kernel
theorem dX13_laysLines_39 : decode cX13_laysLines 39 = .ok (.iadd, 1) := by decide +kernel
theorem dX13_laysLines_40 : decode cX13_laysLines 40 = .ok (.iaload, 1) := by decide +kernel
theorem dX13_laysLines_41 : decode cX13_laysLines 41 = .ok (.iastore, 1) := by decide +kernel
theorem dX13_laysLines_42 : decode cX13_laysLines 42 = .ok (.aload_n 0, 1) := by decide +kernel
theorem dX13_laysLines_43 : decode cX13_laysLines 43 = .ok (.getfield 102, 3) := by decide +kernel
theorem dX13_laysLines_46 : decode cX13_laysLines 46 = .ok (.bipush 40, 2) := by decide +kernel
theorem dX13_laysLines_48 : decode cX13_laysLines 48 = .ok (.iload_n 2, 1) := by decide +kernel
theorem dX13_laysLines_49 : decode cX13_laysLines 49 = .ok (.imul, 1) := by decide +kernel
theorem dX13_laysLines_50 : decode cX13_laysLines 50 = .ok (.iload_n 3, 1) := by decide +kernel
theorem dX13_laysLines_51 : decode cX13_laysLines 51 = .ok (.iadd, 1) := by decide +kernel
theorem dX13_laysLines_52 : decode cX13_laysLines 52 = .ok (.aload_n 0, 1) := by decide +kernel
theorem dX13_laysLines_53 : decode cX13_laysLines 53 = .ok (.getfield 102, 3) := by decide +kernel
theorem dX13_laysLines_56 : decode cX13_laysLines 56 = .ok (.bipush 40, 2) := by decide +kernel
theorem dX13_laysLines_58 : decode cX13_laysLines 58 = .ok (.iload_n 1, 1) := by decide +kernel
theorem dX13_laysLines_59 : decode cX13_laysLines 59 = .ok (.imul, 1) := by decide +kernel
theorem dX13_laysLines_60 : decode cX13_laysLines 60 = .ok (.iload_n 3, 1) := by decide +kernel
theorem dX13_laysLines_61 : decode cX13_laysLines 61 = .ok (.iadd, 1) := by decide +kernel
theorem dX13_laysLines_62 : decode cX13_laysLines 62 = .ok (.iaload, 1) := by decide +kernel
theorem dX13_laysLines_63 : decode cX13_laysLines 63 = .ok (.iastore, 1) := by decide +kernel
theorem dX13_laysLines_64 : decode cX13_laysLines 64 = .ok (.aload_n 0, 1) := by decide +kernel
theorem dX13_laysLines_65 : decode cX13_laysLines 65 = .ok (.getfield 105, 3) := by decide +kernel
theorem dX13_laysLines_68 : decode cX13_laysLines 68 = .ok (.bipush 40, 2) := by decide +kernel
theorem dX13_laysLines_70 : decode cX13_laysLines 70 = .ok (.iload_n 2, 1) := by decide +kernel
theorem dX13_laysLines_71 : decode cX13_laysLines 71 = .ok (.imul, 1) := by decide +kernel
theorem dX13_laysLines_72 : decode cX13_laysLines 72 = .ok (.iload_n 3, 1) := by decide +kernel
theorem dX13_laysLines_73 : decode cX13_laysLines 73 = .ok (.iadd, 1) := by decide +kernel
theorem dX13_laysLines_74 : decode cX13_laysLines 74 = .ok (.aload_n 0, 1) := by decide +kernel
theorem dX13_laysLines_75 : decode cX13_laysLines 75 = .ok (.getfield 105, 3) := by decide +kernel
theorem dX13_laysLines_78 : decode cX13_laysLines 78 = .ok (.bipush 40, 2) := by decide +kernel
theorem dX13_laysLines_80 : decode cX13_laysLines 80 = .ok (.iload_n 1, 1) := by decide +kernel
theorem dX13_laysLines_81 : decode cX13_laysLines 81 = .ok (.imul, 1) := by decide +kernel
theorem dX13_laysLines_82 : decode cX13_laysLines 82 = .ok (.iload_n 3, 1) := by decide +kernel
theorem dX13_laysLines_83 : decode cX13_laysLines 83 = .ok (.iadd, 1) := by decide +kernel
theorem dX13_laysLines_84 : decode cX13_laysLines 84 = .ok (.iaload, 1) := by decide +kernel
theorem dX13_laysLines_85 : decode cX13_laysLines 85 = .ok (.iastore, 1) := by decide +kernel
theorem dX13_laysLines_86 : decode cX13_laysLines 86 = .ok (.iinc 3 1, 3) := by decide +kernel
theorem dX13_laysLines_89 : decode cX13_laysLines 89 = .ok (.goto (-75), 3) := by decide +kernel
theorem dX13_laysLines_92 : decode cX13_laysLines 92 = .ok (.return_, 1) := by decide +kernel
theorem dX13_laysTold_0 : decode cX13_laysTold 0 = .ok (.aload_n 0, 1) := by decide +kernel
theorem dX13_laysTold_1 : decode cX13_laysTold 1 = .ok (.getfield 108, 3) := by decide +kernel
theorem dX13_laysTold_4 : decode cX13_laysTold 4 = .ok (.iload_n 2, 1) := by decide +kernel
theorem dX13_laysTold_5 : decode cX13_laysTold 5 = .ok (.aload_n 0, 1) := by decide +kernel
theorem dX13_laysTold_6 : decode cX13_laysTold 6 = .ok (.getfield 108, 3) := by decide +kernel
theorem dX13_laysTold_9 : decode cX13_laysTold 9 = .ok (.iload_n 1, 1) := by decide +kernel
theorem dX13_laysTold_10 : decode cX13_laysTold 10 = .ok (.iaload, 1) := by decide +kernel
theorem dX13_laysTold_11 : decode cX13_laysTold 11 = .ok (.iastore, 1) := by decide +kernel
theorem dX13_laysTold_12 : decode cX13_laysTold 12 = .ok (.iconst 0, 1) := by decide +kernel
theorem dX13_laysTold_13 : decode cX13_laysTold 13 = .ok (.istore_n 3, 1) := by decide +kernel
theorem dX13_laysTold_14 : decode cX13_laysTold 14 = .ok (.iload_n 3, 1) := by decide +kernel
theorem dX13_laysTold_15 : decode cX13_laysTold 15 = .ok (.bipush 8, 2) := by decide +kernel
theorem dX13_laysTold_17 : decode cX13_laysTold 17 = .ok (.if_icmp .ge 75, 3) := by decide +kernel
theorem dX13_laysTold_20 : decode cX13_laysTold 20 = .ok (.aload_n 0, 1) := by decide +kernel
theorem dX13_laysTold_21 : decode cX13_laysTold 21 = .ok (.getfield 111, 3) := by decide +kernel
theorem dX13_laysTold_24 : decode cX13_laysTold 24 = .ok (.bipush 8, 2) := by decide +kernel
theorem dX13_laysTold_26 : decode cX13_laysTold 26 = .ok (.iload_n 2, 1) := by decide +kernel
theorem dX13_laysTold_27 : decode cX13_laysTold 27 = .ok (.imul, 1) := by decide +kernel
theorem dX13_laysTold_28 : decode cX13_laysTold 28 = .ok (.iload_n 3, 1) := by decide +kernel
theorem dX13_laysTold_29 : decode cX13_laysTold 29 = .ok (.iadd, 1) := by decide +kernel
theorem dX13_laysTold_30 : decode cX13_laysTold 30 = .ok (.aload_n 0, 1) := by decide +kernel
theorem dX13_laysTold_31 : decode cX13_laysTold 31 = .ok (.getfield 111, 3) := by decide +kernel
theorem dX13_laysTold_34 : decode cX13_laysTold 34 = .ok (.bipush 8, 2) := by decide +kernel
theorem dX13_laysTold_36 : decode cX13_laysTold 36 = .ok (.iload_n 1, 1) := by decide +kernel
theorem dX13_laysTold_37 : decode cX13_laysTold 37 = .ok (.imul, 1) := by decide +kernel
theorem dX13_laysTold_38 : decode cX13_laysTold 38 = .ok (.iload_n 3, 1) := by decide +kernel
theorem dX13_laysTold_39 : decode cX13_laysTold 39 = .ok (.iadd, 1) := by decide +kernel
theorem dX13_laysTold_40 : decode cX13_laysTold 40 = .ok (.iaload, 1) := by decide +kernel
theorem dX13_laysTold_41 : decode cX13_laysTold 41 = .ok (.iastore, 1) := by decide +kernel
theorem dX13_laysTold_42 : decode cX13_laysTold 42 = .ok (.aload_n 0, 1) := by decide +kernel
theorem dX13_laysTold_43 : decode cX13_laysTold 43 = .ok (.getfield 114, 3) := by decide +kernel
theorem dX13_laysTold_46 : decode cX13_laysTold 46 = .ok (.bipush 8, 2) := by decide +kernel
theorem dX13_laysTold_48 : decode cX13_laysTold 48 = .ok (.iload_n 2, 1) := by decide +kernel
theorem dX13_laysTold_49 : decode cX13_laysTold 49 = .ok (.imul, 1) := by decide +kernel
theorem dX13_laysTold_50 : decode cX13_laysTold 50 = .ok (.iload_n 3, 1) := by decide +kernel
theorem dX13_laysTold_51 : decode cX13_laysTold 51 = .ok (.iadd, 1) := by decide +kernel
theorem dX13_laysTold_52 : decode cX13_laysTold 52 = .ok (.aload_n 0, 1) := by decide +kernel
theorem dX13_laysTold_53 : decode cX13_laysTold 53 = .ok (.getfield 114, 3) := by decide +kernel
theorem dX13_laysTold_56 : decode cX13_laysTold 56 = .ok (.bipush 8, 2) := by decide +kernel
theorem dX13_laysTold_58 : decode cX13_laysTold 58 = .ok (.iload_n 1, 1) := by decide +kernel
theorem dX13_laysTold_59 : decode cX13_laysTold 59 = .ok (.imul, 1) := by decide +kernel
theorem dX13_laysTold_60 : decode cX13_laysTold 60 = .ok (.iload_n 3, 1) := by decide +kernel
theorem dX13_laysTold_61 : decode cX13_laysTold 61 = .ok (.iadd, 1) := by decide +kernel
theorem dX13_laysTold_62 : decode cX13_laysTold 62 = .ok (.iaload, 1) := by decide +kernel
theorem dX13_laysTold_63 : decode cX13_laysTold 63 = .ok (.iastore, 1) := by decide +kernel
theorem dX13_laysTold_64 : decode cX13_laysTold 64 = .ok (.aload_n 0, 1) := by decide +kernel
theorem dX13_laysTold_65 : decode cX13_laysTold 65 = .ok (.getfield 117, 3) := by decide +kernel
theorem dX13_laysTold_68 : decode cX13_laysTold 68 = .ok (.bipush 8, 2) := by decide +kernel
theorem dX13_laysTold_70 : decode cX13_laysTold 70 = .ok (.iload_n 2, 1) := by decide +kernel
theorem dX13_laysTold_71 : decode cX13_laysTold 71 = .ok (.imul, 1) := by decide +kernel
theorem dX13_laysTold_72 : decode cX13_laysTold 72 = .ok (.iload_n 3, 1) := by decide +kernel
theorem dX13_laysTold_73 : decode cX13_laysTold 73 = .ok (.iadd, 1) := by decide +kernel
theorem dX13_laysTold_74 : decode cX13_laysTold 74 = .ok (.aload_n 0, 1) := by decide +kernel
theorem dX13_laysTold_75 : decode cX13_laysTold 75 = .ok (.getfield 117, 3) := by decide +kernel
theorem dX13_laysTold_78 : decode cX13_laysTold 78 = .ok (.bipush 8, 2) := by decide +kernel
theorem dX13_laysTold_80 : decode cX13_laysTold 80 = .ok (.iload_n 1, 1) := by decide +kernel
theorem dX13_laysTold_81 : decode cX13_laysTold 81 = .ok (.imul, 1) := by decide +kernel
theorem dX13_laysTold_82 : decode cX13_laysTold 82 = .ok (.iload_n 3, 1) := by decide +kernel
theorem dX13_laysTold_83 : decode cX13_laysTold 83 = .ok (.iadd, 1) := by decide +kernel
theorem dX13_laysTold_84 : decode cX13_laysTold 84 = .ok (.iaload, 1) := by decide +kernel
theorem dX13_laysTold_85 : decode cX13_laysTold 85 = .ok (.iastore, 1) := by decide +kernel
theorem dX13_laysTold_86 : decode cX13_laysTold 86 = .ok (.iinc 3 1, 3) := by decide +kernel
theorem dX13_laysTold_89 : decode cX13_laysTold 89 = .ok (.goto (-75), 3) := by decide +kernel
theorem dX13_laysTold_92 : decode cX13_laysTold 92 = .ok (.return_, 1) := by decide +kernel
theorem dX13_fresh_0 : decode cX13_fresh 0 = .ok (.iconst 0, 1) := by decide +kernel
theorem dX13_fresh_1 : decode cX13_fresh 1 = .ok (.istore_n 1, 1) := by decide +kernel
theorem dX13_fresh_2 : decode cX13_fresh 2 = .ok (.iload_n 1, 1) := by decide +kernel
theorem dX13_fresh_3 : decode cX13_fresh 3 = .ok (.bipush 23, 2) := by decide +kernel
theorem dX13_fresh_5 : decode cX13_fresh 5 = .ok (.if_icmp .ge 16, 3) := by decide +kernel
theorem dX13_fresh_8 : decode cX13_fresh 8 = .ok (.aload_n 0, 1) := by decide +kernel
theorem dX13_fresh_9 : decode cX13_fresh 9 = .ok (.getfield 120, 3) := by decide +kernel
theorem dX13_fresh_12 : decode cX13_fresh 12 = .ok (.iload_n 1, 1) := by decide +kernel
theorem dX13_fresh_13 : decode cX13_fresh 13 = .ok (.iconst 0, 1) := by decide +kernel
theorem dX13_fresh_14 : decode cX13_fresh 14 = .ok (.iastore, 1) := by decide +kernel
theorem dX13_fresh_15 : decode cX13_fresh 15 = .ok (.iinc 1 1, 3) := by decide +kernel
theorem dX13_fresh_18 : decode cX13_fresh 18 = .ok (.goto (-16), 3) := by decide +kernel
theorem dX13_fresh_21 : decode cX13_fresh 21 = .ok (.aload_n 0, 1) := by decide +kernel
theorem dX13_fresh_22 : decode cX13_fresh 22 = .ok (.getfield 120, 3) := by decide +kernel
theorem dX13_fresh_25 : decode cX13_fresh 25 = .ok (.iconst 1, 1) := by decide +kernel
theorem dX13_fresh_26 : decode cX13_fresh 26 = .ok (.iconst (-1), 1) := by decide +kernel
theorem dX13_fresh_27 : decode cX13_fresh 27 = .ok (.iastore, 1) := by decide +kernel
theorem dX13_fresh_28 : decode cX13_fresh 28 = .ok (.aload_n 0, 1) := by decide +kernel
theorem dX13_fresh_29 : decode cX13_fresh 29 = .ok (.getfield 120, 3) := by decide +kernel
theorem dX13_fresh_32 : decode cX13_fresh 32 = .ok (.iconst 2, 1) := by decide +kernel
theorem dX13_fresh_33 : decode cX13_fresh 33 = .ok (.iconst (-1), 1) := by decide +kernel
theorem dX13_fresh_34 : decode cX13_fresh 34 = .ok (.iastore, 1) := by decide +kernel
theorem dX13_fresh_35 : decode cX13_fresh 35 = .ok (.iconst 0, 1) := by decide +kernel
theorem dX13_fresh_36 : decode cX13_fresh 36 = .ok (.istore_n 1, 1) := by decide +kernel
theorem dX13_fresh_37 : decode cX13_fresh 37 = .ok (.iload_n 1, 1) := by decide +kernel
theorem dX13_fresh_38 : decode cX13_fresh 38 = .ok (.aload_n 0, 1) := by decide +kernel
theorem dX13_fresh_39 : decode cX13_fresh 39 = .ok (.getfield 13, 3) := by decide +kernel
theorem dX13_fresh_42 : decode cX13_fresh 42 = .ok (.iconst 1, 1) := by decide +kernel
theorem dX13_fresh_43 : decode cX13_fresh 43 = .ok (.iaload, 1) := by decide +kernel
theorem dX13_fresh_44 : decode cX13_fresh 44 = .ok (.if_icmp .ge 24, 3) := by decide +kernel
theorem dX13_fresh_47 : decode cX13_fresh 47 = .ok (.aload_n 0, 1) := by decide +kernel
theorem dX13_fresh_48 : decode cX13_fresh 48 = .ok (.getfield 120, 3) := by decide +kernel
theorem dX13_fresh_51 : decode cX13_fresh 51 = .ok (.bipush 6, 2) := by decide +kernel
theorem dX13_fresh_53 : decode cX13_fresh 53 = .ok (.iload_n 1, 1) := by decide +kernel
theorem dX13_fresh_54 : decode cX13_fresh 54 = .ok (.iadd, 1) := by decide +kernel
theorem dX13_fresh_55 : decode cX13_fresh 55 = .ok (.aload_n 0, 1) := by decide +kernel
theorem dX13_fresh_56 : decode cX13_fresh 56 = .ok (.getfield 44, 3) := by decide +kernel
theorem dX13_fresh_59 : decode cX13_fresh 59 = .ok (.iload_n 1, 1) := by decide +kernel
theorem dX13_fresh_60 : decode cX13_fresh 60 = .ok (.iaload, 1) := by decide +kernel
theorem dX13_fresh_61 : decode cX13_fresh 61 = .ok (.iastore, 1) := by decide +kernel
theorem dX13_fresh_62 : decode cX13_fresh 62 = .ok (.iinc 1 1, 3) := by decide +kernel
theorem dX13_fresh_65 : decode cX13_fresh 65 = .ok (.goto (-28), 3) := by decide +kernel
theorem dX13_fresh_68 : decode cX13_fresh 68 = .ok (.iconst 0, 1) := by decide +kernel
theorem dX13_fresh_69 : decode cX13_fresh 69 = .ok (.istore_n 1, 1) := by decide +kernel
theorem dX13_fresh_70 : decode cX13_fresh 70 = .ok (.iload_n 1, 1) := by decide +kernel
theorem dX13_fresh_71 : decode cX13_fresh 71 = .ok (.aload_n 0, 1) := by decide +kernel
theorem dX13_fresh_72 : decode cX13_fresh 72 = .ok (.getfield 13, 3) := by decide +kernel
theorem dX13_fresh_75 : decode cX13_fresh 75 = .ok (.iconst 0, 1) := by decide +kernel
theorem dX13_fresh_76 : decode cX13_fresh 76 = .ok (.iaload, 1) := by decide +kernel
theorem dX13_fresh_77 : decode cX13_fresh 77 = .ok (.if_icmp .ge 24, 3) := by decide +kernel
theorem dX13_fresh_80 : decode cX13_fresh 80 = .ok (.aload_n 0, 1) := by decide +kernel
theorem dX13_fresh_81 : decode cX13_fresh 81 = .ok (.getfield 120, 3) := by decide +kernel
theorem dX13_fresh_84 : decode cX13_fresh 84 = .ok (.bipush 11, 2) := by decide +kernel
theorem dX13_fresh_86 : decode cX13_fresh 86 = .ok (.iload_n 1, 1) := by decide +kernel
theorem dX13_fresh_87 : decode cX13_fresh 87 = .ok (.iadd, 1) := by decide +kernel
theorem dX13_fresh_88 : decode cX13_fresh 88 = .ok (.aload_n 0, 1) := by decide +kernel
theorem dX13_fresh_89 : decode cX13_fresh 89 = .ok (.getfield 32, 3) := by decide +kernel
theorem dX13_fresh_92 : decode cX13_fresh 92 = .ok (.iload_n 1, 1) := by decide +kernel
theorem dX13_fresh_93 : decode cX13_fresh 93 = .ok (.iaload, 1) := by decide +kernel
theorem dX13_fresh_94 : decode cX13_fresh 94 = .ok (.iastore, 1) := by decide +kernel
theorem dX13_fresh_95 : decode cX13_fresh 95 = .ok (.iinc 1 1, 3) := by decide +kernel
theorem dX13_fresh_98 : decode cX13_fresh 98 = .ok (.goto (-28), 3) := by decide +kernel
theorem dX13_fresh_101 : decode cX13_fresh 101 = .ok (.return_, 1) := by decide +kernel
theorem dX13_city_0 : decode cX13_city 0 = .ok (.aload_n 0, 1) := by decide +kernel
theorem dX13_city_1 : decode cX13_city 1 = .ok (.iconst 0, 1) := by decide +kernel
theorem dX13_city_2 : decode cX13_city 2 = .ok (.putfield 153, 3) := by decide +kernel
theorem dX13_city_5 : decode cX13_city 5 = .ok (.aload_n 0, 1) := by decide +kernel
theorem dX13_city_6 : decode cX13_city 6 = .ok (.invokevirtual 387, 3) := by decide +kernel
theorem dX13_city_9 : decode cX13_city 9 = .ok (.ifCond .ne 8, 3) := by decide +kernel
theorem dX13_city_12 : decode cX13_city 12 = .ok (.aload_n 0, 1) := by decide +kernel
theorem dX13_city_13 : decode cX13_city 13 = .ok (.getfield 189, 3) := by decide +kernel
theorem dX13_city_16 : decode cX13_city 16 = .ok (.ireturn, 1) := by decide +kernel
theorem dX13_city_17 : decode cX13_city 17 = .ok (.aload_n 0, 1) := by decide +kernel
theorem dX13_city_18 : decode cX13_city 18 = .ok (.invokevirtual 390, 3) := by decide +kernel
theorem dX13_city_21 : decode cX13_city 21 = .ok (.aload_n 0, 1) := by decide +kernel
theorem dX13_city_22 : decode cX13_city 22 = .ok (.invokevirtual 150, 3) := by decide +kernel
theorem dX13_city_25 : decode cX13_city 25 = .ok (.aload_n 0, 1) := by decide +kernel
theorem dX13_city_26 : decode cX13_city 26 = .ok (.getfield 96, 3) := by decide +kernel
theorem dX13_city_29 : decode cX13_city 29 = .ok (.iconst 0, 1) := by decide +kernel
theorem dX13_city_30 : decode cX13_city 30 = .ok (.iconst 0, 1) := by decide +kernel
theorem dX13_city_31 : decode cX13_city 31 = .ok (.iastore, 1) := by decide +kernel
theorem dX13_city_32 : decode cX13_city 32 = .ok (.aload_n 0, 1) := by decide +kernel
theorem dX13_city_33 : decode cX13_city 33 = .ok (.getfield 108, 3) := by decide +kernel
theorem dX13_city_36 : decode cX13_city 36 = .ok (.iconst 0, 1) := by decide +kernel
theorem dX13_city_37 : decode cX13_city 37 = .ok (.iconst 0, 1) := by decide +kernel
theorem dX13_city_38 : decode cX13_city 38 = .ok (.iastore, 1) := by decide +kernel
theorem dX13_city_39 : decode cX13_city 39 = .ok (.aload_n 0, 1) := by decide +kernel
theorem dX13_city_40 : decode cX13_city 40 = .ok (.iconst 0, 1) := by decide +kernel
theorem dX13_city_41 : decode cX13_city 41 = .ok (.putfield 393, 3) := by decide +kernel
theorem dX13_city_44 : decode cX13_city 44 = .ok (.iconst 0, 1) := by decide +kernel
theorem dX13_city_45 : decode cX13_city 45 = .ok (.istore_n 1, 1) := by decide +kernel
theorem dX13_city_46 : decode cX13_city 46 = .ok (.iload_n 1, 1) := by decide +kernel
theorem dX13_city_47 : decode cX13_city 47 = .ok (.iconst 4, 1) := by decide +kernel
theorem dX13_city_48 : decode cX13_city 48 = .ok (.if_icmp .ge 16, 3) := by decide +kernel
theorem dX13_city_51 : decode cX13_city 51 = .ok (.aload_n 0, 1) := by decide +kernel
theorem dX13_city_52 : decode cX13_city 52 = .ok (.getfield 135, 3) := by decide +kernel
theorem dX13_city_55 : decode cX13_city 55 = .ok (.iload_n 1, 1) := by decide +kernel
theorem dX13_city_56 : decode cX13_city 56 = .ok (.iconst 0, 1) := by decide +kernel
theorem dX13_city_57 : decode cX13_city 57 = .ok (.bastore, 1) := by decide +kernel
theorem dX13_city_58 : decode cX13_city 58 = .ok (.iinc 1 1, 3) := by decide +kernel
theorem dX13_city_61 : decode cX13_city 61 = .ok (.goto (-15), 3) := by decide +kernel
theorem dX13_city_64 : decode cX13_city 64 = .ok (.iconst 0, 1) := by decide +kernel
theorem dX13_city_65 : decode cX13_city 65 = .ok (.ireturn, 1) := by decide +kernel
theorem dX13_months_0 : decode cX13_months 0 = .ok (.aload_n 0, 1) := by decide +kernel
theorem dX13_months_1 : decode cX13_months 1 = .ok (.iconst 0, 1) := by decide +kernel
theorem dX13_months_2 : decode cX13_months 2 = .ok (.putfield 153, 3) := by decide +kernel
theorem dX13_months_5 : decode cX13_months 5 = .ok (.aload_n 0, 1) := by decide +kernel
theorem dX13_months_6 : decode cX13_months 6 = .ok (.getfield 96, 3) := by decide +kernel
theorem dX13_months_9 : decode cX13_months 9 = .ok (.iconst 5, 1) := by decide +kernel
theorem dX13_months_10 : decode cX13_months 10 = .ok (.iconst 0, 1) := by decide +kernel
theorem dX13_months_11 : decode cX13_months 11 = .ok (.iastore, 1) := by decide +kernel
theorem dX13_months_12 : decode cX13_months 12 = .ok (.aload_n 0, 1) := by decide +kernel
theorem dX13_months_13 : decode cX13_months 13 = .ok (.invokevirtual 348, 3) := by decide +kernel
theorem dX13_months_16 : decode cX13_months 16 = .ok (.aload_n 0, 1) := by decide +kernel
theorem dX13_months_17 : decode cX13_months 17 = .ok (.getfield 178, 3) := by decide +kernel
theorem dX13_months_20 : decode cX13_months 20 = .ok (.ifCond .eq 15, 3) := by decide +kernel
theorem dX13_months_23 : decode cX13_months 23 = .ok (.aload_n 0, 1) := by decide +kernel
theorem dX13_months_24 : decode cX13_months 24 = .ok (.invokevirtual 396, 3) := by decide +kernel
theorem dX13_months_27 : decode cX13_months 27 = .ok (.ifCond .ne (-11), 3) := by decide +kernel
theorem dX13_months_30 : decode cX13_months 30 = .ok (.aload_n 0, 1) := by decide +kernel
theorem dX13_months_31 : decode cX13_months 31 = .ok (.getfield 189, 3) := by decide +kernel
theorem dX13_months_34 : decode cX13_months 34 = .ok (.ireturn, 1) := by decide +kernel
theorem dX13_months_35 : decode cX13_months 35 = .ok (.aload_n 0, 1) := by decide +kernel
theorem dX13_months_36 : decode cX13_months 36 = .ok (.iconst 5, 1) := by decide +kernel
theorem dX13_months_37 : decode cX13_months 37 = .ok (.iconst 0, 1) := by decide +kernel
theorem dX13_months_38 : decode cX13_months 38 = .ok (.invokevirtual 399, 3) := by decide +kernel
theorem dX13_months_41 : decode cX13_months 41 = .ok (.iconst 0, 1) := by decide +kernel
theorem dX13_months_42 : decode cX13_months 42 = .ok (.ireturn, 1) := by decide +kernel
theorem dX13_isMan_0 : decode cX13_isMan 0 = .ok (.iload_n 1, 1) := by decide +kernel
theorem dX13_isMan_1 : decode cX13_isMan 1 = .ok (.ifCond .lt 17, 3) := by decide +kernel
theorem dX13_isMan_4 : decode cX13_isMan 4 = .ok (.iload_n 1, 1) := by decide +kernel
theorem dX13_isMan_5 : decode cX13_isMan 5 = .ok (.aload_n 0, 1) := by decide +kernel
theorem dX13_isMan_6 : decode cX13_isMan 6 = .ok (.getfield 13, 3) := by decide +kernel
theorem dX13_isMan_9 : decode cX13_isMan 9 = .ok (.iconst 0, 1) := by decide +kernel
theorem dX13_isMan_10 : decode cX13_isMan 10 = .ok (.iaload, 1) := by decide +kernel
theorem dX13_isMan_11 : decode cX13_isMan 11 = .ok (.if_icmp .ge 7, 3) := by decide +kernel
theorem dX13_isMan_14 : decode cX13_isMan 14 = .ok (.iconst 1, 1) := by decide +kernel
theorem dX13_isMan_15 : decode cX13_isMan 15 = .ok (.goto 4, 3) := by decide +kernel
theorem dX13_isMan_18 : decode cX13_isMan 18 = .ok (.iconst 0, 1) := by decide +kernel
theorem dX13_isMan_19 : decode cX13_isMan 19 = .ok (.ireturn, 1) := by decide +kernel
theorem dX13_isDanger_0 : decode cX13_isDanger 0 = .ok (.iload_n 1, 1) := by decide +kernel
theorem dX13_isDanger_1 : decode cX13_isDanger 1 = .ok (.ifCond .lt 17, 3) := by decide +kernel
theorem dX13_isDanger_4 : decode cX13_isDanger 4 = .ok (.iload_n 1, 1) := by decide +kernel
theorem dX13_isDanger_5 : decode cX13_isDanger 5 = .ok (.aload_n 0, 1) := by decide +kernel
theorem dX13_isDanger_6 : decode cX13_isDanger 6 = .ok (.getfield 13, 3) := by decide +kernel
theorem dX13_isDanger_9 : decode cX13_isDanger 9 = .ok (.iconst 1, 1) := by decide +kernel
theorem dX13_isDanger_10 : decode cX13_isDanger 10 = .ok (.iaload, 1) := by decide +kernel
theorem dX13_isDanger_11 : decode cX13_isDanger 11 = .ok (.if_icmp .ge 7, 3) := by decide +kernel
theorem dX13_isDanger_14 : decode cX13_isDanger 14 = .ok (.iconst 1, 1) := by decide +kernel
theorem dX13_isDanger_15 : decode cX13_isDanger 15 = .ok (.goto 4, 3) := by decide +kernel
theorem dX13_isDanger_18 : decode cX13_isDanger 18 = .ok (.iconst 0, 1) := by decide +kernel
theorem dX13_isDanger_19 : decode cX13_isDanger 19 = .ok (.ireturn, 1) := by decide +kernel
theorem dX13_isConsul_0 : decode cX13_isConsul 0 = .ok (.aload_n 0, 1) := by decide +kernel
theorem dX13_isConsul_1 : decode cX13_isConsul 1 = .ok (.getfield 13, 3) := by decide +kernel
theorem dX13_isConsul_4 : decode cX13_isConsul 4 = .ok (.iconst 3, 1) := by decide +kernel
theorem dX13_isConsul_5 : decode cX13_isConsul 5 = .ok (.iaload, 1) := by decide +kernel
theorem dX13_isConsul_6 : decode cX13_isConsul 6 = .ok (.iload_n 1, 1) := by decide +kernel
theorem dX13_isConsul_7 : decode cX13_isConsul 7 = .ok (.ishr, 1) := by decide +kernel
theorem dX13_isConsul_8 : decode cX13_isConsul 8 = .ok (.iconst 1, 1) := by decide +kernel
theorem dX13_isConsul_9 : decode cX13_isConsul 9 = .ok (.iand, 1) := by decide +kernel
theorem dX13_isConsul_10 : decode cX13_isConsul 10 = .ok (.iconst 1, 1) := by decide +kernel
theorem dX13_isConsul_11 : decode cX13_isConsul 11 = .ok (.if_icmp .ne 7, 3) := by decide +kernel
theorem dX13_isConsul_14 : decode cX13_isConsul 14 = .ok (.iconst 1, 1) := by decide +kernel
theorem dX13_isConsul_15 : decode cX13_isConsul 15 = .ok (.goto 4, 3) := by decide +kernel
theorem dX13_isConsul_18 : decode cX13_isConsul 18 = .ok (.iconst 0, 1) := by decide +kernel
theorem dX13_isConsul_19 : decode cX13_isConsul 19 = .ok (.ireturn, 1) := by decide +kernel
theorem dX13_together_0 : decode cX13_together 0 = .ok (.iconst 0, 1) := by decide +kernel
theorem dX13_together_1 : decode cX13_together 1 = .ok (.istore_n 1, 1) := by decide +kernel
theorem dX13_together_2 : decode cX13_together 2 = .ok (.iconst 0, 1) := by decide +kernel
theorem dX13_together_3 : decode cX13_together 3 = .ok (.istore_n 2, 1) := by decide +kernel
theorem dX13_together_4 : decode cX13_together 4 = .ok (.iload_n 2, 1) := by decide +kernel
theorem dX13_together_5 : decode cX13_together 5 = .ok (.aload_n 0, 1) := by decide +kernel
theorem dX13_together_6 : decode cX13_together 6 = .ok (.getfield 13, 3) := by decide +kernel
theorem dX13_together_9 : decode cX13_together 9 = .ok (.iconst 1, 1) := by decide +kernel
theorem dX13_together_10 : decode cX13_together 10 = .ok (.iaload, 1) := by decide +kernel
theorem dX13_together_11 : decode cX13_together 11 = .ok (.if_icmp .ge 21, 3) := by decide +kernel
theorem dX13_together_14 : decode cX13_together 14 = .ok (.iload_n 1, 1) := by decide +kernel
theorem dX13_together_15 : decode cX13_together 15 = .ok (.aload_n 0, 1) := by decide +kernel
theorem dX13_together_16 : decode cX13_together 16 = .ok (.getfield 120, 3) := by decide +kernel
theorem dX13_together_19 : decode cX13_together 19 = .ok (.bipush 6, 2) := by decide +kernel
theorem dX13_together_21 : decode cX13_together 21 = .ok (.iload_n 2, 1) := by decide +kernel
theorem dX13_together_22 : decode cX13_together 22 = .ok (.iadd, 1) := by decide +kernel
theorem dX13_together_23 : decode cX13_together 23 = .ok (.iaload, 1) := by decide +kernel
theorem dX13_together_24 : decode cX13_together 24 = .ok (.iadd, 1) := by decide +kernel
theorem dX13_together_25 : decode cX13_together 25 = .ok (.istore_n 1, 1) := by decide +kernel
theorem dX13_together_26 : decode cX13_together 26 = .ok (.iinc 2 1, 3) := by decide +kernel
theorem dX13_together_29 : decode cX13_together 29 = .ok (.goto (-25), 3) := by decide +kernel
theorem dX13_together_32 : decode cX13_together 32 = .ok (.iload_n 1, 1) := by decide +kernel
theorem dX13_together_33 : decode cX13_together 33 = .ok (.ireturn, 1) := by decide +kernel
theorem dX13_worksBy_0 : decode cX13_worksBy 0 = .ok (.aload_n 0, 1) := by decide +kernel
theorem dX13_worksBy_1 : decode cX13_worksBy 1 = .ok (.getfield 26, 3) := by decide +kernel
theorem dX13_worksBy_4 : decode cX13_worksBy 4 = .ok (.iload_n 1, 1) := by decide +kernel
theorem dX13_worksBy_5 : decode cX13_worksBy 5 = .ok (.iaload, 1) := by decide +kernel
theorem dX13_worksBy_6 : decode cX13_worksBy 6 = .ok (.iconst 3, 1) := by decide +kernel
theorem dX13_worksBy_7 : decode cX13_worksBy 7 = .ok (.if_icmp .ne 11, 3) := by decide +kernel
theorem dX13_worksBy_10 : decode cX13_worksBy 10 = .ok (.iload_n 3, 1) := by decide +kernel
theorem dX13_worksBy_11 : decode cX13_worksBy 11 = .ok (.ifCond .ne 7, 3) := by decide +kernel
theorem dX13_worksBy_14 : decode cX13_worksBy 14 = .ok (.iconst 0, 1) := by decide +kernel
theorem dX13_worksBy_15 : decode cX13_worksBy 15 = .ok (.goto 9, 3) := by decide +kernel
theorem dX13_worksBy_18 : decode cX13_worksBy 18 = .ok (.aload_n 0, 1) := by decide +kernel
theorem dX13_worksBy_19 : decode cX13_worksBy 19 = .ok (.getfield 29, 3) := by decide +kernel
theorem dX13_worksBy_22 : decode cX13_worksBy 22 = .ok (.iload_n 1, 1) := by decide +kernel
theorem dX13_worksBy_23 : decode cX13_worksBy 23 = .ok (.iaload, 1) := by decide +kernel
theorem dX13_worksBy_24 : decode cX13_worksBy 24 = .ok (.istore 4, 2) := by decide +kernel
theorem dX13_worksBy_26 : decode cX13_worksBy 26 = .ok (.aload_n 0, 1) := by decide +kernel
theorem dX13_worksBy_27 : decode cX13_worksBy 27 = .ok (.getfield 53, 3) := by decide +kernel
theorem dX13_worksBy_30 : decode cX13_worksBy 30 = .ok (.iconst 0, 1) := by decide +kernel
theorem dX13_worksBy_31 : decode cX13_worksBy 31 = .ok (.iaload, 1) := by decide +kernel
theorem dX13_worksBy_32 : decode cX13_worksBy 32 = .ok (.aload_n 0, 1) := by decide +kernel
theorem dX13_worksBy_33 : decode cX13_worksBy 33 = .ok (.getfield 50, 3) := by decide +kernel
theorem dX13_worksBy_36 : decode cX13_worksBy 36 = .ok (.iconst 0, 1) := by decide +kernel
theorem dX13_worksBy_37 : decode cX13_worksBy 37 = .ok (.iaload, 1) := by decide +kernel
theorem dX13_worksBy_38 : decode cX13_worksBy 38 = .ok (.if_icmp .le 48, 3) := by decide +kernel
theorem dX13_worksBy_41 : decode cX13_worksBy 41 = .ok (.aload_n 0, 1) := by decide +kernel
theorem dX13_worksBy_42 : decode cX13_worksBy 42 = .ok (.getfield 93, 3) := by decide +kernel
theorem dX13_worksBy_45 : decode cX13_worksBy 45 = .ok (.iconst 1, 1) := by decide +kernel
theorem dX13_worksBy_46 : decode cX13_worksBy 46 = .ok (.aload_n 0, 1) := by decide +kernel
theorem dX13_worksBy_47 : decode cX13_worksBy 47 = .ok (.getfield 29, 3) := by decide +kernel
theorem dX13_worksBy_50 : decode cX13_worksBy 50 = .ok (.iload_n 1, 1) := by decide +kernel
theorem dX13_worksBy_51 : decode cX13_worksBy 51 = .ok (.iaload, 1) := by decide +kernel
theorem dX13_worksBy_52 : decode cX13_worksBy 52 = .ok (.iastore, 1) := by decide +kernel
theorem dX13_worksBy_53 : decode cX13_worksBy 53 = .ok (.aload_n 0, 1) := by decide +kernel
theorem dX13_worksBy_54 : decode cX13_worksBy 54 = .ok (.getfield 93, 3) := by decide +kernel
theorem dX13_worksBy_57 : decode cX13_worksBy 57 = .ok (.iconst 2, 1) := by decide +kernel
theorem dX13_worksBy_58 : decode cX13_worksBy 58 = .ok (.aload_n 0, 1) := by decide +kernel
theorem dX13_worksBy_59 : decode cX13_worksBy 59 = .ok (.getfield 35, 3) := by decide +kernel
theorem dX13_worksBy_62 : decode cX13_worksBy 62 = .ok (.iload_n 1, 1) := by decide +kernel
theorem dX13_worksBy_63 : decode cX13_worksBy 63 = .ok (.iaload, 1) := by decide +kernel
theorem dX13_worksBy_64 : decode cX13_worksBy 64 = .ok (.iastore, 1) := by decide +kernel
theorem dX13_worksBy_65 : decode cX13_worksBy 65 = .ok (.aload_n 0, 1) := by decide +kernel
theorem dX13_worksBy_66 : decode cX13_worksBy 66 = .ok (.getfield 93, 3) := by decide +kernel
theorem dX13_worksBy_69 : decode cX13_worksBy 69 = .ok (.iconst 3, 1) := by decide +kernel
theorem dX13_worksBy_70 : decode cX13_worksBy 70 = .ok (.iload_n 2, 1) := by decide +kernel
theorem dX13_worksBy_71 : decode cX13_worksBy 71 = .ok (.iastore, 1) := by decide +kernel
theorem dX13_worksBy_72 : decode cX13_worksBy 72 = .ok (.aload_n 0, 1) := by decide +kernel
theorem dX13_worksBy_73 : decode cX13_worksBy 73 = .ok (.getfield 93, 3) := by decide +kernel
theorem dX13_worksBy_76 : decode cX13_worksBy 76 = .ok (.iconst 4, 1) := by decide +kernel
theorem dX13_worksBy_77 : decode cX13_worksBy 77 = .ok (.iload_n 3, 1) := by decide +kernel
theorem dX13_worksBy_78 : decode cX13_worksBy 78 = .ok (.iastore, 1) := by decide +kernel
theorem dX13_worksBy_79 : decode cX13_worksBy 79 = .ok (.aload_n 0, 1) := by decide +kernel
theorem dX13_worksBy_80 : decode cX13_worksBy 80 = .ok (.iconst 0, 1) := by decide +kernel
theorem dX13_worksBy_81 : decode cX13_worksBy 81 = .ok (.invokevirtual 403, 3) := by decide +kernel
theorem dX13_worksBy_84 : decode cX13_worksBy 84 = .ok (.istore 4, 2) := by decide +kernel
theorem dX13_worksBy_86 : decode cX13_worksBy 86 = .ok (.iload 4, 2) := by decide +kernel
theorem dX13_worksBy_88 : decode cX13_worksBy 88 = .ok (.iconst 0, 1) := by decide +kernel
theorem dX13_worksBy_89 : decode cX13_worksBy 89 = .ok (.bipush 99, 2) := by decide +kernel
theorem dX13_worksBy_91 : decode cX13_worksBy 91 = .ok (.invokestatic 406, 3) := by decide +kernel
theorem dX13_worksBy_94 : decode cX13_worksBy 94 = .ok (.ireturn, 1) := by decide +kernel
theorem dX13_keepsBy_0 : decode cX13_keepsBy 0 = .ok (.bipush 9, 2) := by decide +kernel
theorem dX13_keepsBy_2 : decode cX13_keepsBy 2 = .ok (.aload_n 0, 1) := by decide +kernel
theorem dX13_keepsBy_3 : decode cX13_keepsBy 3 = .ok (.getfield 35, 3) := by decide +kernel
theorem dX13_keepsBy_6 : decode cX13_keepsBy 6 = .ok (.iload_n 1, 1) := by decide +kernel
theorem dX13_keepsBy_7 : decode cX13_keepsBy 7 = .ok (.iaload, 1) := by decide +kernel
theorem dX13_keepsBy_8 : decode cX13_keepsBy 8 = .ok (.iload_n 2, 1) := by decide +kernel
theorem dX13_keepsBy_9 : decode cX13_keepsBy 9 = .ok (.iadd, 1) := by decide +kernel
theorem dX13_keepsBy_10 : decode cX13_keepsBy 10 = .ok (.if_icmp .ge 7, 3) := by decide +kernel
theorem dX13_keepsBy_13 : decode cX13_keepsBy 13 = .ok (.iconst 1, 1) := by decide +kernel
theorem dX13_keepsBy_14 : decode cX13_keepsBy 14 = .ok (.goto 4, 3) := by decide +kernel
theorem dX13_keepsBy_17 : decode cX13_keepsBy 17 = .ok (.iconst 0, 1) := by decide +kernel
theorem dX13_keepsBy_18 : decode cX13_keepsBy 18 = .ok (.istore 4, 2) := by decide +kernel
theorem dX13_keepsBy_20 : decode cX13_keepsBy 20 = .ok (.aload_n 0, 1) := by decide +kernel
theorem dX13_keepsBy_21 : decode cX13_keepsBy 21 = .ok (.getfield 53, 3) := by decide +kernel
theorem dX13_keepsBy_24 : decode cX13_keepsBy 24 = .ok (.iconst 1, 1) := by decide +kernel
theorem dX13_keepsBy_25 : decode cX13_keepsBy 25 = .ok (.iaload, 1) := by decide +kernel
theorem dX13_keepsBy_26 : decode cX13_keepsBy 26 = .ok (.aload_n 0, 1) := by decide +kernel
theorem dX13_keepsBy_27 : decode cX13_keepsBy 27 = .ok (.getfield 50, 3) := by decide +kernel
theorem dX13_keepsBy_30 : decode cX13_keepsBy 30 = .ok (.iconst 1, 1) := by decide +kernel
theorem dX13_keepsBy_31 : decode cX13_keepsBy 31 = .ok (.iaload, 1) := by decide +kernel
theorem dX13_keepsBy_32 : decode cX13_keepsBy 32 = .ok (.if_icmp .le 49, 3) := by decide +kernel
theorem dX13_keepsBy_35 : decode cX13_keepsBy 35 = .ok (.aload_n 0, 1) := by decide +kernel
theorem dX13_keepsBy_36 : decode cX13_keepsBy 36 = .ok (.getfield 93, 3) := by decide +kernel
theorem dX13_keepsBy_39 : decode cX13_keepsBy 39 = .ok (.iconst 1, 1) := by decide +kernel
theorem dX13_keepsBy_40 : decode cX13_keepsBy 40 = .ok (.aload_n 0, 1) := by decide +kernel
theorem dX13_keepsBy_41 : decode cX13_keepsBy 41 = .ok (.getfield 29, 3) := by decide +kernel
theorem dX13_keepsBy_44 : decode cX13_keepsBy 44 = .ok (.iload_n 1, 1) := by decide +kernel
theorem dX13_keepsBy_45 : decode cX13_keepsBy 45 = .ok (.iaload, 1) := by decide +kernel
theorem dX13_keepsBy_46 : decode cX13_keepsBy 46 = .ok (.iastore, 1) := by decide +kernel
theorem dX13_keepsBy_47 : decode cX13_keepsBy 47 = .ok (.aload_n 0, 1) := by decide +kernel
theorem dX13_keepsBy_48 : decode cX13_keepsBy 48 = .ok (.getfield 93, 3) := by decide +kernel
theorem dX13_keepsBy_51 : decode cX13_keepsBy 51 = .ok (.iconst 2, 1) := by decide +kernel
theorem dX13_keepsBy_52 : decode cX13_keepsBy 52 = .ok (.aload_n 0, 1) := by decide +kernel
theorem dX13_keepsBy_53 : decode cX13_keepsBy 53 = .ok (.getfield 35, 3) := by decide +kernel
theorem dX13_keepsBy_56 : decode cX13_keepsBy 56 = .ok (.iload_n 1, 1) := by decide +kernel
theorem dX13_keepsBy_57 : decode cX13_keepsBy 57 = .ok (.iaload, 1) := by decide +kernel
theorem dX13_keepsBy_58 : decode cX13_keepsBy 58 = .ok (.iastore, 1) := by decide +kernel
theorem dX13_keepsBy_59 : decode cX13_keepsBy 59 = .ok (.aload_n 0, 1) := by decide +kernel
theorem dX13_keepsBy_60 : decode cX13_keepsBy 60 = .ok (.getfield 93, 3) := by decide +kernel
theorem dX13_keepsBy_63 : decode cX13_keepsBy 63 = .ok (.iconst 5, 1) := by decide +kernel
theorem dX13_keepsBy_64 : decode cX13_keepsBy 64 = .ok (.iload_n 2, 1) := by decide +kernel
theorem dX13_keepsBy_65 : decode cX13_keepsBy 65 = .ok (.iastore, 1) := by decide +kernel
theorem dX13_keepsBy_66 : decode cX13_keepsBy 66 = .ok (.aload_n 0, 1) := by decide +kernel
theorem dX13_keepsBy_67 : decode cX13_keepsBy 67 = .ok (.getfield 93, 3) := by decide +kernel
theorem dX13_keepsBy_70 : decode cX13_keepsBy 70 = .ok (.bipush 6, 2) := by decide +kernel
theorem dX13_keepsBy_72 : decode cX13_keepsBy 72 = .ok (.iload_n 3, 1) := by decide +kernel
theorem dX13_keepsBy_73 : decode cX13_keepsBy 73 = .ok (.iastore, 1) := by decide +kernel
theorem dX13_keepsBy_74 : decode cX13_keepsBy 74 = .ok (.aload_n 0, 1) := by decide +kernel
theorem dX13_keepsBy_75 : decode cX13_keepsBy 75 = .ok (.iconst 1, 1) := by decide +kernel
theorem dX13_keepsBy_76 : decode cX13_keepsBy 76 = .ok (.invokevirtual 403, 3) := by decide +kernel
theorem dX13_keepsBy_79 : decode cX13_keepsBy 79 = .ok (.istore 4, 2) := by decide +kernel
theorem dX13_keepsBy_81 : decode cX13_keepsBy 81 = .ok (.iload 4, 2) := by decide +kernel
theorem dX13_keepsBy_83 : decode cX13_keepsBy 83 = .ok (.ifCond .eq 7, 3) := by decide +kernel
theorem dX13_keepsBy_86 : decode cX13_keepsBy 86 = .ok (.iconst 1, 1) := by decide +kernel
theorem dX13_keepsBy_87 : decode cX13_keepsBy 87 = .ok (.goto 4, 3) := by decide +kernel
theorem dX13_keepsBy_90 : decode cX13_keepsBy 90 = .ok (.iconst 0, 1) := by decide +kernel
theorem dX13_keepsBy_91 : decode cX13_keepsBy 91 = .ok (.ireturn, 1) := by decide +kernel
theorem dX13_couldName_0 : decode cX13_couldName 0 = .ok (.aload_n 0, 1) := by decide +kernel
theorem dX13_couldName_1 : decode cX13_couldName 1 = .ok (.iload_n 1, 1) := by decide +kernel
theorem dX13_couldName_2 : decode cX13_couldName 2 = .ok (.invokevirtual 410, 3) := by decide +kernel
theorem dX13_couldName_5 : decode cX13_couldName 5 = .ok (.ifCond .eq 25, 3) := by decide +kernel
theorem dX13_couldName_8 : decode cX13_couldName 8 = .ok (.iload_n 1, 1) := by decide +kernel
theorem dX13_couldName_9 : decode cX13_couldName 9 = .ok (.iload_n 2, 1) := by decide +kernel
theorem dX13_couldName_10 : decode cX13_couldName 10 = .ok (.if_icmp .eq 20, 3) := by decide +kernel
theorem dX13_couldName_13 : decode cX13_couldName 13 = .ok (.aload_n 0, 1) := by decide +kernel
theorem dX13_couldName_14 : decode cX13_couldName 14 = .ok (.getfield 38, 3) := by decide +kernel
theorem dX13_couldName_17 : decode cX13_couldName 17 = .ok (.iload_n 1, 1) := by decide +kernel
theorem dX13_couldName_18 : decode cX13_couldName 18 = .ok (.iaload, 1) := by decide +kernel
theorem dX13_couldName_19 : decode cX13_couldName 19 = .ok (.iload_n 2, 1) := by decide +kernel
theorem dX13_couldName_20 : decode cX13_couldName 20 = .ok (.ishr, 1) := by decide +kernel
theorem dX13_couldName_21 : decode cX13_couldName 21 = .ok (.iconst 1, 1) := by decide +kernel
theorem dX13_couldName_22 : decode cX13_couldName 22 = .ok (.iand, 1) := by decide +kernel
theorem dX13_couldName_23 : decode cX13_couldName 23 = .ok (.ifCond .ne 7, 3) := by decide +kernel
theorem dX13_couldName_26 : decode cX13_couldName 26 = .ok (.iconst 1, 1) := by decide +kernel
theorem dX13_couldName_27 : decode cX13_couldName 27 = .ok (.goto 4, 3) := by decide +kernel
theorem dX13_couldName_30 : decode cX13_couldName 30 = .ok (.iconst 0, 1) := by decide +kernel
theorem dX13_couldName_31 : decode cX13_couldName 31 = .ok (.ireturn, 1) := by decide +kernel
theorem dX13_goesHome_0 : decode cX13_goesHome 0 = .ok (.aload_n 0, 1) := by decide +kernel
theorem dX13_goesHome_1 : decode cX13_goesHome 1 = .ok (.getfield 120, 3) := by decide +kernel
theorem dX13_goesHome_4 : decode cX13_goesHome 4 = .ok (.iconst 1, 1) := by decide +kernel
theorem dX13_goesHome_5 : decode cX13_goesHome 5 = .ok (.iconst (-1), 1) := by decide +kernel
theorem dX13_goesHome_6 : decode cX13_goesHome 6 = .ok (.iastore, 1) := by decide +kernel
theorem dX13_goesHome_7 : decode cX13_goesHome 7 = .ok (.aload_n 0, 1) := by decide +kernel
theorem dX13_goesHome_8 : decode cX13_goesHome 8 = .ok (.getfield 120, 3) := by decide +kernel
theorem dX13_goesHome_11 : decode cX13_goesHome 11 = .ok (.iconst 2, 1) := by decide +kernel
theorem dX13_goesHome_12 : decode cX13_goesHome 12 = .ok (.iconst (-1), 1) := by decide +kernel
theorem dX13_goesHome_13 : decode cX13_goesHome 13 = .ok (.iastore, 1) := by decide +kernel
theorem dX13_goesHome_14 : decode cX13_goesHome 14 = .ok (.aload_n 0, 1) := by decide +kernel
theorem dX13_goesHome_15 : decode cX13_goesHome 15 = .ok (.getfield 120, 3) := by decide +kernel
theorem dX13_goesHome_18 : decode cX13_goesHome 18 = .ok (.iconst 3, 1) := by decide +kernel
theorem dX13_goesHome_19 : decode cX13_goesHome 19 = .ok (.iconst 0, 1) := by decide +kernel
theorem dX13_goesHome_20 : decode cX13_goesHome 20 = .ok (.iastore, 1) := by decide +kernel
theorem dX13_goesHome_21 : decode cX13_goesHome 21 = .ok (.aload_n 0, 1) := by decide +kernel
theorem dX13_goesHome_22 : decode cX13_goesHome 22 = .ok (.getfield 120, 3) := by decide +kernel
theorem dX13_goesHome_25 : decode cX13_goesHome 25 = .ok (.iconst 4, 1) := by decide +kernel
theorem dX13_goesHome_26 : decode cX13_goesHome 26 = .ok (.iconst 0, 1) := by decide +kernel
theorem dX13_goesHome_27 : decode cX13_goesHome 27 = .ok (.iastore, 1) := by decide +kernel
theorem dX13_goesHome_28 : decode cX13_goesHome 28 = .ok (.aload_n 0, 1) := by decide +kernel
theorem dX13_goesHome_29 : decode cX13_goesHome 29 = .ok (.getfield 120, 3) := by decide +kernel
theorem dX13_goesHome_32 : decode cX13_goesHome 32 = .ok (.iconst 5, 1) := by decide +kernel
theorem dX13_goesHome_33 : decode cX13_goesHome 33 = .ok (.iconst 0, 1) := by decide +kernel
theorem dX13_goesHome_34 : decode cX13_goesHome 34 = .ok (.iastore, 1) := by decide +kernel
theorem dX13_goesHome_35 : decode cX13_goesHome 35 = .ok (.return_, 1) := by decide +kernel
theorem dX13_laysPower_0 : decode cX13_laysPower 0 = .ok (.aload_n 0, 1) := by decide +kernel
theorem dX13_laysPower_1 : decode cX13_laysPower 1 = .ok (.invokevirtual 413, 3) := by decide +kernel
theorem dX13_laysPower_4 : decode cX13_laysPower 4 = .ok (.aload_n 0, 1) := by decide +kernel
theorem dX13_laysPower_5 : decode cX13_laysPower 5 = .ok (.getfield 120, 3) := by decide +kernel
theorem dX13_laysPower_8 : decode cX13_laysPower 8 = .ok (.iconst 1, 1) := by decide +kernel
theorem dX13_laysPower_9 : decode cX13_laysPower 9 = .ok (.iload_n 1, 1) := by decide +kernel
theorem dX13_laysPower_10 : decode cX13_laysPower 10 = .ok (.iastore, 1) := by decide +kernel
theorem dX13_laysPower_11 : decode cX13_laysPower 11 = .ok (.aload_n 0, 1) := by decide +kernel
theorem dX13_laysPower_12 : decode cX13_laysPower 12 = .ok (.getfield 120, 3) := by decide +kernel
theorem dX13_laysPower_15 : decode cX13_laysPower 15 = .ok (.iconst 3, 1) := by decide +kernel
theorem dX13_laysPower_16 : decode cX13_laysPower 16 = .ok (.aload_n 0, 1) := by decide +kernel
theorem dX13_laysPower_17 : decode cX13_laysPower 17 = .ok (.getfield 13, 3) := by decide +kernel
theorem dX13_laysPower_20 : decode cX13_laysPower 20 = .ok (.iconst 4, 1) := by decide +kernel
theorem dX13_laysPower_21 : decode cX13_laysPower 21 = .ok (.iaload, 1) := by decide +kernel
theorem dX13_laysPower_22 : decode cX13_laysPower 22 = .ok (.iastore, 1) := by decide +kernel
theorem dX13_laysPower_23 : decode cX13_laysPower 23 = .ok (.return_, 1) := by decide +kernel
theorem dX13_canBeMaster_0 : decode cX13_canBeMaster 0 = .ok (.aload_n 0, 1) := by decide +kernel
theorem dX13_canBeMaster_1 : decode cX13_canBeMaster 1 = .ok (.getfield 120, 3) := by decide +kernel
theorem dX13_canBeMaster_4 : decode cX13_canBeMaster 4 = .ok (.iconst 1, 1) := by decide +kernel
theorem dX13_canBeMaster_5 : decode cX13_canBeMaster 5 = .ok (.iaload, 1) := by decide +kernel
theorem dX13_canBeMaster_6 : decode cX13_canBeMaster 6 = .ok (.ifCond .lt 25, 3) := by decide +kernel
theorem dX13_canBeMaster_9 : decode cX13_canBeMaster 9 = .ok (.aload_n 0, 1) := by decide +kernel
theorem dX13_canBeMaster_10 : decode cX13_canBeMaster 10 = .ok (.getfield 120, 3) := by decide +kernel
theorem dX13_canBeMaster_13 : decode cX13_canBeMaster 13 = .ok (.iconst 1, 1) := by decide +kernel
theorem dX13_canBeMaster_14 : decode cX13_canBeMaster 14 = .ok (.iaload, 1) := by decide +kernel
theorem dX13_canBeMaster_15 : decode cX13_canBeMaster 15 = .ok (.iload_n 1, 1) := by decide +kernel
theorem dX13_canBeMaster_16 : decode cX13_canBeMaster 16 = .ok (.if_icmp .eq 15, 3) := by decide +kernel
theorem dX13_canBeMaster_19 : decode cX13_canBeMaster 19 = .ok (.aload_n 0, 1) := by decide +kernel
theorem dX13_canBeMaster_20 : decode cX13_canBeMaster 20 = .ok (.iload_n 1, 1) := by decide +kernel
theorem dX13_canBeMaster_21 : decode cX13_canBeMaster 21 = .ok (.invokevirtual 410, 3) := by decide +kernel
theorem dX13_canBeMaster_24 : decode cX13_canBeMaster 24 = .ok (.ifCond .ne 7, 3) := by decide +kernel
theorem dX13_canBeMaster_27 : decode cX13_canBeMaster 27 = .ok (.iconst 1, 1) := by decide +kernel
theorem dX13_canBeMaster_28 : decode cX13_canBeMaster 28 = .ok (.goto 4, 3) := by decide +kernel
theorem dX13_canBeMaster_31 : decode cX13_canBeMaster 31 = .ok (.iconst 0, 1) := by decide +kernel
theorem dX13_canBeMaster_32 : decode cX13_canBeMaster 32 = .ok (.ireturn, 1) := by decide +kernel
theorem dX13_likes_0 : decode cX13_likes 0 = .ok (.aload_n 0, 1) := by decide +kernel
theorem dX13_likes_1 : decode cX13_likes 1 = .ok (.getfield 120, 3) := by decide +kernel
theorem dX13_likes_4 : decode cX13_likes 4 = .ok (.bipush 17, 2) := by decide +kernel
theorem dX13_likes_6 : decode cX13_likes 6 = .ok (.iload_n 1, 1) := by decide +kernel
theorem dX13_likes_7 : decode cX13_likes 7 = .ok (.iadd, 1) := by decide +kernel
theorem dX13_likes_8 : decode cX13_likes 8 = .ok (.bipush 99, 2) := by decide +kernel
theorem dX13_likes_10 : decode cX13_likes 10 = .ok (.aload_n 0, 1) := by decide +kernel
theorem dX13_likes_11 : decode cX13_likes 11 = .ok (.getfield 120, 3) := by decide +kernel
theorem dX13_likes_14 : decode cX13_likes 14 = .ok (.bipush 17, 2) := by decide +kernel
theorem dX13_likes_16 : decode cX13_likes 16 = .ok (.iload_n 1, 1) := by decide +kernel
theorem dX13_likes_17 : decode cX13_likes 17 = .ok (.iadd, 1) := by decide +kernel
theorem dX13_likes_18 : decode cX13_likes 18 = .ok (.iaload, 1) := by decide +kernel
theorem dX13_likes_19 : decode cX13_likes 19 = .ok (.iload_n 2, 1) := by decide +kernel
theorem dX13_likes_20 : decode cX13_likes 20 = .ok (.iadd, 1) := by decide +kernel
theorem dX13_likes_21 : decode cX13_likes 21 = .ok (.invokestatic 416, 3) := by decide +kernel
theorem dX13_likes_24 : decode cX13_likes 24 = .ok (.iastore, 1) := by decide +kernel
theorem dX13_likes_25 : decode cX13_likes 25 = .ok (.return_, 1) := by decide +kernel
theorem dX13_lessens_0 : decode cX13_lessens 0 = .ok (.aload_n 0, 1) := by decide +kernel
theorem dX13_lessens_1 : decode cX13_lessens 1 = .ok (.getfield 120, 3) := by decide +kernel
theorem dX13_lessens_4 : decode cX13_lessens 4 = .ok (.bipush 6, 2) := by decide +kernel
theorem dX13_lessens_6 : decode cX13_lessens 6 = .ok (.iload_n 1, 1) := by decide +kernel
theorem dX13_lessens_7 : decode cX13_lessens 7 = .ok (.iadd, 1) := by decide +kernel
theorem dX13_lessens_8 : decode cX13_lessens 8 = .ok (.iconst 0, 1) := by decide +kernel
theorem dX13_lessens_9 : decode cX13_lessens 9 = .ok (.aload_n 0, 1) := by decide +kernel
theorem dX13_lessens_10 : decode cX13_lessens 10 = .ok (.getfield 120, 3) := by decide +kernel
theorem dX13_lessens_13 : decode cX13_lessens 13 = .ok (.bipush 6, 2) := by decide +kernel
theorem dX13_lessens_15 : decode cX13_lessens 15 = .ok (.iload_n 1, 1) := by decide +kernel
theorem dX13_lessens_16 : decode cX13_lessens 16 = .ok (.iadd, 1) := by decide +kernel
theorem dX13_lessens_17 : decode cX13_lessens 17 = .ok (.iaload, 1) := by decide +kernel
theorem dX13_lessens_18 : decode cX13_lessens 18 = .ok (.iload_n 2, 1) := by decide +kernel
theorem dX13_lessens_19 : decode cX13_lessens 19 = .ok (.isub, 1) := by decide +kernel
theorem dX13_lessens_20 : decode cX13_lessens 20 = .ok (.invokestatic 422, 3) := by decide +kernel
theorem dX13_lessens_23 : decode cX13_lessens 23 = .ok (.iastore, 1) := by decide +kernel
theorem dX13_lessens_24 : decode cX13_lessens 24 = .ok (.return_, 1) := by decide +kernel
theorem dX13_passes_0 : decode cX13_passes 0 = .ok (.iconst 0, 1) := by decide +kernel
theorem dX13_passes_1 : decode cX13_passes 1 = .ok (.istore_n 3, 1) := by decide +kernel
theorem dX13_passes_2 : decode cX13_passes 2 = .ok (.iconst 0, 1) := by decide +kernel
theorem dX13_passes_3 : decode cX13_passes 3 = .ok (.istore 4, 2) := by decide +kernel
theorem dX13_passes_5 : decode cX13_passes 5 = .ok (.iload 4, 2) := by decide +kernel
theorem dX13_passes_7 : decode cX13_passes 7 = .ok (.aload_n 0, 1) := by decide +kernel
theorem dX13_passes_8 : decode cX13_passes 8 = .ok (.getfield 13, 3) := by decide +kernel
theorem dX13_passes_11 : decode cX13_passes 11 = .ok (.iconst 1, 1) := by decide +kernel
theorem dX13_passes_12 : decode cX13_passes 12 = .ok (.iaload, 1) := by decide +kernel
theorem dX13_passes_13 : decode cX13_passes 13 = .ok (.if_icmp .ge 33, 3) := by decide +kernel
theorem dX13_passes_16 : decode cX13_passes 16 = .ok (.iload_n 3, 1) := by decide +kernel
theorem dX13_passes_17 : decode cX13_passes 17 = .ok (.aload_n 0, 1) := by decide +kernel
theorem dX13_passes_18 : decode cX13_passes 18 = .ok (.getfield 120, 3) := by decide +kernel
theorem dX13_passes_21 : decode cX13_passes 21 = .ok (.bipush 6, 2) := by decide +kernel
theorem dX13_passes_23 : decode cX13_passes 23 = .ok (.iload 4, 2) := by decide +kernel
theorem dX13_passes_25 : decode cX13_passes 25 = .ok (.iadd, 1) := by decide +kernel
theorem dX13_passes_26 : decode cX13_passes 26 = .ok (.iaload, 1) := by decide +kernel
theorem dX13_passes_27 : decode cX13_passes 27 = .ok (.ifCond .le 10, 3) := by decide +kernel
theorem dX13_passes_30 : decode cX13_passes 30 = .ok (.iconst 1, 1) := by decide +kernel
theorem dX13_passes_31 : decode cX13_passes 31 = .ok (.iload 4, 2) := by decide +kernel
theorem dX13_passes_33 : decode cX13_passes 33 = .ok (.ishl, 1) := by decide +kernel
theorem dX13_passes_34 : decode cX13_passes 34 = .ok (.goto 4, 3) := by decide +kernel
theorem dX13_passes_37 : decode cX13_passes 37 = .ok (.iconst 0, 1) := by decide +kernel
theorem dX13_passes_38 : decode cX13_passes 38 = .ok (.ior, 1) := by decide +kernel
theorem dX13_passes_39 : decode cX13_passes 39 = .ok (.istore_n 3, 1) := by decide +kernel
theorem dX13_passes_40 : decode cX13_passes 40 = .ok (.iinc 4 1, 3) := by decide +kernel
theorem dX13_passes_43 : decode cX13_passes 43 = .ok (.goto (-38), 3) := by decide +kernel
theorem dX13_passes_46 : decode cX13_passes 46 = .ok (.iconst 0, 1) := by decide +kernel
theorem dX13_passes_47 : decode cX13_passes 47 = .ok (.istore 4, 2) := by decide +kernel
theorem dX13_passes_49 : decode cX13_passes 49 = .ok (.aload_n 0, 1) := by decide +kernel
theorem dX13_passes_50 : decode cX13_passes 50 = .ok (.getfield 120, 3) := by decide +kernel
theorem dX13_passes_53 : decode cX13_passes 53 = .ok (.iconst 1, 1) := by decide +kernel
theorem dX13_passes_54 : decode cX13_passes 54 = .ok (.iaload, 1) := by decide +kernel
theorem dX13_passes_55 : decode cX13_passes 55 = .ok (.istore 5, 2) := by decide +kernel
theorem dX13_passes_57 : decode cX13_passes 57 = .ok (.iload 5, 2) := by decide +kernel
theorem dX13_passes_59 : decode cX13_passes 59 = .ok (.ifCond .lt 109, 3) := by decide +kernel
theorem dX13_passes_62 : decode cX13_passes 62 = .ok (.iload_n 2, 1) := by decide +kernel
theorem dX13_passes_63 : decode cX13_passes 63 = .ok (.ifCond .ge 9, 3) := by decide +kernel
theorem dX13_passes_66 : decode cX13_passes 66 = .ok (.iconst 1, 1) := by decide +kernel
theorem dX13_passes_67 : decode cX13_passes 67 = .ok (.iload_n 1, 1) := by decide +kernel
theorem dX13_passes_68 : decode cX13_passes 68 = .ok (.ishl, 1) := by decide +kernel
theorem dX13_passes_69 : decode cX13_passes 69 = .ok (.goto 10, 3) := by decide +kernel
theorem dX13_passes_72 : decode cX13_passes 72 = .ok (.iconst 1, 1) := by decide +kernel
theorem dX13_passes_73 : decode cX13_passes 73 = .ok (.iload_n 1, 1) := by decide +kernel
theorem dX13_passes_74 : decode cX13_passes 74 = .ok (.ishl, 1) := by decide +kernel
theorem dX13_passes_75 : decode cX13_passes 75 = .ok (.iconst 1, 1) := by decide +kernel
theorem dX13_passes_76 : decode cX13_passes 76 = .ok (.iload_n 2, 1) := by decide +kernel
theorem dX13_passes_77 : decode cX13_passes 77 = .ok (.ishl, 1) := by decide +kernel
theorem dX13_passes_78 : decode cX13_passes 78 = .ok (.ior, 1) := by decide +kernel
theorem dX13_passes_79 : decode cX13_passes 79 = .ok (.istore 4, 2) := by decide +kernel
theorem dX13_passes_81 : decode cX13_passes 81 = .ok (.aload_n 0, 1) := by decide +kernel
theorem dX13_passes_82 : decode cX13_passes 82 = .ok (.iload_n 1, 1) := by decide +kernel
theorem dX13_passes_83 : decode cX13_passes 83 = .ok (.aload_n 0, 1) := by decide +kernel
theorem dX13_passes_84 : decode cX13_passes 84 = .ok (.iload 5, 2) := by decide +kernel
theorem dX13_passes_86 : decode cX13_passes 86 = .ok (.aload_n 0, 1) := by decide +kernel
theorem dX13_passes_87 : decode cX13_passes 87 = .ok (.getfield 120, 3) := by decide +kernel
theorem dX13_passes_90 : decode cX13_passes 90 = .ok (.bipush 6, 2) := by decide +kernel
theorem dX13_passes_92 : decode cX13_passes 92 = .ok (.iload_n 1, 1) := by decide +kernel
theorem dX13_passes_93 : decode cX13_passes 93 = .ok (.iadd, 1) := by decide +kernel
theorem dX13_passes_94 : decode cX13_passes 94 = .ok (.iaload, 1) := by decide +kernel
theorem dX13_passes_95 : decode cX13_passes 95 = .ok (.aload_n 0, 1) := by decide +kernel
theorem dX13_passes_96 : decode cX13_passes 96 = .ok (.getfield 120, 3) := by decide +kernel
theorem dX13_passes_99 : decode cX13_passes 99 = .ok (.iconst 5, 1) := by decide +kernel
theorem dX13_passes_100 : decode cX13_passes 100 = .ok (.iaload, 1) := by decide +kernel
theorem dX13_passes_101 : decode cX13_passes 101 = .ok (.invokevirtual 425, 3) := by decide +kernel
theorem dX13_passes_104 : decode cX13_passes 104 = .ok (.invokevirtual 428, 3) := by decide +kernel
theorem dX13_passes_107 : decode cX13_passes 107 = .ok (.iload_n 2, 1) := by decide +kernel
theorem dX13_passes_108 : decode cX13_passes 108 = .ok (.ifCond .lt 33, 3) := by decide +kernel
theorem dX13_passes_111 : decode cX13_passes 111 = .ok (.aload_n 0, 1) := by decide +kernel
theorem dX13_passes_112 : decode cX13_passes 112 = .ok (.iload_n 2, 1) := by decide +kernel
theorem dX13_passes_113 : decode cX13_passes 113 = .ok (.aload_n 0, 1) := by decide +kernel
theorem dX13_passes_114 : decode cX13_passes 114 = .ok (.getfield 29, 3) := by decide +kernel
theorem dX13_passes_117 : decode cX13_passes 117 = .ok (.aload_n 0, 1) := by decide +kernel
theorem dX13_passes_118 : decode cX13_passes 118 = .ok (.getfield 120, 3) := by decide +kernel
theorem dX13_passes_121 : decode cX13_passes 121 = .ok (.iconst 2, 1) := by decide +kernel
theorem dX13_passes_122 : decode cX13_passes 122 = .ok (.iaload, 1) := by decide +kernel
theorem dX13_passes_123 : decode cX13_passes 123 = .ok (.iaload, 1) := by decide +kernel
theorem dX13_passes_124 : decode cX13_passes 124 = .ok (.invokevirtual 428, 3) := by decide +kernel
theorem dX13_passes_127 : decode cX13_passes 127 = .ok (.aload_n 0, 1) := by decide +kernel
theorem dX13_passes_128 : decode cX13_passes 128 = .ok (.aload_n 0, 1) := by decide +kernel
theorem dX13_passes_129 : decode cX13_passes 129 = .ok (.getfield 120, 3) := by decide +kernel
theorem dX13_passes_132 : decode cX13_passes 132 = .ok (.iconst 2, 1) := by decide +kernel
theorem dX13_passes_133 : decode cX13_passes 133 = .ok (.iaload, 1) := by decide +kernel
theorem dX13_passes_134 : decode cX13_passes 134 = .ok (.iconst 1, 1) := by decide +kernel
theorem dX13_passes_135 : decode cX13_passes 135 = .ok (.invokevirtual 431, 3) := by decide +kernel
theorem dX13_passes_138 : decode cX13_passes 138 = .ok (.goto 30, 3) := by decide +kernel
theorem dX13_passes_141 : decode cX13_passes 141 = .ok (.aload_n 0, 1) := by decide +kernel
theorem dX13_passes_142 : decode cX13_passes 142 = .ok (.getfield 120, 3) := by decide +kernel
theorem dX13_passes_145 : decode cX13_passes 145 = .ok (.iconst 2, 1) := by decide +kernel
theorem dX13_passes_146 : decode cX13_passes 146 = .ok (.iaload, 1) := by decide +kernel
theorem dX13_passes_147 : decode cX13_passes 147 = .ok (.ifCond .lt 21, 3) := by decide +kernel
theorem dX13_passes_150 : decode cX13_passes 150 = .ok (.aload_n 0, 1) := by decide +kernel
theorem dX13_passes_151 : decode cX13_passes 151 = .ok (.iload_n 1, 1) := by decide +kernel
theorem dX13_passes_152 : decode cX13_passes 152 = .ok (.aload_n 0, 1) := by decide +kernel
theorem dX13_passes_153 : decode cX13_passes 153 = .ok (.getfield 29, 3) := by decide +kernel
theorem dX13_passes_156 : decode cX13_passes 156 = .ok (.aload_n 0, 1) := by decide +kernel
theorem dX13_passes_157 : decode cX13_passes 157 = .ok (.getfield 120, 3) := by decide +kernel
theorem dX13_passes_160 : decode cX13_passes 160 = .ok (.iconst 2, 1) := by decide +kernel
theorem dX13_passes_161 : decode cX13_passes 161 = .ok (.iaload, 1) := by decide +kernel
theorem dX13_passes_162 : decode cX13_passes 162 = .ok (.iaload, 1) := by decide +kernel
theorem dX13_passes_163 : decode cX13_passes 163 = .ok (.iconst 2, 1) := by decide +kernel
theorem dX13_passes_164 : decode cX13_passes 164 = .ok (.idiv, 1) := by decide +kernel
theorem dX13_passes_165 : decode cX13_passes 165 = .ok (.invokevirtual 428, 3) := by decide +kernel
theorem dX13_passes_168 : decode cX13_passes 168 = .ok (.iconst 0, 1) := by decide +kernel
theorem dX13_passes_169 : decode cX13_passes 169 = .ok (.istore 6, 2) := by decide +kernel
theorem dX13_passes_171 : decode cX13_passes 171 = .ok (.iconst 0, 1) := by decide +kernel
theorem dX13_passes_172 : decode cX13_passes 172 = .ok (.istore 7, 2) := by decide +kernel
theorem dX13_passes_174 : decode cX13_passes 174 = .ok (.iload 7, 2) := by decide +kernel
theorem dX13_passes_176 : decode cX13_passes 176 = .ok (.aload_n 0, 1) := by decide +kernel
theorem dX13_passes_177 : decode cX13_passes 177 = .ok (.getfield 13, 3) := by decide +kernel
theorem dX13_passes_180 : decode cX13_passes 180 = .ok (.iconst 1, 1) := by decide +kernel
theorem dX13_passes_181 : decode cX13_passes 181 = .ok (.iaload, 1) := by decide +kernel
theorem dX13_passes_182 : decode cX13_passes 182 = .ok (.if_icmp .ge 98, 3) := by decide +kernel
theorem dX13_passes_185 : decode cX13_passes 185 = .ok (.iload 6, 2) := by decide +kernel
theorem dX13_passes_187 : decode cX13_passes 187 = .ok (.iload_n 3, 1) := by decide +kernel
theorem dX13_passes_188 : decode cX13_passes 188 = .ok (.iload 7, 2) := by decide +kernel
theorem dX13_passes_190 : decode cX13_passes 190 = .ok (.ishr, 1) := by decide +kernel
theorem dX13_passes_191 : decode cX13_passes 191 = .ok (.iconst 1, 1) := by decide +kernel
theorem dX13_passes_192 : decode cX13_passes 192 = .ok (.iand, 1) := by decide +kernel
theorem dX13_passes_193 : decode cX13_passes 193 = .ok (.iconst 1, 1) := by decide +kernel
theorem dX13_passes_194 : decode cX13_passes 194 = .ok (.if_icmp .ne 20, 3) := by decide +kernel
theorem dX13_passes_197 : decode cX13_passes 197 = .ok (.aload_n 0, 1) := by decide +kernel
theorem dX13_passes_198 : decode cX13_passes 198 = .ok (.getfield 120, 3) := by decide +kernel
theorem dX13_passes_201 : decode cX13_passes 201 = .ok (.bipush 6, 2) := by decide +kernel
theorem dX13_passes_203 : decode cX13_passes 203 = .ok (.iload 7, 2) := by decide +kernel
theorem dX13_passes_205 : decode cX13_passes 205 = .ok (.iadd, 1) := by decide +kernel
theorem dX13_passes_206 : decode cX13_passes 206 = .ok (.iaload, 1) := by decide +kernel
theorem dX13_passes_207 : decode cX13_passes 207 = .ok (.ifCond .ne 7, 3) := by decide +kernel
theorem dX13_passes_210 : decode cX13_passes 210 = .ok (.iconst 1, 1) := by decide +kernel
theorem dX13_passes_211 : decode cX13_passes 211 = .ok (.goto 4, 3) := by decide +kernel
theorem dX13_passes_214 : decode cX13_passes 214 = .ok (.iconst 0, 1) := by decide +kernel
theorem dX13_passes_215 : decode cX13_passes 215 = .ok (.iadd, 1) := by decide +kernel
theorem dX13_passes_216 : decode cX13_passes 216 = .ok (.istore 6, 2) := by decide +kernel
theorem dX13_passes_218 : decode cX13_passes 218 = .ok (.aload_n 0, 1) := by decide +kernel
theorem dX13_passes_219 : decode cX13_passes 219 = .ok (.getfield 120, 3) := by decide +kernel
theorem dX13_passes_222 : decode cX13_passes 222 = .ok (.bipush 6, 2) := by decide +kernel
theorem dX13_passes_224 : decode cX13_passes 224 = .ok (.iload 7, 2) := by decide +kernel
theorem dX13_passes_226 : decode cX13_passes 226 = .ok (.iadd, 1) := by decide +kernel
theorem dX13_passes_227 : decode cX13_passes 227 = .ok (.iaload, 1) := by decide +kernel
theorem dX13_passes_228 : decode cX13_passes 228 = .ok (.ifCond .le 46, 3) := by decide +kernel
theorem dX13_passes_231 : decode cX13_passes 231 = .ok (.iload 4, 2) := by decide +kernel
theorem dX13_passes_233 : decode cX13_passes 233 = .ok (.iload 7, 2) := by decide +kernel
theorem dX13_passes_235 : decode cX13_passes 235 = .ok (.ishr, 1) := by decide +kernel
theorem dX13_passes_236 : decode cX13_passes 236 = .ok (.iconst 1, 1) := by decide +kernel
theorem dX13_passes_237 : decode cX13_passes 237 = .ok (.iand, 1) := by decide +kernel
theorem dX13_passes_238 : decode cX13_passes 238 = .ok (.ifCond .ne 36, 3) := by decide +kernel
theorem dX13_passes_241 : decode cX13_passes 241 = .ok (.aload_n 0, 1) := by decide +kernel
theorem dX13_passes_242 : decode cX13_passes 242 = .ok (.getfield 120, 3) := by decide +kernel
theorem dX13_passes_245 : decode cX13_passes 245 = .ok (.bipush 6, 2) := by decide +kernel
theorem dX13_passes_247 : decode cX13_passes 247 = .ok (.iload 7, 2) := by decide +kernel
theorem dX13_passes_249 : decode cX13_passes 249 = .ok (.iadd, 1) := by decide +kernel
theorem dX13_passes_250 : decode cX13_passes 250 = .ok (.bipush 99, 2) := by decide +kernel
theorem dX13_passes_252 : decode cX13_passes 252 = .ok (.aload_n 0, 1) := by decide +kernel
theorem dX13_passes_253 : decode cX13_passes 253 = .ok (.getfield 120, 3) := by decide +kernel
theorem dX13_passes_256 : decode cX13_passes 256 = .ok (.bipush 6, 2) := by decide +kernel
theorem dX13_passes_258 : decode cX13_passes 258 = .ok (.iload 7, 2) := by decide +kernel
theorem dX13_passes_260 : decode cX13_passes 260 = .ok (.iadd, 1) := by decide +kernel
theorem dX13_passes_261 : decode cX13_passes 261 = .ok (.iaload, 1) := by decide +kernel
theorem dX13_passes_262 : decode cX13_passes 262 = .ok (.aload_n 0, 1) := by decide +kernel
theorem dX13_passes_263 : decode cX13_passes 263 = .ok (.getfield 47, 3) := by decide +kernel
theorem dX13_passes_266 : decode cX13_passes 266 = .ok (.iload 7, 2) := by decide +kernel
theorem dX13_passes_268 : decode cX13_passes 268 = .ok (.iaload, 1) := by decide +kernel
theorem dX13_passes_269 : decode cX13_passes 269 = .ok (.iadd, 1) := by decide +kernel
theorem dX13_passes_270 : decode cX13_passes 270 = .ok (.invokestatic 416, 3) := by decide +kernel
theorem dX13_passes_273 : decode cX13_passes 273 = .ok (.iastore, 1) := by decide +kernel
theorem dX13_passes_274 : decode cX13_passes 274 = .ok (.iinc 7 1, 3) := by decide +kernel
theorem dX13_passes_277 : decode cX13_passes 277 = .ok (.goto (-103), 3) := by decide +kernel
theorem dX13_passes_280 : decode cX13_passes 280 = .ok (.aload_n 0, 1) := by decide +kernel
theorem dX13_passes_281 : decode cX13_passes 281 = .ok (.getfield 120, 3) := by decide +kernel
theorem dX13_passes_284 : decode cX13_passes 284 = .ok (.iconst 0, 1) := by decide +kernel
theorem dX13_passes_285 : decode cX13_passes 285 = .ok (.dup2, 1) := by decide +kernel
theorem dX13_passes_286 : decode cX13_passes 286 = .ok (.iaload, 1) := by decide +kernel
theorem dX13_passes_287 : decode cX13_passes 287 = .ok (.iconst 1, 1) := by decide +kernel
theorem dX13_passes_288 : decode cX13_passes 288 = .ok (.iadd, 1) := by decide +kernel
theorem dX13_passes_289 : decode cX13_passes 289 = .ok (.iastore, 1) := by decide +kernel
theorem dX13_passes_290 : decode cX13_passes 290 = .ok (.iload 5, 2) := by decide +kernel
theorem dX13_passes_292 : decode cX13_passes 292 = .ok (.ifCond .lt 11, 3) := by decide +kernel
theorem dX13_passes_295 : decode cX13_passes 295 = .ok (.aload_n 0, 1) := by decide +kernel
theorem dX13_passes_296 : decode cX13_passes 296 = .ok (.iload 5, 2) := by decide +kernel
theorem dX13_passes_298 : decode cX13_passes 298 = .ok (.iload 6, 2) := by decide +kernel
theorem dX13_passes_300 : decode cX13_passes 300 = .ok (.invokevirtual 434, 3) := by decide +kernel
theorem dX13_passes_303 : decode cX13_passes 303 = .ok (.iload 6, 2) := by decide +kernel
theorem dX13_passes_305 : decode cX13_passes 305 = .ok (.ireturn, 1) := by decide +kernel
theorem dX13_endsMonth_0 : decode cX13_endsMonth 0 = .ok (.aload_n 0, 1) := by decide +kernel
theorem dX13_endsMonth_1 : decode cX13_endsMonth 1 = .ok (.iload_n 1, 1) := by decide +kernel
theorem dX13_endsMonth_2 : decode cX13_endsMonth 2 = .ok (.iload_n 2, 1) := by decide +kernel
theorem dX13_endsMonth_3 : decode cX13_endsMonth 3 = .ok (.aload_n 0, 1) := by decide +kernel
theorem dX13_endsMonth_4 : decode cX13_endsMonth 4 = .ok (.getfield 26, 3) := by decide +kernel
theorem dX13_endsMonth_7 : decode cX13_endsMonth 7 = .ok (.iload_n 1, 1) := by decide +kernel
theorem dX13_endsMonth_8 : decode cX13_endsMonth 8 = .ok (.iaload, 1) := by decide +kernel
theorem dX13_endsMonth_9 : decode cX13_endsMonth 9 = .ok (.iconst 2, 1) := by decide +kernel
theorem dX13_endsMonth_10 : decode cX13_endsMonth 10 = .ok (.if_icmp .ne 7, 3) := by decide +kernel
theorem dX13_endsMonth_13 : decode cX13_endsMonth 13 = .ok (.iconst 5, 1) := by decide +kernel
theorem dX13_endsMonth_14 : decode cX13_endsMonth 14 = .ok (.goto 4, 3) := by decide +kernel
theorem dX13_endsMonth_17 : decode cX13_endsMonth 17 = .ok (.iconst 3, 1) := by decide +kernel
theorem dX13_endsMonth_18 : decode cX13_endsMonth 18 = .ok (.imul, 1) := by decide +kernel
theorem dX13_endsMonth_19 : decode cX13_endsMonth 19 = .ok (.invokevirtual 431, 3) := by decide +kernel
theorem dX13_endsMonth_22 : decode cX13_endsMonth 22 = .ok (.aload_n 0, 1) := by decide +kernel
theorem dX13_endsMonth_23 : decode cX13_endsMonth 23 = .ok (.getfield 120, 3) := by decide +kernel
theorem dX13_endsMonth_26 : decode cX13_endsMonth 26 = .ok (.bipush 11, 2) := by decide +kernel
theorem dX13_endsMonth_28 : decode cX13_endsMonth 28 = .ok (.iload_n 1, 1) := by decide +kernel
theorem dX13_endsMonth_29 : decode cX13_endsMonth 29 = .ok (.iadd, 1) := by decide +kernel
theorem dX13_endsMonth_30 : decode cX13_endsMonth 30 = .ok (.iconst 0, 1) := by decide +kernel
theorem dX13_endsMonth_31 : decode cX13_endsMonth 31 = .ok (.aload_n 0, 1) := by decide +kernel
theorem dX13_endsMonth_32 : decode cX13_endsMonth 32 = .ok (.getfield 120, 3) := by decide +kernel
theorem dX13_endsMonth_35 : decode cX13_endsMonth 35 = .ok (.bipush 11, 2) := by decide +kernel
theorem dX13_endsMonth_37 : decode cX13_endsMonth 37 = .ok (.iload_n 1, 1) := by decide +kernel
theorem dX13_endsMonth_38 : decode cX13_endsMonth 38 = .ok (.iadd, 1) := by decide +kernel
theorem dX13_endsMonth_39 : decode cX13_endsMonth 39 = .ok (.iaload, 1) := by decide +kernel
theorem dX13_endsMonth_40 : decode cX13_endsMonth 40 = .ok (.aload_n 0, 1) := by decide +kernel
theorem dX13_endsMonth_41 : decode cX13_endsMonth 41 = .ok (.getfield 26, 3) := by decide +kernel
theorem dX13_endsMonth_44 : decode cX13_endsMonth 44 = .ok (.iload_n 1, 1) := by decide +kernel
theorem dX13_endsMonth_45 : decode cX13_endsMonth 45 = .ok (.iaload, 1) := by decide +kernel
theorem dX13_endsMonth_46 : decode cX13_endsMonth 46 = .ok (.iconst 1, 1) := by decide +kernel
theorem dX13_endsMonth_47 : decode cX13_endsMonth 47 = .ok (.if_icmp .ne 8, 3) := by decide +kernel
theorem dX13_endsMonth_50 : decode cX13_endsMonth 50 = .ok (.bipush 10, 2) := by decide +kernel
theorem dX13_endsMonth_52 : decode cX13_endsMonth 52 = .ok (.goto 4, 3) := by decide +kernel
theorem dX13_endsMonth_55 : decode cX13_endsMonth 55 = .ok (.iconst 5, 1) := by decide +kernel
theorem dX13_endsMonth_56 : decode cX13_endsMonth 56 = .ok (.isub, 1) := by decide +kernel
theorem dX13_endsMonth_57 : decode cX13_endsMonth 57 = .ok (.invokestatic 422, 3) := by decide +kernel
theorem dX13_endsMonth_60 : decode cX13_endsMonth 60 = .ok (.iastore, 1) := by decide +kernel
theorem dX13_endsMonth_61 : decode cX13_endsMonth 61 = .ok (.aload_n 0, 1) := by decide +kernel
theorem dX13_endsMonth_62 : decode cX13_endsMonth 62 = .ok (.getfield 120, 3) := by decide +kernel
theorem dX13_endsMonth_65 : decode cX13_endsMonth 65 = .ok (.iconst 5, 1) := by decide +kernel
theorem dX13_endsMonth_66 : decode cX13_endsMonth 66 = .ok (.dup2, 1) := by decide +kernel
theorem dX13_endsMonth_67 : decode cX13_endsMonth 67 = .ok (.iaload, 1) := by decide +kernel
theorem dX13_endsMonth_68 : decode cX13_endsMonth 68 = .ok (.iconst 1, 1) := by decide +kernel
theorem dX13_endsMonth_69 : decode cX13_endsMonth 69 = .ok (.iadd, 1) := by decide +kernel
theorem dX13_endsMonth_70 : decode cX13_endsMonth 70 = .ok (.iastore, 1) := by decide +kernel
theorem dX13_endsMonth_71 : decode cX13_endsMonth 71 = .ok (.aload_n 0, 1) := by decide +kernel
theorem dX13_endsMonth_72 : decode cX13_endsMonth 72 = .ok (.getfield 120, 3) := by decide +kernel
theorem dX13_endsMonth_75 : decode cX13_endsMonth 75 = .ok (.iconst 4, 1) := by decide +kernel
theorem dX13_endsMonth_76 : decode cX13_endsMonth 76 = .ok (.iaload, 1) := by decide +kernel
theorem dX13_endsMonth_77 : decode cX13_endsMonth 77 = .ok (.iconst 1, 1) := by decide +kernel
theorem dX13_endsMonth_78 : decode cX13_endsMonth 78 = .ok (.if_icmp .ne 4, 3) := by decide +kernel
theorem dX13_endsMonth_81 : decode cX13_endsMonth 81 = .ok (.return_, 1) := by decide +kernel
theorem dX13_endsMonth_82 : decode cX13_endsMonth 82 = .ok (.aload_n 0, 1) := by decide +kernel
theorem dX13_endsMonth_83 : decode cX13_endsMonth 83 = .ok (.getfield 120, 3) := by decide +kernel
theorem dX13_endsMonth_86 : decode cX13_endsMonth 86 = .ok (.iconst 3, 1) := by decide +kernel
theorem dX13_endsMonth_87 : decode cX13_endsMonth 87 = .ok (.dup2, 1) := by decide +kernel
theorem dX13_endsMonth_88 : decode cX13_endsMonth 88 = .ok (.iaload, 1) := by decide +kernel
theorem dX13_endsMonth_89 : decode cX13_endsMonth 89 = .ok (.iconst 1, 1) := by decide +kernel
theorem dX13_endsMonth_90 : decode cX13_endsMonth 90 = .ok (.isub, 1) := by decide +kernel
theorem dX13_endsMonth_91 : decode cX13_endsMonth 91 = .ok (.iastore, 1) := by decide +kernel
theorem dX13_endsMonth_92 : decode cX13_endsMonth 92 = .ok (.aload_n 0, 1) := by decide +kernel
theorem dX13_endsMonth_93 : decode cX13_endsMonth 93 = .ok (.getfield 120, 3) := by decide +kernel
theorem dX13_endsMonth_96 : decode cX13_endsMonth 96 = .ok (.iconst 3, 1) := by decide +kernel
theorem dX13_endsMonth_97 : decode cX13_endsMonth 97 = .ok (.iaload, 1) := by decide +kernel
theorem dX13_endsMonth_98 : decode cX13_endsMonth 98 = .ok (.ifCond .le 4, 3) := by decide +kernel
theorem dX13_endsMonth_101 : decode cX13_endsMonth 101 = .ok (.return_, 1) := by decide +kernel
theorem dX13_endsMonth_102 : decode cX13_endsMonth 102 = .ok (.aload_n 0, 1) := by decide +kernel
theorem dX13_endsMonth_103 : decode cX13_endsMonth 103 = .ok (.iload_n 1, 1) := by decide +kernel
theorem dX13_endsMonth_104 : decode cX13_endsMonth 104 = .ok (.aload_n 0, 1) := by decide +kernel
theorem dX13_endsMonth_105 : decode cX13_endsMonth 105 = .ok (.getfield 120, 3) := by decide +kernel
theorem dX13_endsMonth_108 : decode cX13_endsMonth 108 = .ok (.bipush 17, 2) := by decide +kernel
theorem dX13_endsMonth_110 : decode cX13_endsMonth 110 = .ok (.iload_n 1, 1) := by decide +kernel
theorem dX13_endsMonth_111 : decode cX13_endsMonth 111 = .ok (.iadd, 1) := by decide +kernel
theorem dX13_endsMonth_112 : decode cX13_endsMonth 112 = .ok (.iaload, 1) := by decide +kernel
theorem dX13_endsMonth_113 : decode cX13_endsMonth 113 = .ok (.aload_n 0, 1) := by decide +kernel
theorem dX13_endsMonth_114 : decode cX13_endsMonth 114 = .ok (.invokevirtual 437, 3) := by decide +kernel
theorem dX13_endsMonth_117 : decode cX13_endsMonth 117 = .ok (.invokevirtual 440, 3) := by decide +kernel
theorem dX13_endsMonth_120 : decode cX13_endsMonth 120 = .ok (.ifCond .eq 13, 3) := by decide +kernel
theorem dX13_endsMonth_123 : decode cX13_endsMonth 123 = .ok (.aload_n 0, 1) := by decide +kernel
theorem dX13_endsMonth_124 : decode cX13_endsMonth 124 = .ok (.getfield 120, 3) := by decide +kernel
theorem dX13_endsMonth_127 : decode cX13_endsMonth 127 = .ok (.iconst 4, 1) := by decide +kernel
theorem dX13_endsMonth_128 : decode cX13_endsMonth 128 = .ok (.iconst 1, 1) := by decide +kernel
theorem dX13_endsMonth_129 : decode cX13_endsMonth 129 = .ok (.iastore, 1) := by decide +kernel
theorem dX13_endsMonth_130 : decode cX13_endsMonth 130 = .ok (.goto 7, 3) := by decide +kernel
theorem dX13_endsMonth_133 : decode cX13_endsMonth 133 = .ok (.aload_n 0, 1) := by decide +kernel
theorem dX13_endsMonth_134 : decode cX13_endsMonth 134 = .ok (.invokevirtual 413, 3) := by decide +kernel
theorem dX13_endsMonth_137 : decode cX13_endsMonth 137 = .ok (.return_, 1) := by decide +kernel
theorem dX13_man_0 : decode cX13_man 0 = .ok (.aload_n 0, 1) := by decide +kernel
theorem dX13_man_1 : decode cX13_man 1 = .ok (.iconst 0, 1) := by decide +kernel
theorem dX13_man_2 : decode cX13_man 2 = .ok (.putfield 153, 3) := by decide +kernel
theorem dX13_man_5 : decode cX13_man 5 = .ok (.aload_n 0, 1) := by decide +kernel
theorem dX13_man_6 : decode cX13_man 6 = .ok (.iload_n 1, 1) := by decide +kernel
theorem dX13_man_7 : decode cX13_man 7 = .ok (.invokevirtual 443, 3) := by decide +kernel
theorem dX13_man_10 : decode cX13_man 10 = .ok (.ifCond .eq 12, 3) := by decide +kernel
theorem dX13_man_13 : decode cX13_man 13 = .ok (.iload_n 2, 1) := by decide +kernel
theorem dX13_man_14 : decode cX13_man 14 = .ok (.iconst 0, 1) := by decide +kernel
theorem dX13_man_15 : decode cX13_man 15 = .ok (.iconst 5, 1) := by decide +kernel
theorem dX13_man_16 : decode cX13_man 16 = .ok (.invokestatic 297, 3) := by decide +kernel
theorem dX13_man_19 : decode cX13_man 19 = .ok (.ifCond .ne 6, 3) := by decide +kernel
theorem dX13_man_22 : decode cX13_man 22 = .ok (.bipush (-2), 2) := by decide +kernel
theorem dX13_man_24 : decode cX13_man 24 = .ok (.ireturn, 1) := by decide +kernel
theorem dX13_man_25 : decode cX13_man 25 = .ok (.iload_n 2, 1) := by decide +kernel
theorem dX13_man_26 : decode cX13_man 26 = .ok (.iconst 3, 1) := by decide +kernel
theorem dX13_man_27 : decode cX13_man 27 = .ok (.if_icmp .ge 37, 3) := by decide +kernel
theorem dX13_man_30 : decode cX13_man 30 = .ok (.iload_n 2, 1) := by decide +kernel
theorem dX13_man_31 : decode cX13_man 31 = .ok (.ifCond .ne 12, 3) := by decide +kernel
theorem dX13_man_34 : decode cX13_man 34 = .ok (.aload_n 0, 1) := by decide +kernel
theorem dX13_man_35 : decode cX13_man 35 = .ok (.getfield 26, 3) := by decide +kernel
theorem dX13_man_38 : decode cX13_man 38 = .ok (.iload_n 1, 1) := by decide +kernel
theorem dX13_man_39 : decode cX13_man 39 = .ok (.iaload, 1) := by decide +kernel
theorem dX13_man_40 : decode cX13_man 40 = .ok (.goto 23, 3) := by decide +kernel
theorem dX13_man_43 : decode cX13_man 43 = .ok (.iload_n 2, 1) := by decide +kernel
theorem dX13_man_44 : decode cX13_man 44 = .ok (.iconst 1, 1) := by decide +kernel
theorem dX13_man_45 : decode cX13_man 45 = .ok (.if_icmp .ne 12, 3) := by decide +kernel
theorem dX13_man_48 : decode cX13_man 48 = .ok (.aload_n 0, 1) := by decide +kernel
theorem dX13_man_49 : decode cX13_man 49 = .ok (.getfield 29, 3) := by decide +kernel
theorem dX13_man_52 : decode cX13_man 52 = .ok (.iload_n 1, 1) := by decide +kernel
theorem dX13_man_53 : decode cX13_man 53 = .ok (.iaload, 1) := by decide +kernel
theorem dX13_man_54 : decode cX13_man 54 = .ok (.goto 9, 3) := by decide +kernel
theorem dX13_man_57 : decode cX13_man 57 = .ok (.aload_n 0, 1) := by decide +kernel
theorem dX13_man_58 : decode cX13_man 58 = .ok (.getfield 35, 3) := by decide +kernel
theorem dX13_man_61 : decode cX13_man 61 = .ok (.iload_n 1, 1) := by decide +kernel
theorem dX13_man_62 : decode cX13_man 62 = .ok (.iaload, 1) := by decide +kernel
theorem dX13_man_63 : decode cX13_man 63 = .ok (.ireturn, 1) := by decide +kernel
theorem dX13_man_64 : decode cX13_man 64 = .ok (.iload_n 2, 1) := by decide +kernel
theorem dX13_man_65 : decode cX13_man 65 = .ok (.iconst 3, 1) := by decide +kernel
theorem dX13_man_66 : decode cX13_man 66 = .ok (.if_icmp .ne 15, 3) := by decide +kernel
theorem dX13_man_69 : decode cX13_man 69 = .ok (.aload_n 0, 1) := by decide +kernel
theorem dX13_man_70 : decode cX13_man 70 = .ok (.getfield 120, 3) := by decide +kernel
theorem dX13_man_73 : decode cX13_man 73 = .ok (.bipush 11, 2) := by decide +kernel
theorem dX13_man_75 : decode cX13_man 75 = .ok (.iload_n 1, 1) := by decide +kernel
theorem dX13_man_76 : decode cX13_man 76 = .ok (.iadd, 1) := by decide +kernel
theorem dX13_man_77 : decode cX13_man 77 = .ok (.iaload, 1) := by decide +kernel
theorem dX13_man_78 : decode cX13_man 78 = .ok (.goto 33, 3) := by decide +kernel
theorem dX13_man_81 : decode cX13_man 81 = .ok (.iload_n 2, 1) := by decide +kernel
theorem dX13_man_82 : decode cX13_man 82 = .ok (.iconst 4, 1) := by decide +kernel
theorem dX13_man_83 : decode cX13_man 83 = .ok (.if_icmp .ne 15, 3) := by decide +kernel
theorem dX13_man_86 : decode cX13_man 86 = .ok (.aload_n 0, 1) := by decide +kernel
theorem dX13_man_87 : decode cX13_man 87 = .ok (.getfield 120, 3) := by decide +kernel
theorem dX13_man_90 : decode cX13_man 90 = .ok (.bipush 17, 2) := by decide +kernel
theorem dX13_man_92 : decode cX13_man 92 = .ok (.iload_n 1, 1) := by decide +kernel
theorem dX13_man_93 : decode cX13_man 93 = .ok (.iadd, 1) := by decide +kernel
theorem dX13_man_94 : decode cX13_man 94 = .ok (.iaload, 1) := by decide +kernel
theorem dX13_man_95 : decode cX13_man 95 = .ok (.goto 16, 3) := by decide +kernel
theorem dX13_man_98 : decode cX13_man 98 = .ok (.aload_n 0, 1) := by decide +kernel
theorem dX13_man_99 : decode cX13_man 99 = .ok (.iload_n 1, 1) := by decide +kernel
theorem dX13_man_100 : decode cX13_man 100 = .ok (.invokevirtual 410, 3) := by decide +kernel
theorem dX13_man_103 : decode cX13_man 103 = .ok (.ifCond .eq 7, 3) := by decide +kernel
theorem dX13_man_106 : decode cX13_man 106 = .ok (.iconst 1, 1) := by decide +kernel
theorem dX13_man_107 : decode cX13_man 107 = .ok (.goto 4, 3) := by decide +kernel
theorem dX13_man_110 : decode cX13_man 110 = .ok (.iconst 0, 1) := by decide +kernel
theorem dX13_man_111 : decode cX13_man 111 = .ok (.ireturn, 1) := by decide +kernel
theorem dX13_danger_0 : decode cX13_danger 0 = .ok (.aload_n 0, 1) := by decide +kernel
theorem dX13_danger_1 : decode cX13_danger 1 = .ok (.iconst 0, 1) := by decide +kernel
theorem dX13_danger_2 : decode cX13_danger 2 = .ok (.putfield 153, 3) := by decide +kernel
theorem dX13_danger_5 : decode cX13_danger 5 = .ok (.aload_n 0, 1) := by decide +kernel
theorem dX13_danger_6 : decode cX13_danger 6 = .ok (.iload_n 1, 1) := by decide +kernel
theorem dX13_danger_7 : decode cX13_danger 7 = .ok (.invokevirtual 446, 3) := by decide +kernel
theorem dX13_danger_10 : decode cX13_danger 10 = .ok (.ifCond .eq 12, 3) := by decide +kernel
theorem dX13_danger_13 : decode cX13_danger 13 = .ok (.iload_n 2, 1) := by decide +kernel
theorem dX13_danger_14 : decode cX13_danger 14 = .ok (.iconst 0, 1) := by decide +kernel
theorem dX13_danger_15 : decode cX13_danger 15 = .ok (.iconst 2, 1) := by decide +kernel
theorem dX13_danger_16 : decode cX13_danger 16 = .ok (.invokestatic 297, 3) := by decide +kernel
theorem dX13_danger_19 : decode cX13_danger 19 = .ok (.ifCond .ne 6, 3) := by decide +kernel
theorem dX13_danger_22 : decode cX13_danger 22 = .ok (.bipush (-2), 2) := by decide +kernel
theorem dX13_danger_24 : decode cX13_danger 24 = .ok (.ireturn, 1) := by decide +kernel
theorem dX13_danger_25 : decode cX13_danger 25 = .ok (.iload_n 2, 1) := by decide +kernel
theorem dX13_danger_26 : decode cX13_danger 26 = .ok (.ifCond .ne 15, 3) := by decide +kernel
theorem dX13_danger_29 : decode cX13_danger 29 = .ok (.aload_n 0, 1) := by decide +kernel
theorem dX13_danger_30 : decode cX13_danger 30 = .ok (.getfield 120, 3) := by decide +kernel
theorem dX13_danger_33 : decode cX13_danger 33 = .ok (.bipush 6, 2) := by decide +kernel
theorem dX13_danger_35 : decode cX13_danger 35 = .ok (.iload_n 1, 1) := by decide +kernel
theorem dX13_danger_36 : decode cX13_danger 36 = .ok (.iadd, 1) := by decide +kernel
theorem dX13_danger_37 : decode cX13_danger 37 = .ok (.iaload, 1) := by decide +kernel
theorem dX13_danger_38 : decode cX13_danger 38 = .ok (.goto 23, 3) := by decide +kernel
theorem dX13_danger_41 : decode cX13_danger 41 = .ok (.iload_n 2, 1) := by decide +kernel
theorem dX13_danger_42 : decode cX13_danger 42 = .ok (.iconst 1, 1) := by decide +kernel
theorem dX13_danger_43 : decode cX13_danger 43 = .ok (.if_icmp .ne 12, 3) := by decide +kernel
theorem dX13_danger_46 : decode cX13_danger 46 = .ok (.aload_n 0, 1) := by decide +kernel
theorem dX13_danger_47 : decode cX13_danger 47 = .ok (.getfield 47, 3) := by decide +kernel
theorem dX13_danger_50 : decode cX13_danger 50 = .ok (.iload_n 1, 1) := by decide +kernel
theorem dX13_danger_51 : decode cX13_danger 51 = .ok (.iaload, 1) := by decide +kernel
theorem dX13_danger_52 : decode cX13_danger 52 = .ok (.goto 9, 3) := by decide +kernel
theorem dX13_danger_55 : decode cX13_danger 55 = .ok (.aload_n 0, 1) := by decide +kernel
theorem dX13_danger_56 : decode cX13_danger 56 = .ok (.getfield 44, 3) := by decide +kernel
theorem dX13_danger_59 : decode cX13_danger 59 = .ok (.iload_n 1, 1) := by decide +kernel
theorem dX13_danger_60 : decode cX13_danger 60 = .ok (.iaload, 1) := by decide +kernel
theorem dX13_danger_61 : decode cX13_danger 61 = .ok (.ireturn, 1) := by decide +kernel
theorem dX13_may_0 : decode cX13_may 0 = .ok (.aload_n 0, 1) := by decide +kernel
theorem dX13_may_1 : decode cX13_may 1 = .ok (.iconst 0, 1) := by decide +kernel
theorem dX13_may_2 : decode cX13_may 2 = .ok (.putfield 153, 3) := by decide +kernel
theorem dX13_may_5 : decode cX13_may 5 = .ok (.aload_n 0, 1) := by decide +kernel
theorem dX13_may_6 : decode cX13_may 6 = .ok (.iload_n 1, 1) := by decide +kernel
theorem dX13_may_7 : decode cX13_may 7 = .ok (.invokevirtual 443, 3) := by decide +kernel
theorem dX13_may_10 : decode cX13_may 10 = .ok (.ifCond .eq 24, 3) := by decide +kernel
theorem dX13_may_13 : decode cX13_may 13 = .ok (.aload_n 0, 1) := by decide +kernel
theorem dX13_may_14 : decode cX13_may 14 = .ok (.iload_n 2, 1) := by decide +kernel
theorem dX13_may_15 : decode cX13_may 15 = .ok (.invokevirtual 443, 3) := by decide +kernel
theorem dX13_may_18 : decode cX13_may 18 = .ok (.ifCond .eq 16, 3) := by decide +kernel
theorem dX13_may_21 : decode cX13_may 21 = .ok (.aload_n 0, 1) := by decide +kernel
theorem dX13_may_22 : decode cX13_may 22 = .ok (.iload_n 1, 1) := by decide +kernel
theorem dX13_may_23 : decode cX13_may 23 = .ok (.iload_n 2, 1) := by decide +kernel
theorem dX13_may_24 : decode cX13_may 24 = .ok (.invokevirtual 449, 3) := by decide +kernel
theorem dX13_may_27 : decode cX13_may 27 = .ok (.ifCond .eq 7, 3) := by decide +kernel
theorem dX13_may_30 : decode cX13_may 30 = .ok (.iconst 1, 1) := by decide +kernel
theorem dX13_may_31 : decode cX13_may 31 = .ok (.goto 4, 3) := by decide +kernel
theorem dX13_may_34 : decode cX13_may 34 = .ok (.iconst 0, 1) := by decide +kernel
theorem dX13_may_35 : decode cX13_may 35 = .ok (.ireturn, 1) := by decide +kernel
theorem dX13_holds_0 : decode cX13_holds 0 = .ok (.aload_n 0, 1) := by decide +kernel
theorem dX13_holds_1 : decode cX13_holds 1 = .ok (.getfield 393, 3) := by decide +kernel
theorem dX13_holds_4 : decode cX13_holds 4 = .ok (.bipush 16, 2) := by decide +kernel
theorem dX13_holds_6 : decode cX13_holds 6 = .ok (.if_icmp .ne 43, 3) := by decide +kernel
theorem dX13_holds_9 : decode cX13_holds 9 = .ok (.iconst 0, 1) := by decide +kernel
theorem dX13_holds_10 : decode cX13_holds 10 = .ok (.istore_n 1, 1) := by decide +kernel
theorem dX13_holds_11 : decode cX13_holds 11 = .ok (.iload_n 1, 1) := by decide +kernel
theorem dX13_holds_12 : decode cX13_holds 12 = .ok (.sipush 345, 3) := by decide +kernel
theorem dX13_holds_15 : decode cX13_holds 15 = .ok (.if_icmp .ge 24, 3) := by decide +kernel
theorem dX13_holds_18 : decode cX13_holds 18 = .ok (.aload_n 0, 1) := by decide +kernel
theorem dX13_holds_19 : decode cX13_holds 19 = .ok (.getfield 132, 3) := by decide +kernel
theorem dX13_holds_22 : decode cX13_holds 22 = .ok (.iload_n 1, 1) := by decide +kernel
theorem dX13_holds_23 : decode cX13_holds 23 = .ok (.aload_n 0, 1) := by decide +kernel
theorem dX13_holds_24 : decode cX13_holds 24 = .ok (.getfield 132, 3) := by decide +kernel
theorem dX13_holds_27 : decode cX13_holds 27 = .ok (.iload_n 1, 1) := by decide +kernel
theorem dX13_holds_28 : decode cX13_holds 28 = .ok (.bipush 23, 2) := by decide +kernel
theorem dX13_holds_30 : decode cX13_holds 30 = .ok (.iadd, 1) := by decide +kernel
theorem dX13_holds_31 : decode cX13_holds 31 = .ok (.iaload, 1) := by decide +kernel
theorem dX13_holds_32 : decode cX13_holds 32 = .ok (.iastore, 1) := by decide +kernel
theorem dX13_holds_33 : decode cX13_holds 33 = .ok (.iinc 1 1, 3) := by decide +kernel
theorem dX13_holds_36 : decode cX13_holds 36 = .ok (.goto (-25), 3) := by decide +kernel
theorem dX13_holds_39 : decode cX13_holds 39 = .ok (.aload_n 0, 1) := by decide +kernel
theorem dX13_holds_40 : decode cX13_holds 40 = .ok (.dup, 1) := by decide +kernel
theorem dX13_holds_41 : decode cX13_holds 41 = .ok (.getfield 393, 3) := by decide +kernel
theorem dX13_holds_44 : decode cX13_holds 44 = .ok (.iconst 1, 1) := by decide +kernel
theorem dX13_holds_45 : decode cX13_holds 45 = .ok (.isub, 1) := by decide +kernel
theorem dX13_holds_46 : decode cX13_holds 46 = .ok (.putfield 393, 3) := by decide +kernel
theorem dX13_holds_49 : decode cX13_holds 49 = .ok (.aload_n 0, 1) := by decide +kernel
theorem dX13_holds_50 : decode cX13_holds 50 = .ok (.getfield 120, 3) := by decide +kernel
theorem dX13_holds_53 : decode cX13_holds 53 = .ok (.iconst 0, 1) := by decide +kernel
theorem dX13_holds_54 : decode cX13_holds 54 = .ok (.aload_n 0, 1) := by decide +kernel
theorem dX13_holds_55 : decode cX13_holds 55 = .ok (.getfield 132, 3) := by decide +kernel
theorem dX13_holds_58 : decode cX13_holds 58 = .ok (.bipush 23, 2) := by decide +kernel
theorem dX13_holds_60 : decode cX13_holds 60 = .ok (.aload_n 0, 1) := by decide +kernel
theorem dX13_holds_61 : decode cX13_holds 61 = .ok (.getfield 393, 3) := by decide +kernel
theorem dX13_holds_64 : decode cX13_holds 64 = .ok (.imul, 1) := by decide +kernel
theorem dX13_holds_65 : decode cX13_holds 65 = .ok (.invokestatic 452, 3) := by decide +kernel
theorem dX13_holds_68 : decode cX13_holds 68 = .ok (.aload_n 0, 1) := by decide +kernel
theorem dX13_holds_69 : decode cX13_holds 69 = .ok (.dup, 1) := by decide +kernel
theorem dX13_holds_70 : decode cX13_holds 70 = .ok (.getfield 393, 3) := by decide +kernel
theorem dX13_holds_73 : decode cX13_holds 73 = .ok (.iconst 1, 1) := by decide +kernel
theorem dX13_holds_74 : decode cX13_holds 74 = .ok (.iadd, 1) := by decide +kernel
theorem dX13_holds_75 : decode cX13_holds 75 = .ok (.putfield 393, 3) := by decide +kernel
theorem dX13_holds_78 : decode cX13_holds 78 = .ok (.return_, 1) := by decide +kernel
theorem dX13_name_0 : decode cX13_name 0 = .ok (.aload_n 0, 1) := by decide +kernel
theorem dX13_name_1 : decode cX13_name 1 = .ok (.iconst 0, 1) := by decide +kernel
theorem dX13_name_2 : decode cX13_name 2 = .ok (.putfield 153, 3) := by decide +kernel
theorem dX13_name_5 : decode cX13_name 5 = .ok (.aload_n 0, 1) := by decide +kernel
theorem dX13_name_6 : decode cX13_name 6 = .ok (.iload_n 1, 1) := by decide +kernel
theorem dX13_name_7 : decode cX13_name 7 = .ok (.invokevirtual 443, 3) := by decide +kernel
theorem dX13_name_10 : decode cX13_name 10 = .ok (.ifCond .eq 29, 3) := by decide +kernel
theorem dX13_name_13 : decode cX13_name 13 = .ok (.aload_n 0, 1) := by decide +kernel
theorem dX13_name_14 : decode cX13_name 14 = .ok (.iload_n 2, 1) := by decide +kernel
theorem dX13_name_15 : decode cX13_name 15 = .ok (.invokevirtual 443, 3) := by decide +kernel
theorem dX13_name_18 : decode cX13_name 18 = .ok (.ifCond .eq 21, 3) := by decide +kernel
theorem dX13_name_21 : decode cX13_name 21 = .ok (.aload_n 0, 1) := by decide +kernel
theorem dX13_name_22 : decode cX13_name 22 = .ok (.getfield 120, 3) := by decide +kernel
theorem dX13_name_25 : decode cX13_name 25 = .ok (.iconst 1, 1) := by decide +kernel
theorem dX13_name_26 : decode cX13_name 26 = .ok (.iaload, 1) := by decide +kernel
theorem dX13_name_27 : decode cX13_name 27 = .ok (.ifCond .ge 12, 3) := by decide +kernel
theorem dX13_name_30 : decode cX13_name 30 = .ok (.aload_n 0, 1) := by decide +kernel
theorem dX13_name_31 : decode cX13_name 31 = .ok (.iload_n 1, 1) := by decide +kernel
theorem dX13_name_32 : decode cX13_name 32 = .ok (.iload_n 2, 1) := by decide +kernel
theorem dX13_name_33 : decode cX13_name 33 = .ok (.invokevirtual 449, 3) := by decide +kernel
theorem dX13_name_36 : decode cX13_name 36 = .ok (.ifCond .ne 5, 3) := by decide +kernel
theorem dX13_name_39 : decode cX13_name 39 = .ok (.iconst 0, 1) := by decide +kernel
theorem dX13_name_40 : decode cX13_name 40 = .ok (.ireturn, 1) := by decide +kernel
