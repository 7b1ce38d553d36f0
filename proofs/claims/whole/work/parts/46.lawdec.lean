theorem dL_0 : decode code 0 = .ok (.new 8, 3) := by decide +kernel
theorem dL_3 : decode code 3 = .ok (.dup, 1) := by decide +kernel
theorem dL_4 : decode code 4 = .ok (.invokespecial 64, 3) := by decide +kernel
theorem dL_7 : decode code 7 = .ok (.astore_n 1, 1) := by decide +kernel
theorem dL_8 : decode code 8 = .ok (.new 65, 3) := by decide +kernel
theorem dL_11 : decode code 11 = .ok (.dup, 1) := by decide +kernel
theorem dL_12 : decode code 12 = .ok (.invokespecial 67, 3) := by decide +kernel
theorem dL_15 : decode code 15 = .ok (.astore_n 2, 1) := by decide +kernel
theorem dL_16 : decode code 16 = .ok (.iconst 1, 1) := by decide +kernel
theorem dL_17 : decode code 17 = .ok (.newarray .long, 2) := by decide +kernel
theorem dL_19 : decode code 19 = .ok (.astore_n 3, 1) := by decide +kernel
theorem dL_20 : decode code 20 = .ok (.iconst 0, 1) := by decide +kernel
theorem dL_21 : decode code 21 = .ok (.istore 4, 2) := by decide +kernel
theorem dL_23 : decode code 23 = .ok (.iload 4, 2) := by decide +kernel
theorem dL_25 : decode code 25 = .ok (.aload_n 0, 1) := by decide +kernel
theorem dL_26 : decode code 26 = .ok (.arraylength, 1) := by decide +kernel
theorem dL_27 : decode code 27 = .ok (.bipush 7, 2) := by decide +kernel
theorem dL_29 : decode code 29 = .ok (.isub, 1) := by decide +kernel
theorem dL_30 : decode code 30 = .ok (.if_icmp .gt 1096, 3) := by decide +kernel
theorem dL_33 : decode code 33 = .ok (.aload_n 0, 1) := by decide +kernel
theorem dL_34 : decode code 34 = .ok (.iload 4, 2) := by decide +kernel
theorem dL_36 : decode code 36 = .ok (.iaload, 1) := by decide +kernel
theorem dL_37 : decode code 37 = .ok (.bipush 15, 2) := by decide +kernel
theorem dL_39 : decode code 39 = .ok (.iand, 1) := by decide +kernel
theorem dL_40 : decode code 40 = .ok (.tableswitch 1080 0 13 #[72, 197, 277, 357, 413, 476, 544, 636, 720, 776, 832, 900, 968, 1024], 72) := by decide +kernel
theorem dL_112 : decode code 112 = .ok (.aload_n 1, 1) := by decide +kernel
theorem dL_113 : decode code 113 = .ok (.aload_n 0, 1) := by decide +kernel
theorem dL_114 : decode code 114 = .ok (.iload 4, 2) := by decide +kernel
theorem dL_116 : decode code 116 = .ok (.iconst 1, 1) := by decide +kernel
theorem dL_117 : decode code 117 = .ok (.iadd, 1) := by decide +kernel
theorem dL_118 : decode code 118 = .ok (.iaload, 1) := by decide +kernel
theorem dL_119 : decode code 119 = .ok (.aload_n 0, 1) := by decide +kernel
theorem dL_120 : decode code 120 = .ok (.iload 4, 2) := by decide +kernel
theorem dL_122 : decode code 122 = .ok (.iconst 2, 1) := by decide +kernel
theorem dL_123 : decode code 123 = .ok (.iadd, 1) := by decide +kernel
theorem dL_124 : decode code 124 = .ok (.iaload, 1) := by decide +kernel
theorem dL_125 : decode code 125 = .ok (.aload_n 0, 1) := by decide +kernel
theorem dL_126 : decode code 126 = .ok (.iload 4, 2) := by decide +kernel
theorem dL_128 : decode code 128 = .ok (.iconst 3, 1) := by decide +kernel
theorem dL_129 : decode code 129 = .ok (.iadd, 1) := by decide +kernel
theorem dL_130 : decode code 130 = .ok (.iaload, 1) := by decide +kernel
theorem dL_131 : decode code 131 = .ok (.aload_n 0, 1) := by decide +kernel
theorem dL_132 : decode code 132 = .ok (.iload 4, 2) := by decide +kernel
theorem dL_134 : decode code 134 = .ok (.iconst 4, 1) := by decide +kernel
theorem dL_135 : decode code 135 = .ok (.iadd, 1) := by decide +kernel
theorem dL_136 : decode code 136 = .ok (.iaload, 1) := by decide +kernel
theorem dL_137 : decode code 137 = .ok (.aload_n 0, 1) := by decide +kernel
theorem dL_138 : decode code 138 = .ok (.iload 4, 2) := by decide +kernel
theorem dL_140 : decode code 140 = .ok (.iconst 5, 1) := by decide +kernel
theorem dL_141 : decode code 141 = .ok (.iadd, 1) := by decide +kernel
theorem dL_142 : decode code 142 = .ok (.iaload, 1) := by decide +kernel
theorem dL_143 : decode code 143 = .ok (.aload_n 0, 1) := by decide +kernel
theorem dL_144 : decode code 144 = .ok (.iload 4, 2) := by decide +kernel
theorem dL_146 : decode code 146 = .ok (.bipush 6, 2) := by decide +kernel
theorem dL_148 : decode code 148 = .ok (.iadd, 1) := by decide +kernel
theorem dL_149 : decode code 149 = .ok (.iaload, 1) := by decide +kernel
theorem dL_150 : decode code 150 = .ok (.aload_n 3, 1) := by decide +kernel
theorem dL_151 : decode code 151 = .ok (.invokestatic 68, 3) := by decide +kernel
theorem dL_154 : decode code 154 = .ok (.istore 5, 2) := by decide +kernel
theorem dL_156 : decode code 156 = .ok (.aload_n 2, 1) := by decide +kernel
theorem dL_157 : decode code 157 = .ok (.aload_n 0, 1) := by decide +kernel
theorem dL_158 : decode code 158 = .ok (.iload 4, 2) := by decide +kernel
theorem dL_160 : decode code 160 = .ok (.iconst 1, 1) := by decide +kernel
theorem dL_161 : decode code 161 = .ok (.iadd, 1) := by decide +kernel
theorem dL_162 : decode code 162 = .ok (.iaload, 1) := by decide +kernel
theorem dL_163 : decode code 163 = .ok (.aload_n 0, 1) := by decide +kernel
theorem dL_164 : decode code 164 = .ok (.iload 4, 2) := by decide +kernel
theorem dL_166 : decode code 166 = .ok (.iconst 2, 1) := by decide +kernel
theorem dL_167 : decode code 167 = .ok (.iadd, 1) := by decide +kernel
theorem dL_168 : decode code 168 = .ok (.iaload, 1) := by decide +kernel
theorem dL_169 : decode code 169 = .ok (.aload_n 0, 1) := by decide +kernel
theorem dL_170 : decode code 170 = .ok (.iload 4, 2) := by decide +kernel
theorem dL_172 : decode code 172 = .ok (.iconst 3, 1) := by decide +kernel
theorem dL_173 : decode code 173 = .ok (.iadd, 1) := by decide +kernel
theorem dL_174 : decode code 174 = .ok (.iaload, 1) := by decide +kernel
theorem dL_175 : decode code 175 = .ok (.aload_n 0, 1) := by decide +kernel
theorem dL_176 : decode code 176 = .ok (.iload 4, 2) := by decide +kernel
theorem dL_178 : decode code 178 = .ok (.iconst 4, 1) := by decide +kernel
theorem dL_179 : decode code 179 = .ok (.iadd, 1) := by decide +kernel
theorem dL_180 : decode code 180 = .ok (.iaload, 1) := by decide +kernel
theorem dL_181 : decode code 181 = .ok (.aload_n 0, 1) := by decide +kernel
theorem dL_182 : decode code 182 = .ok (.iload 4, 2) := by decide +kernel
theorem dL_184 : decode code 184 = .ok (.iconst 5, 1) := by decide +kernel
theorem dL_185 : decode code 185 = .ok (.iadd, 1) := by decide +kernel
theorem dL_186 : decode code 186 = .ok (.iaload, 1) := by decide +kernel
theorem dL_187 : decode code 187 = .ok (.aload_n 0, 1) := by decide +kernel
theorem dL_188 : decode code 188 = .ok (.iload 4, 2) := by decide +kernel
theorem dL_190 : decode code 190 = .ok (.bipush 6, 2) := by decide +kernel
theorem dL_192 : decode code 192 = .ok (.iadd, 1) := by decide +kernel
theorem dL_193 : decode code 193 = .ok (.iaload, 1) := by decide +kernel
theorem dL_194 : decode code 194 = .ok (.invokevirtual 73, 3) := by decide +kernel
theorem dL_197 : decode code 197 = .ok (.istore 6, 2) := by decide +kernel
theorem dL_199 : decode code 199 = .ok (.aload_n 2, 1) := by decide +kernel
theorem dL_200 : decode code 200 = .ok (.invokevirtual 74, 3) := by decide +kernel
theorem dL_203 : decode code 203 = .ok (.iload 5, 2) := by decide +kernel
theorem dL_205 : decode code 205 = .ok (.if_icmp .eq 5, 3) := by decide +kernel
theorem dL_208 : decode code 208 = .ok (.iconst 0, 1) := by decide +kernel
theorem dL_209 : decode code 209 = .ok (.ireturn, 1) := by decide +kernel
theorem dL_210 : decode code 210 = .ok (.iload 5, 2) := by decide +kernel
theorem dL_212 : decode code 212 = .ok (.ifCond .ne 22, 3) := by decide +kernel
theorem dL_215 : decode code 215 = .ok (.aload_n 3, 1) := by decide +kernel
theorem dL_216 : decode code 216 = .ok (.iconst 0, 1) := by decide +kernel
theorem dL_217 : decode code 217 = .ok (.laload, 1) := by decide +kernel
theorem dL_218 : decode code 218 = .ok (.iload 6, 2) := by decide +kernel
theorem dL_220 : decode code 220 = .ok (.ifCond .eq 7, 3) := by decide +kernel
theorem dL_223 : decode code 223 = .ok (.lconst 1, 1) := by decide +kernel
theorem dL_224 : decode code 224 = .ok (.goto 4, 3) := by decide +kernel
theorem dL_227 : decode code 227 = .ok (.lconst 0, 1) := by decide +kernel
theorem dL_228 : decode code 228 = .ok (.lcmp, 1) := by decide +kernel
theorem dL_229 : decode code 229 = .ok (.ifCond .eq 5, 3) := by decide +kernel
theorem dL_232 : decode code 232 = .ok (.iconst 0, 1) := by decide +kernel
theorem dL_233 : decode code 233 = .ok (.ireturn, 1) := by decide +kernel
theorem dL_234 : decode code 234 = .ok (.goto 886, 3) := by decide +kernel
theorem dL_237 : decode code 237 = .ok (.aload_n 1, 1) := by decide +kernel
theorem dL_238 : decode code 238 = .ok (.aload_n 0, 1) := by decide +kernel
theorem dL_239 : decode code 239 = .ok (.iload 4, 2) := by decide +kernel
theorem dL_241 : decode code 241 = .ok (.iconst 1, 1) := by decide +kernel
theorem dL_242 : decode code 242 = .ok (.iadd, 1) := by decide +kernel
theorem dL_243 : decode code 243 = .ok (.iaload, 1) := by decide +kernel
theorem dL_244 : decode code 244 = .ok (.aload_n 0, 1) := by decide +kernel
theorem dL_245 : decode code 245 = .ok (.iload 4, 2) := by decide +kernel
theorem dL_247 : decode code 247 = .ok (.iconst 2, 1) := by decide +kernel
theorem dL_248 : decode code 248 = .ok (.iadd, 1) := by decide +kernel
theorem dL_249 : decode code 249 = .ok (.iaload, 1) := by decide +kernel
theorem dL_250 : decode code 250 = .ok (.aload_n 0, 1) := by decide +kernel
theorem dL_251 : decode code 251 = .ok (.iload 4, 2) := by decide +kernel
theorem dL_253 : decode code 253 = .ok (.iconst 3, 1) := by decide +kernel
theorem dL_254 : decode code 254 = .ok (.iadd, 1) := by decide +kernel
theorem dL_255 : decode code 255 = .ok (.iaload, 1) := by decide +kernel
theorem dL_256 : decode code 256 = .ok (.aload_n 3, 1) := by decide +kernel
theorem dL_257 : decode code 257 = .ok (.invokestatic 78, 3) := by decide +kernel
theorem dL_260 : decode code 260 = .ok (.istore 5, 2) := by decide +kernel
theorem dL_262 : decode code 262 = .ok (.aload_n 2, 1) := by decide +kernel
theorem dL_263 : decode code 263 = .ok (.aload_n 0, 1) := by decide +kernel
theorem dL_264 : decode code 264 = .ok (.iload 4, 2) := by decide +kernel
theorem dL_266 : decode code 266 = .ok (.iconst 1, 1) := by decide +kernel
theorem dL_267 : decode code 267 = .ok (.iadd, 1) := by decide +kernel
theorem dL_268 : decode code 268 = .ok (.iaload, 1) := by decide +kernel
theorem dL_269 : decode code 269 = .ok (.aload_n 0, 1) := by decide +kernel
theorem dL_270 : decode code 270 = .ok (.iload 4, 2) := by decide +kernel
theorem dL_272 : decode code 272 = .ok (.iconst 2, 1) := by decide +kernel
theorem dL_273 : decode code 273 = .ok (.iadd, 1) := by decide +kernel
theorem dL_274 : decode code 274 = .ok (.iaload, 1) := by decide +kernel
theorem dL_275 : decode code 275 = .ok (.aload_n 0, 1) := by decide +kernel
theorem dL_276 : decode code 276 = .ok (.iload 4, 2) := by decide +kernel
theorem dL_278 : decode code 278 = .ok (.iconst 3, 1) := by decide +kernel
theorem dL_279 : decode code 279 = .ok (.iadd, 1) := by decide +kernel
theorem dL_280 : decode code 280 = .ok (.iaload, 1) := by decide +kernel
theorem dL_281 : decode code 281 = .ok (.invokevirtual 81, 3) := by decide +kernel
theorem dL_284 : decode code 284 = .ok (.istore 6, 2) := by decide +kernel
theorem dL_286 : decode code 286 = .ok (.aload_n 2, 1) := by decide +kernel
theorem dL_287 : decode code 287 = .ok (.invokevirtual 74, 3) := by decide +kernel
theorem dL_290 : decode code 290 = .ok (.iload 5, 2) := by decide +kernel
theorem dL_292 : decode code 292 = .ok (.if_icmp .eq 5, 3) := by decide +kernel
theorem dL_295 : decode code 295 = .ok (.iconst 0, 1) := by decide +kernel
theorem dL_296 : decode code 296 = .ok (.ireturn, 1) := by decide +kernel
theorem dL_297 : decode code 297 = .ok (.iload 5, 2) := by decide +kernel
theorem dL_299 : decode code 299 = .ok (.ifCond .ne 15, 3) := by decide +kernel
theorem dL_302 : decode code 302 = .ok (.aload_n 3, 1) := by decide +kernel
theorem dL_303 : decode code 303 = .ok (.iconst 0, 1) := by decide +kernel
theorem dL_304 : decode code 304 = .ok (.laload, 1) := by decide +kernel
theorem dL_305 : decode code 305 = .ok (.iload 6, 2) := by decide +kernel
theorem dL_307 : decode code 307 = .ok (.i2l, 1) := by decide +kernel
theorem dL_308 : decode code 308 = .ok (.lcmp, 1) := by decide +kernel
theorem dL_309 : decode code 309 = .ok (.ifCond .eq 5, 3) := by decide +kernel
theorem dL_312 : decode code 312 = .ok (.iconst 0, 1) := by decide +kernel
theorem dL_313 : decode code 313 = .ok (.ireturn, 1) := by decide +kernel
theorem dL_314 : decode code 314 = .ok (.goto 806, 3) := by decide +kernel
theorem dL_317 : decode code 317 = .ok (.aload_n 1, 1) := by decide +kernel
theorem dL_318 : decode code 318 = .ok (.aload_n 0, 1) := by decide +kernel
theorem dL_319 : decode code 319 = .ok (.iload 4, 2) := by decide +kernel
theorem dL_321 : decode code 321 = .ok (.iconst 1, 1) := by decide +kernel
theorem dL_322 : decode code 322 = .ok (.iadd, 1) := by decide +kernel
theorem dL_323 : decode code 323 = .ok (.iaload, 1) := by decide +kernel
theorem dL_324 : decode code 324 = .ok (.aload_n 0, 1) := by decide +kernel
theorem dL_325 : decode code 325 = .ok (.iload 4, 2) := by decide +kernel
theorem dL_327 : decode code 327 = .ok (.iconst 2, 1) := by decide +kernel
theorem dL_328 : decode code 328 = .ok (.iadd, 1) := by decide +kernel
theorem dL_329 : decode code 329 = .ok (.iaload, 1) := by decide +kernel
theorem dL_330 : decode code 330 = .ok (.aload_n 0, 1) := by decide +kernel
theorem dL_331 : decode code 331 = .ok (.iload 4, 2) := by decide +kernel
theorem dL_333 : decode code 333 = .ok (.iconst 3, 1) := by decide +kernel
theorem dL_334 : decode code 334 = .ok (.iadd, 1) := by decide +kernel
theorem dL_335 : decode code 335 = .ok (.iaload, 1) := by decide +kernel
theorem dL_336 : decode code 336 = .ok (.aload_n 3, 1) := by decide +kernel
theorem dL_337 : decode code 337 = .ok (.invokestatic 82, 3) := by decide +kernel
theorem dL_340 : decode code 340 = .ok (.istore 5, 2) := by decide +kernel
theorem dL_342 : decode code 342 = .ok (.aload_n 2, 1) := by decide +kernel
theorem dL_343 : decode code 343 = .ok (.aload_n 0, 1) := by decide +kernel
theorem dL_344 : decode code 344 = .ok (.iload 4, 2) := by decide +kernel
theorem dL_346 : decode code 346 = .ok (.iconst 1, 1) := by decide +kernel
theorem dL_347 : decode code 347 = .ok (.iadd, 1) := by decide +kernel
theorem dL_348 : decode code 348 = .ok (.iaload, 1) := by decide +kernel
theorem dL_349 : decode code 349 = .ok (.aload_n 0, 1) := by decide +kernel
theorem dL_350 : decode code 350 = .ok (.iload 4, 2) := by decide +kernel
theorem dL_352 : decode code 352 = .ok (.iconst 2, 1) := by decide +kernel
theorem dL_353 : decode code 353 = .ok (.iadd, 1) := by decide +kernel
theorem dL_354 : decode code 354 = .ok (.iaload, 1) := by decide +kernel
theorem dL_355 : decode code 355 = .ok (.aload_n 0, 1) := by decide +kernel
theorem dL_356 : decode code 356 = .ok (.iload 4, 2) := by decide +kernel
theorem dL_358 : decode code 358 = .ok (.iconst 3, 1) := by decide +kernel
theorem dL_359 : decode code 359 = .ok (.iadd, 1) := by decide +kernel
theorem dL_360 : decode code 360 = .ok (.iaload, 1) := by decide +kernel
theorem dL_361 : decode code 361 = .ok (.invokevirtual 84, 3) := by decide +kernel
theorem dL_364 : decode code 364 = .ok (.istore 6, 2) := by decide +kernel
theorem dL_366 : decode code 366 = .ok (.aload_n 2, 1) := by decide +kernel
theorem dL_367 : decode code 367 = .ok (.invokevirtual 74, 3) := by decide +kernel
theorem dL_370 : decode code 370 = .ok (.iload 5, 2) := by decide +kernel
theorem dL_372 : decode code 372 = .ok (.if_icmp .eq 5, 3) := by decide +kernel
theorem dL_375 : decode code 375 = .ok (.iconst 0, 1) := by decide +kernel
theorem dL_376 : decode code 376 = .ok (.ireturn, 1) := by decide +kernel
theorem dL_377 : decode code 377 = .ok (.iload 5, 2) := by decide +kernel
theorem dL_379 : decode code 379 = .ok (.ifCond .ne 15, 3) := by decide +kernel
theorem dL_382 : decode code 382 = .ok (.aload_n 3, 1) := by decide +kernel
theorem dL_383 : decode code 383 = .ok (.iconst 0, 1) := by decide +kernel
theorem dL_384 : decode code 384 = .ok (.laload, 1) := by decide +kernel
theorem dL_385 : decode code 385 = .ok (.iload 6, 2) := by decide +kernel
theorem dL_387 : decode code 387 = .ok (.i2l, 1) := by decide +kernel
theorem dL_388 : decode code 388 = .ok (.lcmp, 1) := by decide +kernel
theorem dL_389 : decode code 389 = .ok (.ifCond .eq 5, 3) := by decide +kernel
theorem dL_392 : decode code 392 = .ok (.iconst 0, 1) := by decide +kernel
theorem dL_393 : decode code 393 = .ok (.ireturn, 1) := by decide +kernel
theorem dL_394 : decode code 394 = .ok (.goto 726, 3) := by decide +kernel
theorem dL_397 : decode code 397 = .ok (.aload_n 1, 1) := by decide +kernel
theorem dL_398 : decode code 398 = .ok (.aload_n 0, 1) := by decide +kernel
theorem dL_399 : decode code 399 = .ok (.iload 4, 2) := by decide +kernel
theorem dL_401 : decode code 401 = .ok (.iconst 1, 1) := by decide +kernel
theorem dL_402 : decode code 402 = .ok (.iadd, 1) := by decide +kernel
theorem dL_403 : decode code 403 = .ok (.iaload, 1) := by decide +kernel
theorem dL_404 : decode code 404 = .ok (.aload_n 3, 1) := by decide +kernel
theorem dL_405 : decode code 405 = .ok (.invokestatic 85, 3) := by decide +kernel
theorem dL_408 : decode code 408 = .ok (.istore 5, 2) := by decide +kernel
theorem dL_410 : decode code 410 = .ok (.aload_n 2, 1) := by decide +kernel
theorem dL_411 : decode code 411 = .ok (.aload_n 0, 1) := by decide +kernel
theorem dL_412 : decode code 412 = .ok (.iload 4, 2) := by decide +kernel
theorem dL_414 : decode code 414 = .ok (.iconst 1, 1) := by decide +kernel
theorem dL_415 : decode code 415 = .ok (.iadd, 1) := by decide +kernel
theorem dL_416 : decode code 416 = .ok (.iaload, 1) := by decide +kernel
theorem dL_417 : decode code 417 = .ok (.invokevirtual 88, 3) := by decide +kernel
theorem dL_420 : decode code 420 = .ok (.istore 6, 2) := by decide +kernel
theorem dL_422 : decode code 422 = .ok (.aload_n 2, 1) := by decide +kernel
theorem dL_423 : decode code 423 = .ok (.invokevirtual 74, 3) := by decide +kernel
theorem dL_426 : decode code 426 = .ok (.iload 5, 2) := by decide +kernel
theorem dL_428 : decode code 428 = .ok (.if_icmp .eq 5, 3) := by decide +kernel
theorem dL_431 : decode code 431 = .ok (.iconst 0, 1) := by decide +kernel
theorem dL_432 : decode code 432 = .ok (.ireturn, 1) := by decide +kernel
theorem dL_433 : decode code 433 = .ok (.iload 5, 2) := by decide +kernel
theorem dL_435 : decode code 435 = .ok (.ifCond .ne 15, 3) := by decide +kernel
theorem dL_438 : decode code 438 = .ok (.aload_n 3, 1) := by decide +kernel
theorem dL_439 : decode code 439 = .ok (.iconst 0, 1) := by decide +kernel
theorem dL_440 : decode code 440 = .ok (.laload, 1) := by decide +kernel
theorem dL_441 : decode code 441 = .ok (.iload 6, 2) := by decide +kernel
theorem dL_443 : decode code 443 = .ok (.i2l, 1) := by decide +kernel
theorem dL_444 : decode code 444 = .ok (.lcmp, 1) := by decide +kernel
theorem dL_445 : decode code 445 = .ok (.ifCond .eq 5, 3) := by decide +kernel
theorem dL_448 : decode code 448 = .ok (.iconst 0, 1) := by decide +kernel
theorem dL_449 : decode code 449 = .ok (.ireturn, 1) := by decide +kernel
theorem dL_450 : decode code 450 = .ok (.goto 670, 3) := by decide +kernel
theorem dL_453 : decode code 453 = .ok (.aload_n 1, 1) := by decide +kernel
theorem dL_454 : decode code 454 = .ok (.aload_n 0, 1) := by decide +kernel
theorem dL_455 : decode code 455 = .ok (.iload 4, 2) := by decide +kernel
theorem dL_457 : decode code 457 = .ok (.iconst 1, 1) := by decide +kernel
theorem dL_458 : decode code 458 = .ok (.iadd, 1) := by decide +kernel
theorem dL_459 : decode code 459 = .ok (.iaload, 1) := by decide +kernel
theorem dL_460 : decode code 460 = .ok (.aload_n 3, 1) := by decide +kernel
theorem dL_461 : decode code 461 = .ok (.invokestatic 89, 3) := by decide +kernel
theorem dL_464 : decode code 464 = .ok (.istore 5, 2) := by decide +kernel
theorem dL_466 : decode code 466 = .ok (.aload_n 2, 1) := by decide +kernel
theorem dL_467 : decode code 467 = .ok (.aload_n 0, 1) := by decide +kernel
theorem dL_468 : decode code 468 = .ok (.iload 4, 2) := by decide +kernel
theorem dL_470 : decode code 470 = .ok (.iconst 1, 1) := by decide +kernel
theorem dL_471 : decode code 471 = .ok (.iadd, 1) := by decide +kernel
theorem dL_472 : decode code 472 = .ok (.iaload, 1) := by decide +kernel
theorem dL_473 : decode code 473 = .ok (.invokevirtual 91, 3) := by decide +kernel
theorem dL_476 : decode code 476 = .ok (.istore 6, 2) := by decide +kernel
theorem dL_478 : decode code 478 = .ok (.aload_n 2, 1) := by decide +kernel
theorem dL_479 : decode code 479 = .ok (.invokevirtual 74, 3) := by decide +kernel
theorem dL_482 : decode code 482 = .ok (.iload 5, 2) := by decide +kernel
theorem dL_484 : decode code 484 = .ok (.if_icmp .eq 5, 3) := by decide +kernel
theorem dL_487 : decode code 487 = .ok (.iconst 0, 1) := by decide +kernel
theorem dL_488 : decode code 488 = .ok (.ireturn, 1) := by decide +kernel
theorem dL_489 : decode code 489 = .ok (.iload 5, 2) := by decide +kernel
theorem dL_491 : decode code 491 = .ok (.ifCond .ne 22, 3) := by decide +kernel
theorem dL_494 : decode code 494 = .ok (.aload_n 3, 1) := by decide +kernel
theorem dL_495 : decode code 495 = .ok (.iconst 0, 1) := by decide +kernel
theorem dL_496 : decode code 496 = .ok (.laload, 1) := by decide +kernel
theorem dL_497 : decode code 497 = .ok (.iload 6, 2) := by decide +kernel
theorem dL_499 : decode code 499 = .ok (.ifCond .eq 7, 3) := by decide +kernel
theorem dL_502 : decode code 502 = .ok (.lconst 1, 1) := by decide +kernel
theorem dL_503 : decode code 503 = .ok (.goto 4, 3) := by decide +kernel
theorem dL_506 : decode code 506 = .ok (.lconst 0, 1) := by decide +kernel
theorem dL_507 : decode code 507 = .ok (.lcmp, 1) := by decide +kernel
theorem dL_508 : decode code 508 = .ok (.ifCond .eq 5, 3) := by decide +kernel
theorem dL_511 : decode code 511 = .ok (.iconst 0, 1) := by decide +kernel
theorem dL_512 : decode code 512 = .ok (.ireturn, 1) := by decide +kernel
theorem dL_513 : decode code 513 = .ok (.goto 607, 3) := by decide +kernel
theorem dL_516 : decode code 516 = .ok (.aload_n 1, 1) := by decide +kernel
theorem dL_517 : decode code 517 = .ok (.aload_n 0, 1) := by decide +kernel
theorem dL_518 : decode code 518 = .ok (.iload 4, 2) := by decide +kernel
theorem dL_520 : decode code 520 = .ok (.iconst 1, 1) := by decide +kernel
theorem dL_521 : decode code 521 = .ok (.iadd, 1) := by decide +kernel
theorem dL_522 : decode code 522 = .ok (.iaload, 1) := by decide +kernel
theorem dL_523 : decode code 523 = .ok (.aload_n 0, 1) := by decide +kernel
theorem dL_524 : decode code 524 = .ok (.iload 4, 2) := by decide +kernel
theorem dL_526 : decode code 526 = .ok (.iconst 2, 1) := by decide +kernel
theorem dL_527 : decode code 527 = .ok (.iadd, 1) := by decide +kernel
theorem dL_528 : decode code 528 = .ok (.iaload, 1) := by decide +kernel
theorem dL_529 : decode code 529 = .ok (.aload_n 3, 1) := by decide +kernel
theorem dL_530 : decode code 530 = .ok (.invokestatic 92, 3) := by decide +kernel
theorem dL_533 : decode code 533 = .ok (.istore 5, 2) := by decide +kernel
theorem dL_535 : decode code 535 = .ok (.aload_n 2, 1) := by decide +kernel
theorem dL_536 : decode code 536 = .ok (.aload_n 0, 1) := by decide +kernel
theorem dL_537 : decode code 537 = .ok (.iload 4, 2) := by decide +kernel
theorem dL_539 : decode code 539 = .ok (.iconst 1, 1) := by decide +kernel
theorem dL_540 : decode code 540 = .ok (.iadd, 1) := by decide +kernel
theorem dL_541 : decode code 541 = .ok (.iaload, 1) := by decide +kernel
theorem dL_542 : decode code 542 = .ok (.aload_n 0, 1) := by decide +kernel
theorem dL_543 : decode code 543 = .ok (.iload 4, 2) := by decide +kernel
theorem dL_545 : decode code 545 = .ok (.iconst 2, 1) := by decide +kernel
theorem dL_546 : decode code 546 = .ok (.iadd, 1) := by decide +kernel
theorem dL_547 : decode code 547 = .ok (.iaload, 1) := by decide +kernel
theorem dL_548 : decode code 548 = .ok (.invokevirtual 95, 3) := by decide +kernel
theorem dL_551 : decode code 551 = .ok (.istore 6, 2) := by decide +kernel
theorem dL_553 : decode code 553 = .ok (.aload_n 2, 1) := by decide +kernel
theorem dL_554 : decode code 554 = .ok (.invokevirtual 74, 3) := by decide +kernel
theorem dL_557 : decode code 557 = .ok (.iload 5, 2) := by decide +kernel
theorem dL_559 : decode code 559 = .ok (.if_icmp .eq 5, 3) := by decide +kernel
theorem dL_562 : decode code 562 = .ok (.iconst 0, 1) := by decide +kernel
theorem dL_563 : decode code 563 = .ok (.ireturn, 1) := by decide +kernel
theorem dL_564 : decode code 564 = .ok (.iload 5, 2) := by decide +kernel
theorem dL_566 : decode code 566 = .ok (.ifCond .ne 15, 3) := by decide +kernel
theorem dL_569 : decode code 569 = .ok (.aload_n 3, 1) := by decide +kernel
theorem dL_570 : decode code 570 = .ok (.iconst 0, 1) := by decide +kernel
theorem dL_571 : decode code 571 = .ok (.laload, 1) := by decide +kernel
theorem dL_572 : decode code 572 = .ok (.iload 6, 2) := by decide +kernel
theorem dL_574 : decode code 574 = .ok (.i2l, 1) := by decide +kernel
theorem dL_575 : decode code 575 = .ok (.lcmp, 1) := by decide +kernel
theorem dL_576 : decode code 576 = .ok (.ifCond .eq 5, 3) := by decide +kernel
theorem dL_579 : decode code 579 = .ok (.iconst 0, 1) := by decide +kernel
theorem dL_580 : decode code 580 = .ok (.ireturn, 1) := by decide +kernel
theorem dL_581 : decode code 581 = .ok (.goto 539, 3) := by decide +kernel
theorem dL_584 : decode code 584 = .ok (.aload_n 1, 1) := by decide +kernel
theorem dL_585 : decode code 585 = .ok (.aload_n 0, 1) := by decide +kernel
theorem dL_586 : decode code 586 = .ok (.iload 4, 2) := by decide +kernel
theorem dL_588 : decode code 588 = .ok (.iconst 1, 1) := by decide +kernel
theorem dL_589 : decode code 589 = .ok (.iadd, 1) := by decide +kernel
theorem dL_590 : decode code 590 = .ok (.iaload, 1) := by decide +kernel
theorem dL_591 : decode code 591 = .ok (.aload_n 0, 1) := by decide +kernel
theorem dL_592 : decode code 592 = .ok (.iload 4, 2) := by decide +kernel
theorem dL_594 : decode code 594 = .ok (.iconst 2, 1) := by decide +kernel
theorem dL_595 : decode code 595 = .ok (.iadd, 1) := by decide +kernel
theorem dL_596 : decode code 596 = .ok (.iaload, 1) := by decide +kernel
theorem dL_597 : decode code 597 = .ok (.aload_n 0, 1) := by decide +kernel
theorem dL_598 : decode code 598 = .ok (.iload 4, 2) := by decide +kernel
theorem dL_600 : decode code 600 = .ok (.iconst 3, 1) := by decide +kernel
theorem dL_601 : decode code 601 = .ok (.iadd, 1) := by decide +kernel
theorem dL_602 : decode code 602 = .ok (.iaload, 1) := by decide +kernel
theorem dL_603 : decode code 603 = .ok (.aload_n 0, 1) := by decide +kernel
theorem dL_604 : decode code 604 = .ok (.iload 4, 2) := by decide +kernel
theorem dL_606 : decode code 606 = .ok (.iconst 4, 1) := by decide +kernel
theorem dL_607 : decode code 607 = .ok (.iadd, 1) := by decide +kernel
theorem dL_608 : decode code 608 = .ok (.iaload, 1) := by decide +kernel
theorem dL_609 : decode code 609 = .ok (.aload_n 3, 1) := by decide +kernel
theorem dL_610 : decode code 610 = .ok (.invokestatic 96, 3) := by decide +kernel
theorem dL_613 : decode code 613 = .ok (.istore 5, 2) := by decide +kernel
theorem dL_615 : decode code 615 = .ok (.aload_n 2, 1) := by decide +kernel
theorem dL_616 : decode code 616 = .ok (.aload_n 0, 1) := by decide +kernel
theorem dL_617 : decode code 617 = .ok (.iload 4, 2) := by decide +kernel
theorem dL_619 : decode code 619 = .ok (.iconst 1, 1) := by decide +kernel
theorem dL_620 : decode code 620 = .ok (.iadd, 1) := by decide +kernel
theorem dL_621 : decode code 621 = .ok (.iaload, 1) := by decide +kernel
theorem dL_622 : decode code 622 = .ok (.aload_n 0, 1) := by decide +kernel
theorem dL_623 : decode code 623 = .ok (.iload 4, 2) := by decide +kernel
theorem dL_625 : decode code 625 = .ok (.iconst 2, 1) := by decide +kernel
theorem dL_626 : decode code 626 = .ok (.iadd, 1) := by decide +kernel
theorem dL_627 : decode code 627 = .ok (.iaload, 1) := by decide +kernel
theorem dL_628 : decode code 628 = .ok (.aload_n 0, 1) := by decide +kernel
theorem dL_629 : decode code 629 = .ok (.iload 4, 2) := by decide +kernel
theorem dL_631 : decode code 631 = .ok (.iconst 3, 1) := by decide +kernel
theorem dL_632 : decode code 632 = .ok (.iadd, 1) := by decide +kernel
theorem dL_633 : decode code 633 = .ok (.iaload, 1) := by decide +kernel
theorem dL_634 : decode code 634 = .ok (.aload_n 0, 1) := by decide +kernel
theorem dL_635 : decode code 635 = .ok (.iload 4, 2) := by decide +kernel
theorem dL_637 : decode code 637 = .ok (.iconst 4, 1) := by decide +kernel
theorem dL_638 : decode code 638 = .ok (.iadd, 1) := by decide +kernel
theorem dL_639 : decode code 639 = .ok (.iaload, 1) := by decide +kernel
theorem dL_640 : decode code 640 = .ok (.invokevirtual 99, 3) := by decide +kernel
theorem dL_643 : decode code 643 = .ok (.istore 6, 2) := by decide +kernel
theorem dL_645 : decode code 645 = .ok (.aload_n 2, 1) := by decide +kernel
theorem dL_646 : decode code 646 = .ok (.invokevirtual 74, 3) := by decide +kernel
theorem dL_649 : decode code 649 = .ok (.iload 5, 2) := by decide +kernel
theorem dL_651 : decode code 651 = .ok (.if_icmp .eq 5, 3) := by decide +kernel
theorem dL_654 : decode code 654 = .ok (.iconst 0, 1) := by decide +kernel
theorem dL_655 : decode code 655 = .ok (.ireturn, 1) := by decide +kernel
theorem dL_656 : decode code 656 = .ok (.iload 5, 2) := by decide +kernel
theorem dL_658 : decode code 658 = .ok (.ifCond .ne 15, 3) := by decide +kernel
theorem dL_661 : decode code 661 = .ok (.aload_n 3, 1) := by decide +kernel
theorem dL_662 : decode code 662 = .ok (.iconst 0, 1) := by decide +kernel
theorem dL_663 : decode code 663 = .ok (.laload, 1) := by decide +kernel
theorem dL_664 : decode code 664 = .ok (.iload 6, 2) := by decide +kernel
theorem dL_666 : decode code 666 = .ok (.i2l, 1) := by decide +kernel
theorem dL_667 : decode code 667 = .ok (.lcmp, 1) := by decide +kernel
theorem dL_668 : decode code 668 = .ok (.ifCond .eq 5, 3) := by decide +kernel
theorem dL_671 : decode code 671 = .ok (.iconst 0, 1) := by decide +kernel
theorem dL_672 : decode code 672 = .ok (.ireturn, 1) := by decide +kernel
theorem dL_673 : decode code 673 = .ok (.goto 447, 3) := by decide +kernel
theorem dL_676 : decode code 676 = .ok (.aload_n 1, 1) := by decide +kernel
theorem dL_677 : decode code 677 = .ok (.aload_n 0, 1) := by decide +kernel
theorem dL_678 : decode code 678 = .ok (.iload 4, 2) := by decide +kernel
theorem dL_680 : decode code 680 = .ok (.iconst 1, 1) := by decide +kernel
theorem dL_681 : decode code 681 = .ok (.iadd, 1) := by decide +kernel
theorem dL_682 : decode code 682 = .ok (.iaload, 1) := by decide +kernel
theorem dL_683 : decode code 683 = .ok (.aload_n 0, 1) := by decide +kernel
theorem dL_684 : decode code 684 = .ok (.iload 4, 2) := by decide +kernel
theorem dL_686 : decode code 686 = .ok (.iconst 2, 1) := by decide +kernel
theorem dL_687 : decode code 687 = .ok (.iadd, 1) := by decide +kernel
theorem dL_688 : decode code 688 = .ok (.iaload, 1) := by decide +kernel
theorem dL_689 : decode code 689 = .ok (.aload_n 0, 1) := by decide +kernel
theorem dL_690 : decode code 690 = .ok (.iload 4, 2) := by decide +kernel
theorem dL_692 : decode code 692 = .ok (.iconst 3, 1) := by decide +kernel
theorem dL_693 : decode code 693 = .ok (.iadd, 1) := by decide +kernel
theorem dL_694 : decode code 694 = .ok (.iaload, 1) := by decide +kernel
theorem dL_695 : decode code 695 = .ok (.aload_n 0, 1) := by decide +kernel
theorem dL_696 : decode code 696 = .ok (.iload 4, 2) := by decide +kernel
theorem dL_698 : decode code 698 = .ok (.iconst 4, 1) := by decide +kernel
theorem dL_699 : decode code 699 = .ok (.iadd, 1) := by decide +kernel
theorem dL_700 : decode code 700 = .ok (.iaload, 1) := by decide +kernel
theorem dL_701 : decode code 701 = .ok (.aload_n 0, 1) := by decide +kernel
theorem dL_702 : decode code 702 = .ok (.iload 4, 2) := by decide +kernel
theorem dL_704 : decode code 704 = .ok (.iconst 5, 1) := by decide +kernel
theorem dL_705 : decode code 705 = .ok (.iadd, 1) := by decide +kernel
theorem dL_706 : decode code 706 = .ok (.iaload, 1) := by decide +kernel
theorem dL_707 : decode code 707 = .ok (.invokestatic 100, 3) := by decide +kernel
theorem dL_710 : decode code 710 = .ok (.istore 5, 2) := by decide +kernel
theorem dL_712 : decode code 712 = .ok (.aload_n 2, 1) := by decide +kernel
theorem dL_713 : decode code 713 = .ok (.aload_n 0, 1) := by decide +kernel
theorem dL_714 : decode code 714 = .ok (.iload 4, 2) := by decide +kernel
theorem dL_716 : decode code 716 = .ok (.iconst 1, 1) := by decide +kernel
theorem dL_717 : decode code 717 = .ok (.iadd, 1) := by decide +kernel
theorem dL_718 : decode code 718 = .ok (.iaload, 1) := by decide +kernel
theorem dL_719 : decode code 719 = .ok (.aload_n 0, 1) := by decide +kernel
theorem dL_720 : decode code 720 = .ok (.iload 4, 2) := by decide +kernel
theorem dL_722 : decode code 722 = .ok (.iconst 2, 1) := by decide +kernel
theorem dL_723 : decode code 723 = .ok (.iadd, 1) := by decide +kernel
theorem dL_724 : decode code 724 = .ok (.iaload, 1) := by decide +kernel
theorem dL_725 : decode code 725 = .ok (.aload_n 0, 1) := by decide +kernel
theorem dL_726 : decode code 726 = .ok (.iload 4, 2) := by decide +kernel
theorem dL_728 : decode code 728 = .ok (.iconst 3, 1) := by decide +kernel
theorem dL_729 : decode code 729 = .ok (.iadd, 1) := by decide +kernel
theorem dL_730 : decode code 730 = .ok (.iaload, 1) := by decide +kernel
theorem dL_731 : decode code 731 = .ok (.aload_n 0, 1) := by decide +kernel
theorem dL_732 : decode code 732 = .ok (.iload 4, 2) := by decide +kernel
theorem dL_734 : decode code 734 = .ok (.iconst 4, 1) := by decide +kernel
theorem dL_735 : decode code 735 = .ok (.iadd, 1) := by decide +kernel
theorem dL_736 : decode code 736 = .ok (.iaload, 1) := by decide +kernel
theorem dL_737 : decode code 737 = .ok (.aload_n 0, 1) := by decide +kernel
theorem dL_738 : decode code 738 = .ok (.iload 4, 2) := by decide +kernel
theorem dL_740 : decode code 740 = .ok (.iconst 5, 1) := by decide +kernel
theorem dL_741 : decode code 741 = .ok (.iadd, 1) := by decide +kernel
theorem dL_742 : decode code 742 = .ok (.iaload, 1) := by decide +kernel
theorem dL_743 : decode code 743 = .ok (.invokevirtual 103, 3) := by decide +kernel
theorem dL_746 : decode code 746 = .ok (.aload_n 2, 1) := by decide +kernel
theorem dL_747 : decode code 747 = .ok (.invokevirtual 74, 3) := by decide +kernel
theorem dL_750 : decode code 750 = .ok (.iload 5, 2) := by decide +kernel
theorem dL_752 : decode code 752 = .ok (.if_icmp .eq 5, 3) := by decide +kernel
theorem dL_755 : decode code 755 = .ok (.iconst 0, 1) := by decide +kernel
theorem dL_756 : decode code 756 = .ok (.ireturn, 1) := by decide +kernel
theorem dL_757 : decode code 757 = .ok (.goto 363, 3) := by decide +kernel
theorem dL_760 : decode code 760 = .ok (.aload_n 1, 1) := by decide +kernel
theorem dL_761 : decode code 761 = .ok (.aload_n 0, 1) := by decide +kernel
theorem dL_762 : decode code 762 = .ok (.iload 4, 2) := by decide +kernel
theorem dL_764 : decode code 764 = .ok (.iconst 1, 1) := by decide +kernel
theorem dL_765 : decode code 765 = .ok (.iadd, 1) := by decide +kernel
theorem dL_766 : decode code 766 = .ok (.iaload, 1) := by decide +kernel
theorem dL_767 : decode code 767 = .ok (.aload_n 3, 1) := by decide +kernel
theorem dL_768 : decode code 768 = .ok (.invokestatic 104, 3) := by decide +kernel
theorem dL_771 : decode code 771 = .ok (.istore 5, 2) := by decide +kernel
theorem dL_773 : decode code 773 = .ok (.aload_n 2, 1) := by decide +kernel
theorem dL_774 : decode code 774 = .ok (.aload_n 0, 1) := by decide +kernel
theorem dL_775 : decode code 775 = .ok (.iload 4, 2) := by decide +kernel
theorem dL_777 : decode code 777 = .ok (.iconst 1, 1) := by decide +kernel
theorem dL_778 : decode code 778 = .ok (.iadd, 1) := by decide +kernel
theorem dL_779 : decode code 779 = .ok (.iaload, 1) := by decide +kernel
theorem dL_780 : decode code 780 = .ok (.invokevirtual 106, 3) := by decide +kernel
theorem dL_783 : decode code 783 = .ok (.istore 6, 2) := by decide +kernel
theorem dL_785 : decode code 785 = .ok (.aload_n 2, 1) := by decide +kernel
theorem dL_786 : decode code 786 = .ok (.invokevirtual 74, 3) := by decide +kernel
theorem dL_789 : decode code 789 = .ok (.iload 5, 2) := by decide +kernel
theorem dL_791 : decode code 791 = .ok (.if_icmp .eq 5, 3) := by decide +kernel
theorem dL_794 : decode code 794 = .ok (.iconst 0, 1) := by decide +kernel
theorem dL_795 : decode code 795 = .ok (.ireturn, 1) := by decide +kernel
theorem dL_796 : decode code 796 = .ok (.iload 5, 2) := by decide +kernel
theorem dL_798 : decode code 798 = .ok (.ifCond .ne 15, 3) := by decide +kernel
theorem dL_801 : decode code 801 = .ok (.aload_n 3, 1) := by decide +kernel
theorem dL_802 : decode code 802 = .ok (.iconst 0, 1) := by decide +kernel
theorem dL_803 : decode code 803 = .ok (.laload, 1) := by decide +kernel
theorem dL_804 : decode code 804 = .ok (.iload 6, 2) := by decide +kernel
theorem dL_806 : decode code 806 = .ok (.i2l, 1) := by decide +kernel
theorem dL_807 : decode code 807 = .ok (.lcmp, 1) := by decide +kernel
theorem dL_808 : decode code 808 = .ok (.ifCond .eq 5, 3) := by decide +kernel
theorem dL_811 : decode code 811 = .ok (.iconst 0, 1) := by decide +kernel
theorem dL_812 : decode code 812 = .ok (.ireturn, 1) := by decide +kernel
theorem dL_813 : decode code 813 = .ok (.goto 307, 3) := by decide +kernel
theorem dL_816 : decode code 816 = .ok (.aload_n 1, 1) := by decide +kernel
theorem dL_817 : decode code 817 = .ok (.aload_n 0, 1) := by decide +kernel
theorem dL_818 : decode code 818 = .ok (.iload 4, 2) := by decide +kernel
theorem dL_820 : decode code 820 = .ok (.iconst 1, 1) := by decide +kernel
theorem dL_821 : decode code 821 = .ok (.iadd, 1) := by decide +kernel
theorem dL_822 : decode code 822 = .ok (.iaload, 1) := by decide +kernel
theorem dL_823 : decode code 823 = .ok (.aload_n 3, 1) := by decide +kernel
theorem dL_824 : decode code 824 = .ok (.invokestatic 107, 3) := by decide +kernel
theorem dL_827 : decode code 827 = .ok (.istore 5, 2) := by decide +kernel
theorem dL_829 : decode code 829 = .ok (.aload_n 2, 1) := by decide +kernel
theorem dL_830 : decode code 830 = .ok (.aload_n 0, 1) := by decide +kernel
theorem dL_831 : decode code 831 = .ok (.iload 4, 2) := by decide +kernel
theorem dL_833 : decode code 833 = .ok (.iconst 1, 1) := by decide +kernel
theorem dL_834 : decode code 834 = .ok (.iadd, 1) := by decide +kernel
theorem dL_835 : decode code 835 = .ok (.iaload, 1) := by decide +kernel
theorem dL_836 : decode code 836 = .ok (.invokevirtual 109, 3) := by decide +kernel
theorem dL_839 : decode code 839 = .ok (.istore 6, 2) := by decide +kernel
theorem dL_841 : decode code 841 = .ok (.aload_n 2, 1) := by decide +kernel
theorem dL_842 : decode code 842 = .ok (.invokevirtual 74, 3) := by decide +kernel
theorem dL_845 : decode code 845 = .ok (.iload 5, 2) := by decide +kernel
theorem dL_847 : decode code 847 = .ok (.if_icmp .eq 5, 3) := by decide +kernel
theorem dL_850 : decode code 850 = .ok (.iconst 0, 1) := by decide +kernel
theorem dL_851 : decode code 851 = .ok (.ireturn, 1) := by decide +kernel
theorem dL_852 : decode code 852 = .ok (.iload 5, 2) := by decide +kernel
theorem dL_854 : decode code 854 = .ok (.ifCond .ne 15, 3) := by decide +kernel
theorem dL_857 : decode code 857 = .ok (.aload_n 3, 1) := by decide +kernel
theorem dL_858 : decode code 858 = .ok (.iconst 0, 1) := by decide +kernel
theorem dL_859 : decode code 859 = .ok (.laload, 1) := by decide +kernel
theorem dL_860 : decode code 860 = .ok (.iload 6, 2) := by decide +kernel
theorem dL_862 : decode code 862 = .ok (.i2l, 1) := by decide +kernel
theorem dL_863 : decode code 863 = .ok (.lcmp, 1) := by decide +kernel
theorem dL_864 : decode code 864 = .ok (.ifCond .eq 5, 3) := by decide +kernel
theorem dL_867 : decode code 867 = .ok (.iconst 0, 1) := by decide +kernel
theorem dL_868 : decode code 868 = .ok (.ireturn, 1) := by decide +kernel
theorem dL_869 : decode code 869 = .ok (.goto 251, 3) := by decide +kernel
theorem dL_872 : decode code 872 = .ok (.aload_n 1, 1) := by decide +kernel
theorem dL_873 : decode code 873 = .ok (.aload_n 0, 1) := by decide +kernel
theorem dL_874 : decode code 874 = .ok (.iload 4, 2) := by decide +kernel
theorem dL_876 : decode code 876 = .ok (.iconst 1, 1) := by decide +kernel
theorem dL_877 : decode code 877 = .ok (.iadd, 1) := by decide +kernel
theorem dL_878 : decode code 878 = .ok (.iaload, 1) := by decide +kernel
theorem dL_879 : decode code 879 = .ok (.aload_n 0, 1) := by decide +kernel
theorem dL_880 : decode code 880 = .ok (.iload 4, 2) := by decide +kernel
theorem dL_882 : decode code 882 = .ok (.iconst 2, 1) := by decide +kernel
theorem dL_883 : decode code 883 = .ok (.iadd, 1) := by decide +kernel
theorem dL_884 : decode code 884 = .ok (.iaload, 1) := by decide +kernel
theorem dL_885 : decode code 885 = .ok (.aload_n 3, 1) := by decide +kernel
theorem dL_886 : decode code 886 = .ok (.invokestatic 110, 3) := by decide +kernel
theorem dL_889 : decode code 889 = .ok (.istore 5, 2) := by decide +kernel
theorem dL_891 : decode code 891 = .ok (.aload_n 2, 1) := by decide +kernel
theorem dL_892 : decode code 892 = .ok (.aload_n 0, 1) := by decide +kernel
theorem dL_893 : decode code 893 = .ok (.iload 4, 2) := by decide +kernel
theorem dL_895 : decode code 895 = .ok (.iconst 1, 1) := by decide +kernel
theorem dL_896 : decode code 896 = .ok (.iadd, 1) := by decide +kernel
theorem dL_897 : decode code 897 = .ok (.iaload, 1) := by decide +kernel
theorem dL_898 : decode code 898 = .ok (.aload_n 0, 1) := by decide +kernel
theorem dL_899 : decode code 899 = .ok (.iload 4, 2) := by decide +kernel
theorem dL_901 : decode code 901 = .ok (.iconst 2, 1) := by decide +kernel
theorem dL_902 : decode code 902 = .ok (.iadd, 1) := by decide +kernel
theorem dL_903 : decode code 903 = .ok (.iaload, 1) := by decide +kernel
theorem dL_904 : decode code 904 = .ok (.invokevirtual 112, 3) := by decide +kernel
theorem dL_907 : decode code 907 = .ok (.istore 6, 2) := by decide +kernel
theorem dL_909 : decode code 909 = .ok (.aload_n 2, 1) := by decide +kernel
theorem dL_910 : decode code 910 = .ok (.invokevirtual 74, 3) := by decide +kernel
theorem dL_913 : decode code 913 = .ok (.iload 5, 2) := by decide +kernel
theorem dL_915 : decode code 915 = .ok (.if_icmp .eq 5, 3) := by decide +kernel
theorem dL_918 : decode code 918 = .ok (.iconst 0, 1) := by decide +kernel
theorem dL_919 : decode code 919 = .ok (.ireturn, 1) := by decide +kernel
theorem dL_920 : decode code 920 = .ok (.iload 5, 2) := by decide +kernel
theorem dL_922 : decode code 922 = .ok (.ifCond .ne 15, 3) := by decide +kernel
theorem dL_925 : decode code 925 = .ok (.aload_n 3, 1) := by decide +kernel
theorem dL_926 : decode code 926 = .ok (.iconst 0, 1) := by decide +kernel
theorem dL_927 : decode code 927 = .ok (.laload, 1) := by decide +kernel
theorem dL_928 : decode code 928 = .ok (.iload 6, 2) := by decide +kernel
theorem dL_930 : decode code 930 = .ok (.i2l, 1) := by decide +kernel
theorem dL_931 : decode code 931 = .ok (.lcmp, 1) := by decide +kernel
theorem dL_932 : decode code 932 = .ok (.ifCond .eq 5, 3) := by decide +kernel
theorem dL_935 : decode code 935 = .ok (.iconst 0, 1) := by decide +kernel
theorem dL_936 : decode code 936 = .ok (.ireturn, 1) := by decide +kernel
theorem dL_937 : decode code 937 = .ok (.goto 183, 3) := by decide +kernel
theorem dL_940 : decode code 940 = .ok (.aload_n 1, 1) := by decide +kernel
theorem dL_941 : decode code 941 = .ok (.aload_n 0, 1) := by decide +kernel
theorem dL_942 : decode code 942 = .ok (.iload 4, 2) := by decide +kernel
theorem dL_944 : decode code 944 = .ok (.iconst 1, 1) := by decide +kernel
theorem dL_945 : decode code 945 = .ok (.iadd, 1) := by decide +kernel
theorem dL_946 : decode code 946 = .ok (.iaload, 1) := by decide +kernel
theorem dL_947 : decode code 947 = .ok (.aload_n 0, 1) := by decide +kernel
theorem dL_948 : decode code 948 = .ok (.iload 4, 2) := by decide +kernel
theorem dL_950 : decode code 950 = .ok (.iconst 2, 1) := by decide +kernel
theorem dL_951 : decode code 951 = .ok (.iadd, 1) := by decide +kernel
theorem dL_952 : decode code 952 = .ok (.iaload, 1) := by decide +kernel
theorem dL_953 : decode code 953 = .ok (.aload_n 3, 1) := by decide +kernel
theorem dL_954 : decode code 954 = .ok (.invokestatic 113, 3) := by decide +kernel
theorem dL_957 : decode code 957 = .ok (.istore 5, 2) := by decide +kernel
theorem dL_959 : decode code 959 = .ok (.aload_n 2, 1) := by decide +kernel
theorem dL_960 : decode code 960 = .ok (.aload_n 0, 1) := by decide +kernel
theorem dL_961 : decode code 961 = .ok (.iload 4, 2) := by decide +kernel
theorem dL_963 : decode code 963 = .ok (.iconst 1, 1) := by decide +kernel
theorem dL_964 : decode code 964 = .ok (.iadd, 1) := by decide +kernel
theorem dL_965 : decode code 965 = .ok (.iaload, 1) := by decide +kernel
theorem dL_966 : decode code 966 = .ok (.aload_n 0, 1) := by decide +kernel
theorem dL_967 : decode code 967 = .ok (.iload 4, 2) := by decide +kernel
theorem dL_969 : decode code 969 = .ok (.iconst 2, 1) := by decide +kernel
theorem dL_970 : decode code 970 = .ok (.iadd, 1) := by decide +kernel
theorem dL_971 : decode code 971 = .ok (.iaload, 1) := by decide +kernel
theorem dL_972 : decode code 972 = .ok (.invokevirtual 115, 3) := by decide +kernel
theorem dL_975 : decode code 975 = .ok (.istore 6, 2) := by decide +kernel
theorem dL_977 : decode code 977 = .ok (.aload_n 2, 1) := by decide +kernel
theorem dL_978 : decode code 978 = .ok (.invokevirtual 74, 3) := by decide +kernel
theorem dL_981 : decode code 981 = .ok (.iload 5, 2) := by decide +kernel
theorem dL_983 : decode code 983 = .ok (.if_icmp .eq 5, 3) := by decide +kernel
theorem dL_986 : decode code 986 = .ok (.iconst 0, 1) := by decide +kernel
theorem dL_987 : decode code 987 = .ok (.ireturn, 1) := by decide +kernel
theorem dL_988 : decode code 988 = .ok (.iload 5, 2) := by decide +kernel
theorem dL_990 : decode code 990 = .ok (.ifCond .ne 15, 3) := by decide +kernel
theorem dL_993 : decode code 993 = .ok (.aload_n 3, 1) := by decide +kernel
theorem dL_994 : decode code 994 = .ok (.iconst 0, 1) := by decide +kernel
theorem dL_995 : decode code 995 = .ok (.laload, 1) := by decide +kernel
theorem dL_996 : decode code 996 = .ok (.iload 6, 2) := by decide +kernel
theorem dL_998 : decode code 998 = .ok (.i2l, 1) := by decide +kernel
theorem dL_999 : decode code 999 = .ok (.lcmp, 1) := by decide +kernel
theorem dL_1000 : decode code 1000 = .ok (.ifCond .eq 5, 3) := by decide +kernel
theorem dL_1003 : decode code 1003 = .ok (.iconst 0, 1) := by decide +kernel
theorem dL_1004 : decode code 1004 = .ok (.ireturn, 1) := by decide +kernel
theorem dL_1005 : decode code 1005 = .ok (.goto 115, 3) := by decide +kernel
theorem dL_1008 : decode code 1008 = .ok (.aload_n 1, 1) := by decide +kernel
theorem dL_1009 : decode code 1009 = .ok (.aload_n 0, 1) := by decide +kernel
theorem dL_1010 : decode code 1010 = .ok (.iload 4, 2) := by decide +kernel
theorem dL_1012 : decode code 1012 = .ok (.iconst 1, 1) := by decide +kernel
theorem dL_1013 : decode code 1013 = .ok (.iadd, 1) := by decide +kernel
theorem dL_1014 : decode code 1014 = .ok (.iaload, 1) := by decide +kernel
theorem dL_1015 : decode code 1015 = .ok (.aload_n 3, 1) := by decide +kernel
theorem dL_1016 : decode code 1016 = .ok (.invokestatic 116, 3) := by decide +kernel
theorem dL_1019 : decode code 1019 = .ok (.istore 5, 2) := by decide +kernel
theorem dL_1021 : decode code 1021 = .ok (.aload_n 2, 1) := by decide +kernel
theorem dL_1022 : decode code 1022 = .ok (.aload_n 0, 1) := by decide +kernel
theorem dL_1023 : decode code 1023 = .ok (.iload 4, 2) := by decide +kernel
theorem dL_1025 : decode code 1025 = .ok (.iconst 1, 1) := by decide +kernel
theorem dL_1026 : decode code 1026 = .ok (.iadd, 1) := by decide +kernel
theorem dL_1027 : decode code 1027 = .ok (.iaload, 1) := by decide +kernel
theorem dL_1028 : decode code 1028 = .ok (.invokevirtual 118, 3) := by decide +kernel
theorem dL_1031 : decode code 1031 = .ok (.istore 6, 2) := by decide +kernel
theorem dL_1033 : decode code 1033 = .ok (.aload_n 2, 1) := by decide +kernel
theorem dL_1034 : decode code 1034 = .ok (.invokevirtual 74, 3) := by decide +kernel
theorem dL_1037 : decode code 1037 = .ok (.iload 5, 2) := by decide +kernel
theorem dL_1039 : decode code 1039 = .ok (.if_icmp .eq 5, 3) := by decide +kernel
theorem dL_1042 : decode code 1042 = .ok (.iconst 0, 1) := by decide +kernel
theorem dL_1043 : decode code 1043 = .ok (.ireturn, 1) := by decide +kernel
theorem dL_1044 : decode code 1044 = .ok (.iload 5, 2) := by decide +kernel
theorem dL_1046 : decode code 1046 = .ok (.ifCond .ne 15, 3) := by decide +kernel
theorem dL_1049 : decode code 1049 = .ok (.aload_n 3, 1) := by decide +kernel
theorem dL_1050 : decode code 1050 = .ok (.iconst 0, 1) := by decide +kernel
theorem dL_1051 : decode code 1051 = .ok (.laload, 1) := by decide +kernel
theorem dL_1052 : decode code 1052 = .ok (.iload 6, 2) := by decide +kernel
theorem dL_1054 : decode code 1054 = .ok (.i2l, 1) := by decide +kernel
theorem dL_1055 : decode code 1055 = .ok (.lcmp, 1) := by decide +kernel
theorem dL_1056 : decode code 1056 = .ok (.ifCond .eq 5, 3) := by decide +kernel
theorem dL_1059 : decode code 1059 = .ok (.iconst 0, 1) := by decide +kernel
theorem dL_1060 : decode code 1060 = .ok (.ireturn, 1) := by decide +kernel
theorem dL_1061 : decode code 1061 = .ok (.goto 59, 3) := by decide +kernel
theorem dL_1064 : decode code 1064 = .ok (.aload_n 1, 1) := by decide +kernel
theorem dL_1065 : decode code 1065 = .ok (.aload_n 0, 1) := by decide +kernel
theorem dL_1066 : decode code 1066 = .ok (.iload 4, 2) := by decide +kernel
theorem dL_1068 : decode code 1068 = .ok (.iconst 1, 1) := by decide +kernel
theorem dL_1069 : decode code 1069 = .ok (.iadd, 1) := by decide +kernel
theorem dL_1070 : decode code 1070 = .ok (.iaload, 1) := by decide +kernel
theorem dL_1071 : decode code 1071 = .ok (.aload_n 3, 1) := by decide +kernel
theorem dL_1072 : decode code 1072 = .ok (.invokestatic 119, 3) := by decide +kernel
theorem dL_1075 : decode code 1075 = .ok (.istore 5, 2) := by decide +kernel
theorem dL_1077 : decode code 1077 = .ok (.aload_n 2, 1) := by decide +kernel
theorem dL_1078 : decode code 1078 = .ok (.aload_n 0, 1) := by decide +kernel
theorem dL_1079 : decode code 1079 = .ok (.iload 4, 2) := by decide +kernel
theorem dL_1081 : decode code 1081 = .ok (.iconst 1, 1) := by decide +kernel
theorem dL_1082 : decode code 1082 = .ok (.iadd, 1) := by decide +kernel
theorem dL_1083 : decode code 1083 = .ok (.iaload, 1) := by decide +kernel
theorem dL_1084 : decode code 1084 = .ok (.invokevirtual 121, 3) := by decide +kernel
theorem dL_1087 : decode code 1087 = .ok (.istore 6, 2) := by decide +kernel
theorem dL_1089 : decode code 1089 = .ok (.aload_n 2, 1) := by decide +kernel
theorem dL_1090 : decode code 1090 = .ok (.invokevirtual 74, 3) := by decide +kernel
theorem dL_1093 : decode code 1093 = .ok (.iload 5, 2) := by decide +kernel
theorem dL_1095 : decode code 1095 = .ok (.if_icmp .eq 5, 3) := by decide +kernel
theorem dL_1098 : decode code 1098 = .ok (.iconst 0, 1) := by decide +kernel
theorem dL_1099 : decode code 1099 = .ok (.ireturn, 1) := by decide +kernel
theorem dL_1100 : decode code 1100 = .ok (.iload 5, 2) := by decide +kernel
theorem dL_1102 : decode code 1102 = .ok (.ifCond .ne 15, 3) := by decide +kernel
theorem dL_1105 : decode code 1105 = .ok (.aload_n 3, 1) := by decide +kernel
theorem dL_1106 : decode code 1106 = .ok (.iconst 0, 1) := by decide +kernel
theorem dL_1107 : decode code 1107 = .ok (.laload, 1) := by decide +kernel
theorem dL_1108 : decode code 1108 = .ok (.iload 6, 2) := by decide +kernel
theorem dL_1110 : decode code 1110 = .ok (.i2l, 1) := by decide +kernel
theorem dL_1111 : decode code 1111 = .ok (.lcmp, 1) := by decide +kernel
theorem dL_1112 : decode code 1112 = .ok (.ifCond .eq 5, 3) := by decide +kernel
theorem dL_1115 : decode code 1115 = .ok (.iconst 0, 1) := by decide +kernel
theorem dL_1116 : decode code 1116 = .ok (.ireturn, 1) := by decide +kernel
theorem dL_1117 : decode code 1117 = .ok (.goto 3, 3) := by decide +kernel
theorem dL_1120 : decode code 1120 = .ok (.iinc 4 7, 3) := by decide +kernel
theorem dL_1123 : decode code 1123 = .ok (.goto (-1100), 3) := by decide +kernel
theorem dL_1126 : decode code 1126 = .ok (.iconst 1, 1) := by decide +kernel
theorem dL_1127 : decode code 1127 = .ok (.ireturn, 1) := by decide +kernel
