theorem d_L_0 : decode code 0 = .ok (.new 8, 3) := by decide +kernel
theorem d_L_3 : decode code 3 = .ok (.dup, 1) := by decide +kernel
theorem d_L_4 : decode code 4 = .ok (.invokespecial 35, 3) := by decide +kernel
theorem d_L_7 : decode code 7 = .ok (.astore_n 1, 1) := by decide +kernel
theorem d_L_8 : decode code 8 = .ok (.new 36, 3) := by decide +kernel
theorem d_L_11 : decode code 11 = .ok (.dup, 1) := by decide +kernel
theorem d_L_12 : decode code 12 = .ok (.invokespecial 38, 3) := by decide +kernel
theorem d_L_15 : decode code 15 = .ok (.astore_n 2, 1) := by decide +kernel
theorem d_L_16 : decode code 16 = .ok (.iconst 1, 1) := by decide +kernel
theorem d_L_17 : decode code 17 = .ok (.newarray .long, 2) := by decide +kernel
theorem d_L_19 : decode code 19 = .ok (.astore_n 3, 1) := by decide +kernel
theorem d_L_20 : decode code 20 = .ok (.iconst 0, 1) := by decide +kernel
theorem d_L_21 : decode code 21 = .ok (.istore 4, 2) := by decide +kernel
theorem d_L_23 : decode code 23 = .ok (.iload 4, 2) := by decide +kernel
theorem d_L_25 : decode code 25 = .ok (.aload_n 0, 1) := by decide +kernel
theorem d_L_26 : decode code 26 = .ok (.arraylength, 1) := by decide +kernel
theorem d_L_27 : decode code 27 = .ok (.iconst 5, 1) := by decide +kernel
theorem d_L_28 : decode code 28 = .ok (.isub, 1) := by decide +kernel
theorem d_L_29 : decode code 29 = .ok (.if_icmp .gt 710, 3) := by decide +kernel
theorem d_L_32 : decode code 32 = .ok (.aload_n 0, 1) := by decide +kernel
theorem d_L_33 : decode code 33 = .ok (.iload 4, 2) := by decide +kernel
theorem d_L_35 : decode code 35 = .ok (.iaload, 1) := by decide +kernel
theorem d_L_36 : decode code 36 = .ok (.bipush 15, 2) := by decide +kernel
theorem d_L_38 : decode code 38 = .ok (.iand, 1) := by decide +kernel
theorem d_L_39 : decode code 39 = .ok (.tableswitch 694 0 15 #[77, 114, 150, 198, 254, 279, 290, 315, 340, 377, 414, 439, 464, 525, 562, 650], 77) := by decide +kernel
theorem d_L_116 : decode code 116 = .ok (.aload_n 1, 1) := by decide +kernel
theorem d_L_117 : decode code 117 = .ok (.aload_n 0, 1) := by decide +kernel
theorem d_L_118 : decode code 118 = .ok (.iload 4, 2) := by decide +kernel
theorem d_L_120 : decode code 120 = .ok (.iconst 1, 1) := by decide +kernel
theorem d_L_121 : decode code 121 = .ok (.iadd, 1) := by decide +kernel
theorem d_L_122 : decode code 122 = .ok (.iaload, 1) := by decide +kernel
theorem d_L_123 : decode code 123 = .ok (.aload_n 0, 1) := by decide +kernel
theorem d_L_124 : decode code 124 = .ok (.iload 4, 2) := by decide +kernel
theorem d_L_126 : decode code 126 = .ok (.iconst 2, 1) := by decide +kernel
theorem d_L_127 : decode code 127 = .ok (.iadd, 1) := by decide +kernel
theorem d_L_128 : decode code 128 = .ok (.iaload, 1) := by decide +kernel
theorem d_L_129 : decode code 129 = .ok (.invokevirtual 39, 3) := by decide +kernel
theorem d_L_132 : decode code 132 = .ok (.aload_n 2, 1) := by decide +kernel
theorem d_L_133 : decode code 133 = .ok (.aload_n 0, 1) := by decide +kernel
theorem d_L_134 : decode code 134 = .ok (.iload 4, 2) := by decide +kernel
theorem d_L_136 : decode code 136 = .ok (.iconst 1, 1) := by decide +kernel
theorem d_L_137 : decode code 137 = .ok (.iadd, 1) := by decide +kernel
theorem d_L_138 : decode code 138 = .ok (.iaload, 1) := by decide +kernel
theorem d_L_139 : decode code 139 = .ok (.aload_n 0, 1) := by decide +kernel
theorem d_L_140 : decode code 140 = .ok (.iload 4, 2) := by decide +kernel
theorem d_L_142 : decode code 142 = .ok (.iconst 2, 1) := by decide +kernel
theorem d_L_143 : decode code 143 = .ok (.iadd, 1) := by decide +kernel
theorem d_L_144 : decode code 144 = .ok (.iaload, 1) := by decide +kernel
theorem d_L_145 : decode code 145 = .ok (.invokevirtual 43, 3) := by decide +kernel
theorem d_L_148 : decode code 148 = .ok (.if_icmp .eq 585, 3) := by decide +kernel
theorem d_L_151 : decode code 151 = .ok (.iconst 0, 1) := by decide +kernel
theorem d_L_152 : decode code 152 = .ok (.ireturn, 1) := by decide +kernel
theorem d_L_153 : decode code 153 = .ok (.aload_n 1, 1) := by decide +kernel
theorem d_L_154 : decode code 154 = .ok (.aload_n 0, 1) := by decide +kernel
theorem d_L_155 : decode code 155 = .ok (.iload 4, 2) := by decide +kernel
theorem d_L_157 : decode code 157 = .ok (.iconst 1, 1) := by decide +kernel
theorem d_L_158 : decode code 158 = .ok (.iadd, 1) := by decide +kernel
theorem d_L_159 : decode code 159 = .ok (.iaload, 1) := by decide +kernel
theorem d_L_160 : decode code 160 = .ok (.invokestatic 44, 3) := by decide +kernel
theorem d_L_163 : decode code 163 = .ok (.istore 5, 2) := by decide +kernel
theorem d_L_165 : decode code 165 = .ok (.aload_n 2, 1) := by decide +kernel
theorem d_L_166 : decode code 166 = .ok (.aload_n 0, 1) := by decide +kernel
theorem d_L_167 : decode code 167 = .ok (.iload 4, 2) := by decide +kernel
theorem d_L_169 : decode code 169 = .ok (.iconst 1, 1) := by decide +kernel
theorem d_L_170 : decode code 170 = .ok (.iadd, 1) := by decide +kernel
theorem d_L_171 : decode code 171 = .ok (.iaload, 1) := by decide +kernel
theorem d_L_172 : decode code 172 = .ok (.invokevirtual 49, 3) := by decide +kernel
theorem d_L_175 : decode code 175 = .ok (.aload_n 2, 1) := by decide +kernel
theorem d_L_176 : decode code 176 = .ok (.invokevirtual 50, 3) := by decide +kernel
theorem d_L_179 : decode code 179 = .ok (.iload 5, 2) := by decide +kernel
theorem d_L_181 : decode code 181 = .ok (.if_icmp .eq 5, 3) := by decide +kernel
theorem d_L_184 : decode code 184 = .ok (.iconst 0, 1) := by decide +kernel
theorem d_L_185 : decode code 185 = .ok (.ireturn, 1) := by decide +kernel
theorem d_L_186 : decode code 186 = .ok (.goto 547, 3) := by decide +kernel
theorem d_L_189 : decode code 189 = .ok (.aload_n 1, 1) := by decide +kernel
theorem d_L_190 : decode code 190 = .ok (.aload_n 0, 1) := by decide +kernel
theorem d_L_191 : decode code 191 = .ok (.iload 4, 2) := by decide +kernel
theorem d_L_193 : decode code 193 = .ok (.iconst 1, 1) := by decide +kernel
theorem d_L_194 : decode code 194 = .ok (.iadd, 1) := by decide +kernel
theorem d_L_195 : decode code 195 = .ok (.iaload, 1) := by decide +kernel
theorem d_L_196 : decode code 196 = .ok (.aload_n 0, 1) := by decide +kernel
theorem d_L_197 : decode code 197 = .ok (.iload 4, 2) := by decide +kernel
theorem d_L_199 : decode code 199 = .ok (.iconst 2, 1) := by decide +kernel
theorem d_L_200 : decode code 200 = .ok (.iadd, 1) := by decide +kernel
theorem d_L_201 : decode code 201 = .ok (.iaload, 1) := by decide +kernel
theorem d_L_202 : decode code 202 = .ok (.invokestatic 53, 3) := by decide +kernel
theorem d_L_205 : decode code 205 = .ok (.istore 5, 2) := by decide +kernel
theorem d_L_207 : decode code 207 = .ok (.aload_n 2, 1) := by decide +kernel
theorem d_L_208 : decode code 208 = .ok (.aload_n 0, 1) := by decide +kernel
theorem d_L_209 : decode code 209 = .ok (.iload 4, 2) := by decide +kernel
theorem d_L_211 : decode code 211 = .ok (.iconst 1, 1) := by decide +kernel
theorem d_L_212 : decode code 212 = .ok (.iadd, 1) := by decide +kernel
theorem d_L_213 : decode code 213 = .ok (.iaload, 1) := by decide +kernel
theorem d_L_214 : decode code 214 = .ok (.aload_n 0, 1) := by decide +kernel
theorem d_L_215 : decode code 215 = .ok (.iload 4, 2) := by decide +kernel
theorem d_L_217 : decode code 217 = .ok (.iconst 2, 1) := by decide +kernel
theorem d_L_218 : decode code 218 = .ok (.iadd, 1) := by decide +kernel
theorem d_L_219 : decode code 219 = .ok (.iaload, 1) := by decide +kernel
theorem d_L_220 : decode code 220 = .ok (.invokevirtual 56, 3) := by decide +kernel
theorem d_L_223 : decode code 223 = .ok (.aload_n 2, 1) := by decide +kernel
theorem d_L_224 : decode code 224 = .ok (.invokevirtual 50, 3) := by decide +kernel
theorem d_L_227 : decode code 227 = .ok (.iload 5, 2) := by decide +kernel
theorem d_L_229 : decode code 229 = .ok (.if_icmp .eq 5, 3) := by decide +kernel
theorem d_L_232 : decode code 232 = .ok (.iconst 0, 1) := by decide +kernel
theorem d_L_233 : decode code 233 = .ok (.ireturn, 1) := by decide +kernel
theorem d_L_234 : decode code 234 = .ok (.goto 499, 3) := by decide +kernel
theorem d_L_237 : decode code 237 = .ok (.aload_n 1, 1) := by decide +kernel
theorem d_L_238 : decode code 238 = .ok (.aload_n 0, 1) := by decide +kernel
theorem d_L_239 : decode code 239 = .ok (.iload 4, 2) := by decide +kernel
theorem d_L_241 : decode code 241 = .ok (.iconst 1, 1) := by decide +kernel
theorem d_L_242 : decode code 242 = .ok (.iadd, 1) := by decide +kernel
theorem d_L_243 : decode code 243 = .ok (.iaload, 1) := by decide +kernel
theorem d_L_244 : decode code 244 = .ok (.aload_n 3, 1) := by decide +kernel
theorem d_L_245 : decode code 245 = .ok (.invokestatic 57, 3) := by decide +kernel
theorem d_L_248 : decode code 248 = .ok (.istore 5, 2) := by decide +kernel
theorem d_L_250 : decode code 250 = .ok (.aload_n 2, 1) := by decide +kernel
theorem d_L_251 : decode code 251 = .ok (.aload_n 0, 1) := by decide +kernel
theorem d_L_252 : decode code 252 = .ok (.iload 4, 2) := by decide +kernel
theorem d_L_254 : decode code 254 = .ok (.iconst 1, 1) := by decide +kernel
theorem d_L_255 : decode code 255 = .ok (.iadd, 1) := by decide +kernel
theorem d_L_256 : decode code 256 = .ok (.iaload, 1) := by decide +kernel
theorem d_L_257 : decode code 257 = .ok (.invokevirtual 60, 3) := by decide +kernel
theorem d_L_260 : decode code 260 = .ok (.istore 6, 2) := by decide +kernel
theorem d_L_262 : decode code 262 = .ok (.aload_n 2, 1) := by decide +kernel
theorem d_L_263 : decode code 263 = .ok (.invokevirtual 50, 3) := by decide +kernel
theorem d_L_266 : decode code 266 = .ok (.iload 5, 2) := by decide +kernel
theorem d_L_268 : decode code 268 = .ok (.if_icmp .eq 5, 3) := by decide +kernel
theorem d_L_271 : decode code 271 = .ok (.iconst 0, 1) := by decide +kernel
theorem d_L_272 : decode code 272 = .ok (.ireturn, 1) := by decide +kernel
theorem d_L_273 : decode code 273 = .ok (.iload 5, 2) := by decide +kernel
theorem d_L_275 : decode code 275 = .ok (.ifCond .ne 15, 3) := by decide +kernel
theorem d_L_278 : decode code 278 = .ok (.aload_n 3, 1) := by decide +kernel
theorem d_L_279 : decode code 279 = .ok (.iconst 0, 1) := by decide +kernel
theorem d_L_280 : decode code 280 = .ok (.laload, 1) := by decide +kernel
theorem d_L_281 : decode code 281 = .ok (.iload 6, 2) := by decide +kernel
theorem d_L_283 : decode code 283 = .ok (.i2l, 1) := by decide +kernel
theorem d_L_284 : decode code 284 = .ok (.lcmp, 1) := by decide +kernel
theorem d_L_285 : decode code 285 = .ok (.ifCond .eq 5, 3) := by decide +kernel
theorem d_L_288 : decode code 288 = .ok (.iconst 0, 1) := by decide +kernel
theorem d_L_289 : decode code 289 = .ok (.ireturn, 1) := by decide +kernel
theorem d_L_290 : decode code 290 = .ok (.goto 443, 3) := by decide +kernel
theorem d_L_293 : decode code 293 = .ok (.aload_n 1, 1) := by decide +kernel
theorem d_L_294 : decode code 294 = .ok (.aload_n 0, 1) := by decide +kernel
theorem d_L_295 : decode code 295 = .ok (.iload 4, 2) := by decide +kernel
theorem d_L_297 : decode code 297 = .ok (.iconst 1, 1) := by decide +kernel
theorem d_L_298 : decode code 298 = .ok (.iadd, 1) := by decide +kernel
theorem d_L_299 : decode code 299 = .ok (.iaload, 1) := by decide +kernel
theorem d_L_300 : decode code 300 = .ok (.invokevirtual 61, 3) := by decide +kernel
theorem d_L_303 : decode code 303 = .ok (.aload_n 2, 1) := by decide +kernel
theorem d_L_304 : decode code 304 = .ok (.aload_n 0, 1) := by decide +kernel
theorem d_L_305 : decode code 305 = .ok (.iload 4, 2) := by decide +kernel
theorem d_L_307 : decode code 307 = .ok (.iconst 1, 1) := by decide +kernel
theorem d_L_308 : decode code 308 = .ok (.iadd, 1) := by decide +kernel
theorem d_L_309 : decode code 309 = .ok (.iaload, 1) := by decide +kernel
theorem d_L_310 : decode code 310 = .ok (.invokevirtual 65, 3) := by decide +kernel
theorem d_L_313 : decode code 313 = .ok (.if_icmp .eq 420, 3) := by decide +kernel
theorem d_L_316 : decode code 316 = .ok (.iconst 0, 1) := by decide +kernel
theorem d_L_317 : decode code 317 = .ok (.ireturn, 1) := by decide +kernel
theorem d_L_318 : decode code 318 = .ok (.aload_n 1, 1) := by decide +kernel
theorem d_L_319 : decode code 319 = .ok (.invokevirtual 66, 3) := by decide +kernel
theorem d_L_322 : decode code 322 = .ok (.aload_n 2, 1) := by decide +kernel
theorem d_L_323 : decode code 323 = .ok (.invokevirtual 69, 3) := by decide +kernel
theorem d_L_326 : decode code 326 = .ok (.goto 407, 3) := by decide +kernel
theorem d_L_329 : decode code 329 = .ok (.aload_n 1, 1) := by decide +kernel
theorem d_L_330 : decode code 330 = .ok (.aload_n 0, 1) := by decide +kernel
theorem d_L_331 : decode code 331 = .ok (.iload 4, 2) := by decide +kernel
theorem d_L_333 : decode code 333 = .ok (.iconst 1, 1) := by decide +kernel
theorem d_L_334 : decode code 334 = .ok (.iadd, 1) := by decide +kernel
theorem d_L_335 : decode code 335 = .ok (.iaload, 1) := by decide +kernel
theorem d_L_336 : decode code 336 = .ok (.invokevirtual 70, 3) := by decide +kernel
theorem d_L_339 : decode code 339 = .ok (.aload_n 2, 1) := by decide +kernel
theorem d_L_340 : decode code 340 = .ok (.aload_n 0, 1) := by decide +kernel
theorem d_L_341 : decode code 341 = .ok (.iload 4, 2) := by decide +kernel
theorem d_L_343 : decode code 343 = .ok (.iconst 1, 1) := by decide +kernel
theorem d_L_344 : decode code 344 = .ok (.iadd, 1) := by decide +kernel
theorem d_L_345 : decode code 345 = .ok (.iaload, 1) := by decide +kernel
theorem d_L_346 : decode code 346 = .ok (.invokevirtual 73, 3) := by decide +kernel
theorem d_L_349 : decode code 349 = .ok (.if_icmp .eq 384, 3) := by decide +kernel
theorem d_L_352 : decode code 352 = .ok (.iconst 0, 1) := by decide +kernel
theorem d_L_353 : decode code 353 = .ok (.ireturn, 1) := by decide +kernel
theorem d_L_354 : decode code 354 = .ok (.aload_n 1, 1) := by decide +kernel
theorem d_L_355 : decode code 355 = .ok (.aload_n 0, 1) := by decide +kernel
theorem d_L_356 : decode code 356 = .ok (.iload 4, 2) := by decide +kernel
theorem d_L_358 : decode code 358 = .ok (.iconst 1, 1) := by decide +kernel
theorem d_L_359 : decode code 359 = .ok (.iadd, 1) := by decide +kernel
theorem d_L_360 : decode code 360 = .ok (.iaload, 1) := by decide +kernel
theorem d_L_361 : decode code 361 = .ok (.invokevirtual 74, 3) := by decide +kernel
theorem d_L_364 : decode code 364 = .ok (.aload_n 2, 1) := by decide +kernel
theorem d_L_365 : decode code 365 = .ok (.aload_n 0, 1) := by decide +kernel
theorem d_L_366 : decode code 366 = .ok (.iload 4, 2) := by decide +kernel
theorem d_L_368 : decode code 368 = .ok (.iconst 1, 1) := by decide +kernel
theorem d_L_369 : decode code 369 = .ok (.iadd, 1) := by decide +kernel
theorem d_L_370 : decode code 370 = .ok (.iaload, 1) := by decide +kernel
theorem d_L_371 : decode code 371 = .ok (.invokevirtual 77, 3) := by decide +kernel
theorem d_L_374 : decode code 374 = .ok (.if_icmp .eq 359, 3) := by decide +kernel
theorem d_L_377 : decode code 377 = .ok (.iconst 0, 1) := by decide +kernel
theorem d_L_378 : decode code 378 = .ok (.ireturn, 1) := by decide +kernel
theorem d_L_379 : decode code 379 = .ok (.aload_n 1, 1) := by decide +kernel
theorem d_L_380 : decode code 380 = .ok (.aload_n 0, 1) := by decide +kernel
theorem d_L_381 : decode code 381 = .ok (.iload 4, 2) := by decide +kernel
theorem d_L_383 : decode code 383 = .ok (.iconst 1, 1) := by decide +kernel
theorem d_L_384 : decode code 384 = .ok (.iadd, 1) := by decide +kernel
theorem d_L_385 : decode code 385 = .ok (.iaload, 1) := by decide +kernel
theorem d_L_386 : decode code 386 = .ok (.aload_n 0, 1) := by decide +kernel
theorem d_L_387 : decode code 387 = .ok (.iload 4, 2) := by decide +kernel
theorem d_L_389 : decode code 389 = .ok (.iconst 2, 1) := by decide +kernel
theorem d_L_390 : decode code 390 = .ok (.iadd, 1) := by decide +kernel
theorem d_L_391 : decode code 391 = .ok (.iaload, 1) := by decide +kernel
theorem d_L_392 : decode code 392 = .ok (.invokevirtual 78, 3) := by decide +kernel
theorem d_L_395 : decode code 395 = .ok (.aload_n 2, 1) := by decide +kernel
theorem d_L_396 : decode code 396 = .ok (.aload_n 0, 1) := by decide +kernel
theorem d_L_397 : decode code 397 = .ok (.iload 4, 2) := by decide +kernel
theorem d_L_399 : decode code 399 = .ok (.iconst 1, 1) := by decide +kernel
theorem d_L_400 : decode code 400 = .ok (.iadd, 1) := by decide +kernel
theorem d_L_401 : decode code 401 = .ok (.iaload, 1) := by decide +kernel
theorem d_L_402 : decode code 402 = .ok (.aload_n 0, 1) := by decide +kernel
theorem d_L_403 : decode code 403 = .ok (.iload 4, 2) := by decide +kernel
theorem d_L_405 : decode code 405 = .ok (.iconst 2, 1) := by decide +kernel
theorem d_L_406 : decode code 406 = .ok (.iadd, 1) := by decide +kernel
theorem d_L_407 : decode code 407 = .ok (.iaload, 1) := by decide +kernel
theorem d_L_408 : decode code 408 = .ok (.invokevirtual 82, 3) := by decide +kernel
theorem d_L_411 : decode code 411 = .ok (.if_icmp .eq 322, 3) := by decide +kernel
theorem d_L_414 : decode code 414 = .ok (.iconst 0, 1) := by decide +kernel
theorem d_L_415 : decode code 415 = .ok (.ireturn, 1) := by decide +kernel
theorem d_L_416 : decode code 416 = .ok (.aload_n 1, 1) := by decide +kernel
theorem d_L_417 : decode code 417 = .ok (.aload_n 0, 1) := by decide +kernel
theorem d_L_418 : decode code 418 = .ok (.iload 4, 2) := by decide +kernel
theorem d_L_420 : decode code 420 = .ok (.iconst 1, 1) := by decide +kernel
theorem d_L_421 : decode code 421 = .ok (.iadd, 1) := by decide +kernel
theorem d_L_422 : decode code 422 = .ok (.iaload, 1) := by decide +kernel
theorem d_L_423 : decode code 423 = .ok (.aload_n 0, 1) := by decide +kernel
theorem d_L_424 : decode code 424 = .ok (.iload 4, 2) := by decide +kernel
theorem d_L_426 : decode code 426 = .ok (.iconst 2, 1) := by decide +kernel
theorem d_L_427 : decode code 427 = .ok (.iadd, 1) := by decide +kernel
theorem d_L_428 : decode code 428 = .ok (.iaload, 1) := by decide +kernel
theorem d_L_429 : decode code 429 = .ok (.invokevirtual 83, 3) := by decide +kernel
theorem d_L_432 : decode code 432 = .ok (.aload_n 2, 1) := by decide +kernel
theorem d_L_433 : decode code 433 = .ok (.aload_n 0, 1) := by decide +kernel
theorem d_L_434 : decode code 434 = .ok (.iload 4, 2) := by decide +kernel
theorem d_L_436 : decode code 436 = .ok (.iconst 1, 1) := by decide +kernel
theorem d_L_437 : decode code 437 = .ok (.iadd, 1) := by decide +kernel
theorem d_L_438 : decode code 438 = .ok (.iaload, 1) := by decide +kernel
theorem d_L_439 : decode code 439 = .ok (.aload_n 0, 1) := by decide +kernel
theorem d_L_440 : decode code 440 = .ok (.iload 4, 2) := by decide +kernel
theorem d_L_442 : decode code 442 = .ok (.iconst 2, 1) := by decide +kernel
theorem d_L_443 : decode code 443 = .ok (.iadd, 1) := by decide +kernel
theorem d_L_444 : decode code 444 = .ok (.iaload, 1) := by decide +kernel
theorem d_L_445 : decode code 445 = .ok (.invokevirtual 86, 3) := by decide +kernel
theorem d_L_448 : decode code 448 = .ok (.if_icmp .eq 285, 3) := by decide +kernel
theorem d_L_451 : decode code 451 = .ok (.iconst 0, 1) := by decide +kernel
theorem d_L_452 : decode code 452 = .ok (.ireturn, 1) := by decide +kernel
theorem d_L_453 : decode code 453 = .ok (.aload_n 1, 1) := by decide +kernel
theorem d_L_454 : decode code 454 = .ok (.aload_n 0, 1) := by decide +kernel
theorem d_L_455 : decode code 455 = .ok (.iload 4, 2) := by decide +kernel
theorem d_L_457 : decode code 457 = .ok (.iconst 1, 1) := by decide +kernel
theorem d_L_458 : decode code 458 = .ok (.iadd, 1) := by decide +kernel
theorem d_L_459 : decode code 459 = .ok (.iaload, 1) := by decide +kernel
theorem d_L_460 : decode code 460 = .ok (.invokevirtual 87, 3) := by decide +kernel
theorem d_L_463 : decode code 463 = .ok (.aload_n 2, 1) := by decide +kernel
theorem d_L_464 : decode code 464 = .ok (.aload_n 0, 1) := by decide +kernel
theorem d_L_465 : decode code 465 = .ok (.iload 4, 2) := by decide +kernel
theorem d_L_467 : decode code 467 = .ok (.iconst 1, 1) := by decide +kernel
theorem d_L_468 : decode code 468 = .ok (.iadd, 1) := by decide +kernel
theorem d_L_469 : decode code 469 = .ok (.iaload, 1) := by decide +kernel
theorem d_L_470 : decode code 470 = .ok (.invokevirtual 90, 3) := by decide +kernel
theorem d_L_473 : decode code 473 = .ok (.if_icmp .eq 260, 3) := by decide +kernel
theorem d_L_476 : decode code 476 = .ok (.iconst 0, 1) := by decide +kernel
theorem d_L_477 : decode code 477 = .ok (.ireturn, 1) := by decide +kernel
theorem d_L_478 : decode code 478 = .ok (.aload_n 1, 1) := by decide +kernel
theorem d_L_479 : decode code 479 = .ok (.aload_n 0, 1) := by decide +kernel
theorem d_L_480 : decode code 480 = .ok (.iload 4, 2) := by decide +kernel
theorem d_L_482 : decode code 482 = .ok (.iconst 1, 1) := by decide +kernel
theorem d_L_483 : decode code 483 = .ok (.iadd, 1) := by decide +kernel
theorem d_L_484 : decode code 484 = .ok (.iaload, 1) := by decide +kernel
theorem d_L_485 : decode code 485 = .ok (.invokevirtual 91, 3) := by decide +kernel
theorem d_L_488 : decode code 488 = .ok (.aload_n 2, 1) := by decide +kernel
theorem d_L_489 : decode code 489 = .ok (.aload_n 0, 1) := by decide +kernel
theorem d_L_490 : decode code 490 = .ok (.iload 4, 2) := by decide +kernel
theorem d_L_492 : decode code 492 = .ok (.iconst 1, 1) := by decide +kernel
theorem d_L_493 : decode code 493 = .ok (.iadd, 1) := by decide +kernel
theorem d_L_494 : decode code 494 = .ok (.iaload, 1) := by decide +kernel
theorem d_L_495 : decode code 495 = .ok (.invokevirtual 94, 3) := by decide +kernel
theorem d_L_498 : decode code 498 = .ok (.if_icmp .eq 235, 3) := by decide +kernel
theorem d_L_501 : decode code 501 = .ok (.iconst 0, 1) := by decide +kernel
theorem d_L_502 : decode code 502 = .ok (.ireturn, 1) := by decide +kernel
theorem d_L_503 : decode code 503 = .ok (.aload_n 1, 1) := by decide +kernel
theorem d_L_504 : decode code 504 = .ok (.aload_n 0, 1) := by decide +kernel
theorem d_L_505 : decode code 505 = .ok (.iload 4, 2) := by decide +kernel
theorem d_L_507 : decode code 507 = .ok (.iconst 1, 1) := by decide +kernel
theorem d_L_508 : decode code 508 = .ok (.iadd, 1) := by decide +kernel
theorem d_L_509 : decode code 509 = .ok (.iaload, 1) := by decide +kernel
theorem d_L_510 : decode code 510 = .ok (.aload_n 0, 1) := by decide +kernel
theorem d_L_511 : decode code 511 = .ok (.iload 4, 2) := by decide +kernel
theorem d_L_513 : decode code 513 = .ok (.iconst 2, 1) := by decide +kernel
theorem d_L_514 : decode code 514 = .ok (.iadd, 1) := by decide +kernel
theorem d_L_515 : decode code 515 = .ok (.iaload, 1) := by decide +kernel
theorem d_L_516 : decode code 516 = .ok (.aload_n 0, 1) := by decide +kernel
theorem d_L_517 : decode code 517 = .ok (.iload 4, 2) := by decide +kernel
theorem d_L_519 : decode code 519 = .ok (.iconst 3, 1) := by decide +kernel
theorem d_L_520 : decode code 520 = .ok (.iadd, 1) := by decide +kernel
theorem d_L_521 : decode code 521 = .ok (.iaload, 1) := by decide +kernel
theorem d_L_522 : decode code 522 = .ok (.aload_n 0, 1) := by decide +kernel
theorem d_L_523 : decode code 523 = .ok (.iload 4, 2) := by decide +kernel
theorem d_L_525 : decode code 525 = .ok (.iconst 4, 1) := by decide +kernel
theorem d_L_526 : decode code 526 = .ok (.iadd, 1) := by decide +kernel
theorem d_L_527 : decode code 527 = .ok (.iaload, 1) := by decide +kernel
theorem d_L_528 : decode code 528 = .ok (.invokevirtual 95, 3) := by decide +kernel
theorem d_L_531 : decode code 531 = .ok (.aload_n 2, 1) := by decide +kernel
theorem d_L_532 : decode code 532 = .ok (.aload_n 0, 1) := by decide +kernel
theorem d_L_533 : decode code 533 = .ok (.iload 4, 2) := by decide +kernel
theorem d_L_535 : decode code 535 = .ok (.iconst 1, 1) := by decide +kernel
theorem d_L_536 : decode code 536 = .ok (.iadd, 1) := by decide +kernel
theorem d_L_537 : decode code 537 = .ok (.iaload, 1) := by decide +kernel
theorem d_L_538 : decode code 538 = .ok (.aload_n 0, 1) := by decide +kernel
theorem d_L_539 : decode code 539 = .ok (.iload 4, 2) := by decide +kernel
theorem d_L_541 : decode code 541 = .ok (.iconst 2, 1) := by decide +kernel
theorem d_L_542 : decode code 542 = .ok (.iadd, 1) := by decide +kernel
theorem d_L_543 : decode code 543 = .ok (.iaload, 1) := by decide +kernel
theorem d_L_544 : decode code 544 = .ok (.aload_n 0, 1) := by decide +kernel
theorem d_L_545 : decode code 545 = .ok (.iload 4, 2) := by decide +kernel
theorem d_L_547 : decode code 547 = .ok (.iconst 3, 1) := by decide +kernel
theorem d_L_548 : decode code 548 = .ok (.iadd, 1) := by decide +kernel
theorem d_L_549 : decode code 549 = .ok (.iaload, 1) := by decide +kernel
theorem d_L_550 : decode code 550 = .ok (.aload_n 0, 1) := by decide +kernel
theorem d_L_551 : decode code 551 = .ok (.iload 4, 2) := by decide +kernel
theorem d_L_553 : decode code 553 = .ok (.iconst 4, 1) := by decide +kernel
theorem d_L_554 : decode code 554 = .ok (.iadd, 1) := by decide +kernel
theorem d_L_555 : decode code 555 = .ok (.iaload, 1) := by decide +kernel
theorem d_L_556 : decode code 556 = .ok (.invokevirtual 99, 3) := by decide +kernel
theorem d_L_559 : decode code 559 = .ok (.if_icmp .eq 174, 3) := by decide +kernel
theorem d_L_562 : decode code 562 = .ok (.iconst 0, 1) := by decide +kernel
theorem d_L_563 : decode code 563 = .ok (.ireturn, 1) := by decide +kernel
theorem d_L_564 : decode code 564 = .ok (.aload_n 1, 1) := by decide +kernel
theorem d_L_565 : decode code 565 = .ok (.aload_n 0, 1) := by decide +kernel
theorem d_L_566 : decode code 566 = .ok (.iload 4, 2) := by decide +kernel
theorem d_L_568 : decode code 568 = .ok (.iconst 1, 1) := by decide +kernel
theorem d_L_569 : decode code 569 = .ok (.iadd, 1) := by decide +kernel
theorem d_L_570 : decode code 570 = .ok (.iaload, 1) := by decide +kernel
theorem d_L_571 : decode code 571 = .ok (.aload_n 0, 1) := by decide +kernel
theorem d_L_572 : decode code 572 = .ok (.iload 4, 2) := by decide +kernel
theorem d_L_574 : decode code 574 = .ok (.iconst 2, 1) := by decide +kernel
theorem d_L_575 : decode code 575 = .ok (.iadd, 1) := by decide +kernel
theorem d_L_576 : decode code 576 = .ok (.iaload, 1) := by decide +kernel
theorem d_L_577 : decode code 577 = .ok (.invokevirtual 100, 3) := by decide +kernel
theorem d_L_580 : decode code 580 = .ok (.aload_n 2, 1) := by decide +kernel
theorem d_L_581 : decode code 581 = .ok (.aload_n 0, 1) := by decide +kernel
theorem d_L_582 : decode code 582 = .ok (.iload 4, 2) := by decide +kernel
theorem d_L_584 : decode code 584 = .ok (.iconst 1, 1) := by decide +kernel
theorem d_L_585 : decode code 585 = .ok (.iadd, 1) := by decide +kernel
theorem d_L_586 : decode code 586 = .ok (.iaload, 1) := by decide +kernel
theorem d_L_587 : decode code 587 = .ok (.aload_n 0, 1) := by decide +kernel
theorem d_L_588 : decode code 588 = .ok (.iload 4, 2) := by decide +kernel
theorem d_L_590 : decode code 590 = .ok (.iconst 2, 1) := by decide +kernel
theorem d_L_591 : decode code 591 = .ok (.iadd, 1) := by decide +kernel
theorem d_L_592 : decode code 592 = .ok (.iaload, 1) := by decide +kernel
theorem d_L_593 : decode code 593 = .ok (.invokevirtual 103, 3) := by decide +kernel
theorem d_L_596 : decode code 596 = .ok (.if_icmp .eq 137, 3) := by decide +kernel
theorem d_L_599 : decode code 599 = .ok (.iconst 0, 1) := by decide +kernel
theorem d_L_600 : decode code 600 = .ok (.ireturn, 1) := by decide +kernel
theorem d_L_601 : decode code 601 = .ok (.aload_n 1, 1) := by decide +kernel
theorem d_L_602 : decode code 602 = .ok (.aload_n 0, 1) := by decide +kernel
theorem d_L_603 : decode code 603 = .ok (.iload 4, 2) := by decide +kernel
theorem d_L_605 : decode code 605 = .ok (.iconst 1, 1) := by decide +kernel
theorem d_L_606 : decode code 606 = .ok (.iadd, 1) := by decide +kernel
theorem d_L_607 : decode code 607 = .ok (.iaload, 1) := by decide +kernel
theorem d_L_608 : decode code 608 = .ok (.ifCond .eq 7, 3) := by decide +kernel
theorem d_L_611 : decode code 611 = .ok (.iconst 1, 1) := by decide +kernel
theorem d_L_612 : decode code 612 = .ok (.goto 4, 3) := by decide +kernel
theorem d_L_615 : decode code 615 = .ok (.iconst 0, 1) := by decide +kernel
theorem d_L_616 : decode code 616 = .ok (.aload_n 0, 1) := by decide +kernel
theorem d_L_617 : decode code 617 = .ok (.iload 4, 2) := by decide +kernel
theorem d_L_619 : decode code 619 = .ok (.iconst 2, 1) := by decide +kernel
theorem d_L_620 : decode code 620 = .ok (.iadd, 1) := by decide +kernel
theorem d_L_621 : decode code 621 = .ok (.iaload, 1) := by decide +kernel
theorem d_L_622 : decode code 622 = .ok (.aload_n 0, 1) := by decide +kernel
theorem d_L_623 : decode code 623 = .ok (.iload 4, 2) := by decide +kernel
theorem d_L_625 : decode code 625 = .ok (.iconst 3, 1) := by decide +kernel
theorem d_L_626 : decode code 626 = .ok (.iadd, 1) := by decide +kernel
theorem d_L_627 : decode code 627 = .ok (.iaload, 1) := by decide +kernel
theorem d_L_628 : decode code 628 = .ok (.aload_n 0, 1) := by decide +kernel
theorem d_L_629 : decode code 629 = .ok (.iload 4, 2) := by decide +kernel
theorem d_L_631 : decode code 631 = .ok (.iconst 4, 1) := by decide +kernel
theorem d_L_632 : decode code 632 = .ok (.iadd, 1) := by decide +kernel
theorem d_L_633 : decode code 633 = .ok (.iaload, 1) := by decide +kernel
theorem d_L_634 : decode code 634 = .ok (.invokestatic 104, 3) := by decide +kernel
theorem d_L_637 : decode code 637 = .ok (.istore 5, 2) := by decide +kernel
theorem d_L_639 : decode code 639 = .ok (.aload_n 2, 1) := by decide +kernel
theorem d_L_640 : decode code 640 = .ok (.aload_n 0, 1) := by decide +kernel
theorem d_L_641 : decode code 641 = .ok (.iload 4, 2) := by decide +kernel
theorem d_L_643 : decode code 643 = .ok (.iconst 1, 1) := by decide +kernel
theorem d_L_644 : decode code 644 = .ok (.iadd, 1) := by decide +kernel
theorem d_L_645 : decode code 645 = .ok (.iaload, 1) := by decide +kernel
theorem d_L_646 : decode code 646 = .ok (.ifCond .eq 7, 3) := by decide +kernel
theorem d_L_649 : decode code 649 = .ok (.iconst 1, 1) := by decide +kernel
theorem d_L_650 : decode code 650 = .ok (.goto 4, 3) := by decide +kernel
theorem d_L_653 : decode code 653 = .ok (.iconst 0, 1) := by decide +kernel
theorem d_L_654 : decode code 654 = .ok (.aload_n 0, 1) := by decide +kernel
theorem d_L_655 : decode code 655 = .ok (.iload 4, 2) := by decide +kernel
theorem d_L_657 : decode code 657 = .ok (.iconst 2, 1) := by decide +kernel
theorem d_L_658 : decode code 658 = .ok (.iadd, 1) := by decide +kernel
theorem d_L_659 : decode code 659 = .ok (.iaload, 1) := by decide +kernel
theorem d_L_660 : decode code 660 = .ok (.aload_n 0, 1) := by decide +kernel
theorem d_L_661 : decode code 661 = .ok (.iload 4, 2) := by decide +kernel
theorem d_L_663 : decode code 663 = .ok (.iconst 3, 1) := by decide +kernel
theorem d_L_664 : decode code 664 = .ok (.iadd, 1) := by decide +kernel
theorem d_L_665 : decode code 665 = .ok (.iaload, 1) := by decide +kernel
theorem d_L_666 : decode code 666 = .ok (.aload_n 0, 1) := by decide +kernel
theorem d_L_667 : decode code 667 = .ok (.iload 4, 2) := by decide +kernel
theorem d_L_669 : decode code 669 = .ok (.iconst 4, 1) := by decide +kernel
theorem d_L_670 : decode code 670 = .ok (.iadd, 1) := by decide +kernel
theorem d_L_671 : decode code 671 = .ok (.iaload, 1) := by decide +kernel
theorem d_L_672 : decode code 672 = .ok (.invokevirtual 107, 3) := by decide +kernel
theorem d_L_675 : decode code 675 = .ok (.aload_n 2, 1) := by decide +kernel
theorem d_L_676 : decode code 676 = .ok (.invokevirtual 50, 3) := by decide +kernel
theorem d_L_679 : decode code 679 = .ok (.iload 5, 2) := by decide +kernel
theorem d_L_681 : decode code 681 = .ok (.if_icmp .eq 5, 3) := by decide +kernel
theorem d_L_684 : decode code 684 = .ok (.iconst 0, 1) := by decide +kernel
theorem d_L_685 : decode code 685 = .ok (.ireturn, 1) := by decide +kernel
theorem d_L_686 : decode code 686 = .ok (.goto 47, 3) := by decide +kernel
theorem d_L_689 : decode code 689 = .ok (.aload_n 1, 1) := by decide +kernel
theorem d_L_690 : decode code 690 = .ok (.aload_n 3, 1) := by decide +kernel
theorem d_L_691 : decode code 691 = .ok (.invokestatic 108, 3) := by decide +kernel
theorem d_L_694 : decode code 694 = .ok (.istore 5, 2) := by decide +kernel
theorem d_L_696 : decode code 696 = .ok (.aload_n 2, 1) := by decide +kernel
theorem d_L_697 : decode code 697 = .ok (.invokevirtual 111, 3) := by decide +kernel
theorem d_L_700 : decode code 700 = .ok (.istore 6, 2) := by decide +kernel
theorem d_L_702 : decode code 702 = .ok (.aload_n 2, 1) := by decide +kernel
theorem d_L_703 : decode code 703 = .ok (.invokevirtual 50, 3) := by decide +kernel
theorem d_L_706 : decode code 706 = .ok (.iload 5, 2) := by decide +kernel
theorem d_L_708 : decode code 708 = .ok (.if_icmp .eq 5, 3) := by decide +kernel
theorem d_L_711 : decode code 711 = .ok (.iconst 0, 1) := by decide +kernel
theorem d_L_712 : decode code 712 = .ok (.ireturn, 1) := by decide +kernel
theorem d_L_713 : decode code 713 = .ok (.iload 5, 2) := by decide +kernel
theorem d_L_715 : decode code 715 = .ok (.ifCond .ne 15, 3) := by decide +kernel
theorem d_L_718 : decode code 718 = .ok (.aload_n 3, 1) := by decide +kernel
theorem d_L_719 : decode code 719 = .ok (.iconst 0, 1) := by decide +kernel
theorem d_L_720 : decode code 720 = .ok (.laload, 1) := by decide +kernel
theorem d_L_721 : decode code 721 = .ok (.iload 6, 2) := by decide +kernel
theorem d_L_723 : decode code 723 = .ok (.i2l, 1) := by decide +kernel
theorem d_L_724 : decode code 724 = .ok (.lcmp, 1) := by decide +kernel
theorem d_L_725 : decode code 725 = .ok (.ifCond .eq 5, 3) := by decide +kernel
theorem d_L_728 : decode code 728 = .ok (.iconst 0, 1) := by decide +kernel
theorem d_L_729 : decode code 729 = .ok (.ireturn, 1) := by decide +kernel
theorem d_L_730 : decode code 730 = .ok (.goto 3, 3) := by decide +kernel
theorem d_L_733 : decode code 733 = .ok (.iinc 4 5, 3) := by decide +kernel
theorem d_L_736 : decode code 736 = .ok (.goto (-713), 3) := by decide +kernel
theorem d_L_739 : decode code 739 = .ok (.iconst 1, 1) := by decide +kernel
theorem d_L_740 : decode code 740 = .ok (.ireturn, 1) := by decide +kernel
theorem cy_Law_close : mm_Law_close.1.cls ≠ "java/lang/invoke/MethodHandle" ∧ mm_Law_close.1.cls ≠ "java/lang/invoke/VarHandle" ∧ (parseMethodDescriptor mm_Law_close.1.desc).map (fun d => d.parameters.length) = some 2 := by decide +kernel
theorem cy_Law_bring : mm_Law_bring.1.cls ≠ "java/lang/invoke/MethodHandle" ∧ mm_Law_bring.1.cls ≠ "java/lang/invoke/VarHandle" ∧ (parseMethodDescriptor mm_Law_bring.1.desc).map (fun d => d.parameters.length) = some 3 := by decide +kernel
theorem cy_Law_take : mm_Law_take.1.cls ≠ "java/lang/invoke/MethodHandle" ∧ mm_Law_take.1.cls ≠ "java/lang/invoke/VarHandle" ∧ (parseMethodDescriptor mm_Law_take.1.desc).map (fun d => d.parameters.length) = some 3 := by decide +kernel
theorem cy_Law_job : mm_Law_job.1.cls ≠ "java/lang/invoke/MethodHandle" ∧ mm_Law_job.1.cls ≠ "java/lang/invoke/VarHandle" ∧ (parseMethodDescriptor mm_Law_job.1.desc).map (fun d => d.parameters.length) = some 5 := by decide +kernel
theorem cy_Law_step : mm_Law_step.1.cls ≠ "java/lang/invoke/MethodHandle" ∧ mm_Law_step.1.cls ≠ "java/lang/invoke/VarHandle" ∧ (parseMethodDescriptor mm_Law_step.1.desc).map (fun d => d.parameters.length) = some 2 := by decide +kernel
def sim_feed (R : MzM → MzM → Prop) : Prop := ∀ (M1 M2 : MzM) (a1 : Int32) (a2 : Int32), mzLnk false M1 → mzLnk true M2 → R M1 M2 → wp_PL_feed a1 a2 M1 (fun v M1' => wp_Mo_feed a1 a2 M2 (fun w M2' => v = w ∧ R M1' M2'))
def sim_cut (R : MzM → MzM → Prop) : Prop := ∀ (M1 M2 : MzM) (a1 : Int32), mzLnk false M1 → mzLnk true M2 → R M1 M2 → wp_PL_cut a1 M1 (fun v M1' => wp_Mo_cut a1 M2 (fun w M2' => v = w ∧ R M1' M2'))
def sim_waiting (R : MzM → MzM → Prop) : Prop := ∀ (M1 M2 : MzM) (a1 : Int32), mzLnk false M1 → mzLnk true M2 → R M1 M2 → wp_PL_waiting a1 M1 (fun v M1' => wp_Mo_waiting a1 M2 (fun w M2' => v = w ∧ R M1' M2'))
def sim_reply (R : MzM → MzM → Prop) : Prop := ∀ (M1 M2 : MzM) (a1 : Int32), mzLnk false M1 → mzLnk true M2 → R M1 M2 → wp_PL_reply a1 M1 (fun v M1' => wp_Mo_reply a1 M2 (fun w M2' => v = w ∧ R M1' M2'))
def sim_node (R : MzM → MzM → Prop) : Prop := ∀ (M1 M2 : MzM) (a1 : Int32) (a2 : Int32), mzLnk false M1 → mzLnk true M2 → R M1 M2 → wp_PL_node a1 a2 M1 (fun v M1' => wp_Mo_node a1 a2 M2 (fun w M2' => v = w ∧ R M1' M2'))
def sim_content (R : MzM → MzM → Prop) : Prop := ∀ (M1 M2 : MzM) (a1 : Int32) (a2 : Int32), mzLnk false M1 → mzLnk true M2 → R M1 M2 → wp_PL_content a1 a2 M1 (fun v M1' => wp_Mo_content a1 a2 M2 (fun w M2' => v = w ∧ R M1' M2'))
def sim_current (R : MzM → MzM → Prop) : Prop := ∀ (M1 M2 : MzM) (a1 : Int32), mzLnk false M1 → mzLnk true M2 → R M1 M2 → wp_PL_current a1 M1 (fun v M1' => wp_Mo_current a1 M2 (fun w M2' => v = w ∧ R M1' M2'))
def sim_running (R : MzM → MzM → Prop) : Prop := ∀ (M1 M2 : MzM) (a1 : Int32), mzLnk false M1 → mzLnk true M2 → R M1 M2 → wp_PL_running a1 M1 (fun v M1' => wp_Mo_running a1 M2 (fun w M2' => v = w ∧ R M1' M2'))
def sim_fill (R : MzM → MzM → Prop) : Prop := ∀ (M1 M2 : MzM) (a1 : Int32) (a2 : Int32) (a3 : Int32) (a4 : Int32), mzLnk false M1 → mzLnk true M2 → R M1 M2 → wp_PL_fill a1 a2 a3 a4 M1 (fun v M1' => wp_Mo_fill a1 a2 a3 a4 M2 (fun w M2' => v = w ∧ R M1' M2'))
def sim_shelf (R : MzM → MzM → Prop) : Prop := ∀ (M1 M2 : MzM) (a1 : Int32) (a2 : Int32), mzLnk false M1 → mzLnk true M2 → R M1 M2 → wp_PL_shelf a1 a2 M1 (fun v M1' => wp_Mo_shelf a1 a2 M2 (fun w M2' => v = w ∧ R M1' M2'))
def sim_crash (R : MzM → MzM → Prop) : Prop := ∀ (M1 M2 : MzM), mzLnk false M1 → mzLnk true M2 → R M1 M2 → wp_PL_crash  M1 (fun M1' => wp_Mo_crash  M2 (fun M2' => R M1' M2'))
def sim_close (R : MzM → MzM → Prop) : Prop := ∀ (M1 M2 : MzM) (ov : Int64) (a1 : Int32), mzLnk false M1 → mzLnk true M2 → R M1 M2 → wh_Law_close a1 M1 ov (fun k M1' ov' => wp_Mo_close a1 M2 (fun M2' => wp_Mo_thrown M2' (fun t M2'' => t = k ∧ R M1' M2'')))
def sim_bring (R : MzM → MzM → Prop) : Prop := ∀ (M1 M2 : MzM) (ov : Int64) (a1 : Int32) (a2 : Int32), mzLnk false M1 → mzLnk true M2 → R M1 M2 → wh_Law_bring a1 a2 M1 ov (fun k M1' ov' => wp_Mo_bring a1 a2 M2 (fun M2' => wp_Mo_thrown M2' (fun t M2'' => t = k ∧ R M1' M2'')))
def sim_job (R : MzM → MzM → Prop) : Prop := ∀ (M1 M2 : MzM) (ov : Int64) (a1 a2 a3 a4 : Int32), a1 = 0 ∨ a1 = 1 → mzLnk false M1 → mzLnk true M2 → R M1 M2 → wh_Law_job a1 a2 a3 a4 M1 ov (fun k M1' ov' => wp_Mo_job a1 a2 a3 a4 M2 (fun M2' => wp_Mo_thrown M2' (fun t M2'' => t = k ∧ R M1' M2'')))
def sim_take (R : MzM → MzM → Prop) : Prop := ∀ (M1 M2 : MzM) (ov : Int64) (a1 : Int32), mzLnk false M1 → mzLnk true M2 → R M1 M2 → wh_Law_take a1 M1 ov (fun k M1' ov' => wp_Mo_take a1 M2 (fun w M2' => wp_Mo_thrown M2' (fun t M2'' => t = k ∧ (k = 0 → ov' = w.toInt64) ∧ R M1' M2'')))
def sim_step (R : MzM → MzM → Prop) : Prop := ∀ (M1 M2 : MzM) (ov : Int64) , mzLnk false M1 → mzLnk true M2 → R M1 M2 → wh_Law_step  M1 ov (fun k M1' ov' => wp_Mo_step  M2 (fun w M2' => wp_Mo_thrown M2' (fun t M2'' => t = k ∧ (k = 0 → ov' = w.toInt64) ∧ R M1' M2'')))
theorem lq_ofNat {L n : Nat} (hL : L ≤ 2560) (hn : n < L) : vp_in (Int32.ofNat n) L ∧ (Int32.ofNat n).toNatClampNeg = n := by
  have h1 : (Int32.ofNat n).toNatClampNeg = n := Int32.toNatClampNeg_ofNat_of_lt (by omega)
  have h2 : (Int32.ofNat n).toInt = (n : Int) := Int32.toInt_ofNat_of_lt (by omega)
  refine ⟨fun h => ?_, h1⟩
  rcases h with h | h
  · have h3 := Int32.lt_iff_toInt_lt.mp h
    rw [h2] at h3
    have h4 : (0 : Int32).toInt = 0 := rfl
    omega
  · omega
theorem lq_arg {G : MzG} {B1 B2 : MzB} {cO : ClassId} {o b L : Nat} {xs : Nat → Int32} {M1 M2 : MzM} {ov : Int64} {bu : Nat × Nat} {pc : Nat} {lv : List (Nat × Value)} {st : List Value} {n j : Nat} {jj : Int} (hd0 : decode code pc = .ok (.aload_n 0, 1)) (hd1 : decode code (pc + 1) = .ok (.iload 4, 2)) (hd3 : decode code (pc + 3) = .ok (.iconst jj, 1)) (hd4 : decode code (pc + 4) = .ok (.iadd, 1)) (hd5 : decode code (pc + 5) = .ok (.iaload, 1)) (hb : mz_lk lv 0 = some (.ref b)) (hi : mz_lk lv 4 = some (.int (Int32.ofNat n))) (hj : Int32.ofInt jj = Int32.ofNat j) (hn : n + j < L) (hL : L ≤ 2560) (h : LqS G B1 B2 cO o b L xs M1 M2 ov bu (pc + 6) lv (.int (xs (n + j)) :: st)) : LqS G B1 B2 cO o b L xs M1 M2 ov bu pc lv st := by
  refine lq_aload_n hd0 hb (lq_iload hd1 hi (lq_iconst (Int32.ofNat j) hd3 hj (lq_iadd hd4 ?_)))
  rw [← Int32.ofNat_add]
  obtain ⟨h1, h2⟩ := lq_ofNat hL hn
  refine lq_iaload hd5 h1 ?_
  rw [h2]
  exact h
theorem arm_feed {G : MzG} {B1 B2 : MzB} {cO : ClassId} {o b L : Nat} {xs : Nat → Int32} {M1 M2 : MzM} {ov : Int64} {bu : Nat × Nat} {n : Nat} {R : MzM → MzM → Prop} (hF1 : mzLive false B1) (hF2 : mzLive true B2) (hl1 : mzLnk false M1) (hl2 : mzLnk true M2) (hR : R M1 M2) (hL : L ≤ 2560) (hn : n + 5 ≤ L) (hb1 : 1 ≤ bu.1) (hb2 : 6 ≤ bu.2) (kk : ∀ (M1 M2 : MzM) (ov : Int64), mzLnk false M1 → mzLnk true M2 → R M1 M2 → LqS G B1 B2 cO o b L xs M1 M2 ov (bu.1 - 1, bu.2 - 6) 733 [(0, .ref b), (1, .ref (mz_ad B1 (0, 0))), (2, .ref (mz_ad B2 (30, 0))), (3, .ref o), (4, .int (Int32.ofNat n))] []) (hs : sim_feed R) : LqS G B1 B2 cO o b L xs M1 M2 ov bu 116 [(0, .ref b), (1, .ref (mz_ad B1 (0, 0))), (2, .ref (mz_ad B2 (30, 0))), (3, .ref o), (4, .int (Int32.ofNat n))] [] :=
  lq_aload_n d_L_116 rfl (lq_arg (n := n) (j := 1) d_L_117 d_L_118 d_L_120 d_L_121 d_L_122 rfl rfl (by decide) (by omega) hL (lq_arg (n := n) (j := 2) d_L_123 d_L_124 d_L_126 d_L_127 d_L_128 rfl rfl (by decide) (by omega) hL (lq_call1 (d := 8) (As := [.int (xs (n + 1)), .int (xs (n + 2))]) (st := []) (hF1 0 0 rfl (by decide)) (mzClOf cl_0) d_L_129 cs_PL_feed wl_Law_39 wi_PL_feed wse_PL_feed (Nat.le_of_ble_eq_true rfl) (by decide) (by decide) (MzC.mono (tm_PL_feed (d := 0) hF1 hl1 (hs M1 M2 (xs (n + 1)) (xs (n + 2)) hl1 hl2 hR)) (fun r B9 M1' hq => by obtain ⟨rfl, hL1, v, rfl, hq⟩ := hq; exact ⟨rfl, _, rfl, lq_aload_n d_L_132 rfl (lq_arg (n := n) (j := 1) d_L_133 d_L_134 d_L_136 d_L_137 d_L_138 rfl rfl (by decide) (by omega) hL (lq_arg (n := n) (j := 2) d_L_139 d_L_140 d_L_142 d_L_143 d_L_144 rfl rfl (by decide) (by omega) hL (lq_call2 (d := 10) (As := [.int (xs (n + 1)), .int (xs (n + 2))]) (st := [.int v]) (hF2 30 0 rfl (by decide)) (mzClOf cl_10) d_L_145 cs_Mo_feed wl_Law_43 wi_Mo_feed wse_Mo_feed (Nat.le_of_ble_eq_true rfl) (by decide) (by decide) (MzC.mono (tm_Mo_feed (d := 0) hF2 hl2 hq) (fun r B9 M2' hq => by obtain ⟨rfl, hL2, w, rfl, hq⟩ := hq; exact ⟨rfl, _, rfl, lq_icmp_eq 733 d_L_148 rfl (fun _ => LqS.bud (Nat.sub_le _ _) (Nat.sub_le _ _) (kk _ _ _ hL1 hL2 hq.2)) (fun hc => absurd hq.1 hc)⟩)))))⟩)))))
theorem arm_cut {G : MzG} {B1 B2 : MzB} {cO : ClassId} {o b L : Nat} {xs : Nat → Int32} {M1 M2 : MzM} {ov : Int64} {bu : Nat × Nat} {n : Nat} {R : MzM → MzM → Prop} (hF1 : mzLive false B1) (hF2 : mzLive true B2) (hl1 : mzLnk false M1) (hl2 : mzLnk true M2) (hR : R M1 M2) (hL : L ≤ 2560) (hn : n + 5 ≤ L) (hb1 : 1 ≤ bu.1) (hb2 : 6 ≤ bu.2) (kk : ∀ (M1 M2 : MzM) (ov : Int64), mzLnk false M1 → mzLnk true M2 → R M1 M2 → LqS G B1 B2 cO o b L xs M1 M2 ov (bu.1 - 1, bu.2 - 6) 733 [(0, .ref b), (1, .ref (mz_ad B1 (0, 0))), (2, .ref (mz_ad B2 (30, 0))), (3, .ref o), (4, .int (Int32.ofNat n))] []) (hs : sim_cut R) : LqS G B1 B2 cO o b L xs M1 M2 ov bu 293 [(0, .ref b), (1, .ref (mz_ad B1 (0, 0))), (2, .ref (mz_ad B2 (30, 0))), (3, .ref o), (4, .int (Int32.ofNat n))] [] :=
  lq_aload_n d_L_293 rfl (lq_arg (n := n) (j := 1) d_L_294 d_L_295 d_L_297 d_L_298 d_L_299 rfl rfl (by decide) (by omega) hL (lq_call1 (d := 4) (As := [.int (xs (n + 1))]) (st := []) (hF1 0 0 rfl (by decide)) (mzClOf cl_0) d_L_300 cs_PL_cut wl_Law_61 wi_PL_cut wse_PL_cut (Nat.le_of_ble_eq_true rfl) (by decide) (by decide) (MzC.mono (tm_PL_cut (d := 0) hF1 hl1 (hs M1 M2 (xs (n + 1)) hl1 hl2 hR)) (fun r B9 M1' hq => by obtain ⟨rfl, hL1, v, rfl, hq⟩ := hq; exact ⟨rfl, _, rfl, lq_aload_n d_L_303 rfl (lq_arg (n := n) (j := 1) d_L_304 d_L_305 d_L_307 d_L_308 d_L_309 rfl rfl (by decide) (by omega) hL (lq_call2 (d := 4) (As := [.int (xs (n + 1))]) (st := [.int v]) (hF2 30 0 rfl (by decide)) (mzClOf cl_10) d_L_310 cs_Mo_cut wl_Law_65 wi_Mo_cut wse_Mo_cut (Nat.le_of_ble_eq_true rfl) (by decide) (by decide) (MzC.mono (tm_Mo_cut (d := 0) hF2 hl2 hq) (fun r B9 M2' hq => by obtain ⟨rfl, hL2, w, rfl, hq⟩ := hq; exact ⟨rfl, _, rfl, lq_icmp_eq 733 d_L_313 rfl (fun _ => LqS.bud (Nat.sub_le _ _) (Nat.sub_le _ _) (kk _ _ _ hL1 hL2 hq.2)) (fun hc => absurd hq.1 hc)⟩))))⟩))))
theorem arm_waiting {G : MzG} {B1 B2 : MzB} {cO : ClassId} {o b L : Nat} {xs : Nat → Int32} {M1 M2 : MzM} {ov : Int64} {bu : Nat × Nat} {n : Nat} {R : MzM → MzM → Prop} (hF1 : mzLive false B1) (hF2 : mzLive true B2) (hl1 : mzLnk false M1) (hl2 : mzLnk true M2) (hR : R M1 M2) (hL : L ≤ 2560) (hn : n + 5 ≤ L) (hb1 : 1 ≤ bu.1) (hb2 : 6 ≤ bu.2) (kk : ∀ (M1 M2 : MzM) (ov : Int64), mzLnk false M1 → mzLnk true M2 → R M1 M2 → LqS G B1 B2 cO o b L xs M1 M2 ov (bu.1 - 1, bu.2 - 6) 733 [(0, .ref b), (1, .ref (mz_ad B1 (0, 0))), (2, .ref (mz_ad B2 (30, 0))), (3, .ref o), (4, .int (Int32.ofNat n))] []) (hs : sim_waiting R) : LqS G B1 B2 cO o b L xs M1 M2 ov bu 329 [(0, .ref b), (1, .ref (mz_ad B1 (0, 0))), (2, .ref (mz_ad B2 (30, 0))), (3, .ref o), (4, .int (Int32.ofNat n))] [] :=
  lq_aload_n d_L_329 rfl (lq_arg (n := n) (j := 1) d_L_330 d_L_331 d_L_333 d_L_334 d_L_335 rfl rfl (by decide) (by omega) hL (lq_call1 (d := 1) (As := [.int (xs (n + 1))]) (st := []) (hF1 0 0 rfl (by decide)) (mzClOf cl_0) d_L_336 cs_PL_waiting wl_Law_70 wi_PL_waiting wse_PL_waiting (Nat.le_of_ble_eq_true rfl) (by decide) (by decide) (MzC.mono (tm_PL_waiting (d := 0) hF1 hl1 (hs M1 M2 (xs (n + 1)) hl1 hl2 hR)) (fun r B9 M1' hq => by obtain ⟨rfl, hL1, v, rfl, hq⟩ := hq; exact ⟨rfl, _, rfl, lq_aload_n d_L_339 rfl (lq_arg (n := n) (j := 1) d_L_340 d_L_341 d_L_343 d_L_344 d_L_345 rfl rfl (by decide) (by omega) hL (lq_call2 (d := 1) (As := [.int (xs (n + 1))]) (st := [.int v]) (hF2 30 0 rfl (by decide)) (mzClOf cl_10) d_L_346 cs_Mo_waiting wl_Law_73 wi_Mo_waiting wse_Mo_waiting (Nat.le_of_ble_eq_true rfl) (by decide) (by decide) (MzC.mono (tm_Mo_waiting (d := 0) hF2 hl2 hq) (fun r B9 M2' hq => by obtain ⟨rfl, hL2, w, rfl, hq⟩ := hq; exact ⟨rfl, _, rfl, lq_icmp_eq 733 d_L_349 rfl (fun _ => LqS.bud (Nat.sub_le _ _) (Nat.sub_le _ _) (kk _ _ _ hL1 hL2 hq.2)) (fun hc => absurd hq.1 hc)⟩))))⟩))))
theorem arm_reply {G : MzG} {B1 B2 : MzB} {cO : ClassId} {o b L : Nat} {xs : Nat → Int32} {M1 M2 : MzM} {ov : Int64} {bu : Nat × Nat} {n : Nat} {R : MzM → MzM → Prop} (hF1 : mzLive false B1) (hF2 : mzLive true B2) (hl1 : mzLnk false M1) (hl2 : mzLnk true M2) (hR : R M1 M2) (hL : L ≤ 2560) (hn : n + 5 ≤ L) (hb1 : 1 ≤ bu.1) (hb2 : 6 ≤ bu.2) (kk : ∀ (M1 M2 : MzM) (ov : Int64), mzLnk false M1 → mzLnk true M2 → R M1 M2 → LqS G B1 B2 cO o b L xs M1 M2 ov (bu.1 - 1, bu.2 - 6) 733 [(0, .ref b), (1, .ref (mz_ad B1 (0, 0))), (2, .ref (mz_ad B2 (30, 0))), (3, .ref o), (4, .int (Int32.ofNat n))] []) (hs : sim_reply R) : LqS G B1 B2 cO o b L xs M1 M2 ov bu 354 [(0, .ref b), (1, .ref (mz_ad B1 (0, 0))), (2, .ref (mz_ad B2 (30, 0))), (3, .ref o), (4, .int (Int32.ofNat n))] [] :=
  lq_aload_n d_L_354 rfl (lq_arg (n := n) (j := 1) d_L_355 d_L_356 d_L_358 d_L_359 d_L_360 rfl rfl (by decide) (by omega) hL (lq_call1 (d := 1) (As := [.int (xs (n + 1))]) (st := []) (hF1 0 0 rfl (by decide)) (mzClOf cl_0) d_L_361 cs_PL_reply wl_Law_74 wi_PL_reply wse_PL_reply (Nat.le_of_ble_eq_true rfl) (by decide) (by decide) (MzC.mono (tm_PL_reply (d := 0) hF1 hl1 (hs M1 M2 (xs (n + 1)) hl1 hl2 hR)) (fun r B9 M1' hq => by obtain ⟨rfl, hL1, v, rfl, hq⟩ := hq; exact ⟨rfl, _, rfl, lq_aload_n d_L_364 rfl (lq_arg (n := n) (j := 1) d_L_365 d_L_366 d_L_368 d_L_369 d_L_370 rfl rfl (by decide) (by omega) hL (lq_call2 (d := 1) (As := [.int (xs (n + 1))]) (st := [.int v]) (hF2 30 0 rfl (by decide)) (mzClOf cl_10) d_L_371 cs_Mo_reply wl_Law_77 wi_Mo_reply wse_Mo_reply (Nat.le_of_ble_eq_true rfl) (by decide) (by decide) (MzC.mono (tm_Mo_reply (d := 0) hF2 hl2 hq) (fun r B9 M2' hq => by obtain ⟨rfl, hL2, w, rfl, hq⟩ := hq; exact ⟨rfl, _, rfl, lq_icmp_eq 733 d_L_374 rfl (fun _ => LqS.bud (Nat.sub_le _ _) (Nat.sub_le _ _) (kk _ _ _ hL1 hL2 hq.2)) (fun hc => absurd hq.1 hc)⟩))))⟩))))
theorem arm_node {G : MzG} {B1 B2 : MzB} {cO : ClassId} {o b L : Nat} {xs : Nat → Int32} {M1 M2 : MzM} {ov : Int64} {bu : Nat × Nat} {n : Nat} {R : MzM → MzM → Prop} (hF1 : mzLive false B1) (hF2 : mzLive true B2) (hl1 : mzLnk false M1) (hl2 : mzLnk true M2) (hR : R M1 M2) (hL : L ≤ 2560) (hn : n + 5 ≤ L) (hb1 : 1 ≤ bu.1) (hb2 : 6 ≤ bu.2) (kk : ∀ (M1 M2 : MzM) (ov : Int64), mzLnk false M1 → mzLnk true M2 → R M1 M2 → LqS G B1 B2 cO o b L xs M1 M2 ov (bu.1 - 1, bu.2 - 6) 733 [(0, .ref b), (1, .ref (mz_ad B1 (0, 0))), (2, .ref (mz_ad B2 (30, 0))), (3, .ref o), (4, .int (Int32.ofNat n))] []) (hs : sim_node R) : LqS G B1 B2 cO o b L xs M1 M2 ov bu 379 [(0, .ref b), (1, .ref (mz_ad B1 (0, 0))), (2, .ref (mz_ad B2 (30, 0))), (3, .ref o), (4, .int (Int32.ofNat n))] [] :=
  lq_aload_n d_L_379 rfl (lq_arg (n := n) (j := 1) d_L_380 d_L_381 d_L_383 d_L_384 d_L_385 rfl rfl (by decide) (by omega) hL (lq_arg (n := n) (j := 2) d_L_386 d_L_387 d_L_389 d_L_390 d_L_391 rfl rfl (by decide) (by omega) hL (lq_call1 (d := 2) (As := [.int (xs (n + 1)), .int (xs (n + 2))]) (st := []) (hF1 0 0 rfl (by decide)) (mzClOf cl_0) d_L_392 cs_PL_node wl_Law_78 wi_PL_node wse_PL_node (Nat.le_of_ble_eq_true rfl) (by decide) (by decide) (MzC.mono (tm_PL_node (d := 0) hF1 hl1 (hs M1 M2 (xs (n + 1)) (xs (n + 2)) hl1 hl2 hR)) (fun r B9 M1' hq => by obtain ⟨rfl, hL1, v, rfl, hq⟩ := hq; exact ⟨rfl, _, rfl, lq_aload_n d_L_395 rfl (lq_arg (n := n) (j := 1) d_L_396 d_L_397 d_L_399 d_L_400 d_L_401 rfl rfl (by decide) (by omega) hL (lq_arg (n := n) (j := 2) d_L_402 d_L_403 d_L_405 d_L_406 d_L_407 rfl rfl (by decide) (by omega) hL (lq_call2 (d := 1) (As := [.int (xs (n + 1)), .int (xs (n + 2))]) (st := [.int v]) (hF2 30 0 rfl (by decide)) (mzClOf cl_10) d_L_408 cs_Mo_node wl_Law_82 wi_Mo_node wse_Mo_node (Nat.le_of_ble_eq_true rfl) (by decide) (by decide) (MzC.mono (tm_Mo_node (d := 0) hF2 hl2 hq) (fun r B9 M2' hq => by obtain ⟨rfl, hL2, w, rfl, hq⟩ := hq; exact ⟨rfl, _, rfl, lq_icmp_eq 733 d_L_411 rfl (fun _ => LqS.bud (Nat.sub_le _ _) (Nat.sub_le _ _) (kk _ _ _ hL1 hL2 hq.2)) (fun hc => absurd hq.1 hc)⟩)))))⟩)))))
theorem arm_content {G : MzG} {B1 B2 : MzB} {cO : ClassId} {o b L : Nat} {xs : Nat → Int32} {M1 M2 : MzM} {ov : Int64} {bu : Nat × Nat} {n : Nat} {R : MzM → MzM → Prop} (hF1 : mzLive false B1) (hF2 : mzLive true B2) (hl1 : mzLnk false M1) (hl2 : mzLnk true M2) (hR : R M1 M2) (hL : L ≤ 2560) (hn : n + 5 ≤ L) (hb1 : 1 ≤ bu.1) (hb2 : 6 ≤ bu.2) (kk : ∀ (M1 M2 : MzM) (ov : Int64), mzLnk false M1 → mzLnk true M2 → R M1 M2 → LqS G B1 B2 cO o b L xs M1 M2 ov (bu.1 - 1, bu.2 - 6) 733 [(0, .ref b), (1, .ref (mz_ad B1 (0, 0))), (2, .ref (mz_ad B2 (30, 0))), (3, .ref o), (4, .int (Int32.ofNat n))] []) (hs : sim_content R) : LqS G B1 B2 cO o b L xs M1 M2 ov bu 416 [(0, .ref b), (1, .ref (mz_ad B1 (0, 0))), (2, .ref (mz_ad B2 (30, 0))), (3, .ref o), (4, .int (Int32.ofNat n))] [] :=
  lq_aload_n d_L_416 rfl (lq_arg (n := n) (j := 1) d_L_417 d_L_418 d_L_420 d_L_421 d_L_422 rfl rfl (by decide) (by omega) hL (lq_arg (n := n) (j := 2) d_L_423 d_L_424 d_L_426 d_L_427 d_L_428 rfl rfl (by decide) (by omega) hL (lq_call1 (d := 1) (As := [.int (xs (n + 1)), .int (xs (n + 2))]) (st := []) (hF1 0 0 rfl (by decide)) (mzClOf cl_0) d_L_429 cs_PL_content wl_Law_83 wi_PL_content wse_PL_content (Nat.le_of_ble_eq_true rfl) (by decide) (by decide) (MzC.mono (tm_PL_content (d := 0) hF1 hl1 (hs M1 M2 (xs (n + 1)) (xs (n + 2)) hl1 hl2 hR)) (fun r B9 M1' hq => by obtain ⟨rfl, hL1, v, rfl, hq⟩ := hq; exact ⟨rfl, _, rfl, lq_aload_n d_L_432 rfl (lq_arg (n := n) (j := 1) d_L_433 d_L_434 d_L_436 d_L_437 d_L_438 rfl rfl (by decide) (by omega) hL (lq_arg (n := n) (j := 2) d_L_439 d_L_440 d_L_442 d_L_443 d_L_444 rfl rfl (by decide) (by omega) hL (lq_call2 (d := 0) (As := [.int (xs (n + 1)), .int (xs (n + 2))]) (st := [.int v]) (hF2 30 0 rfl (by decide)) (mzClOf cl_10) d_L_445 cs_Mo_content wl_Law_86 wi_Mo_content wse_Mo_content (Nat.le_of_ble_eq_true rfl) (by decide) (by decide) (MzC.mono (tm_Mo_content (d := 0) hF2 hl2 hq) (fun r B9 M2' hq => by obtain ⟨rfl, hL2, w, rfl, hq⟩ := hq; exact ⟨rfl, _, rfl, lq_icmp_eq 733 d_L_448 rfl (fun _ => LqS.bud (Nat.sub_le _ _) (Nat.sub_le _ _) (kk _ _ _ hL1 hL2 hq.2)) (fun hc => absurd hq.1 hc)⟩)))))⟩)))))
theorem arm_current {G : MzG} {B1 B2 : MzB} {cO : ClassId} {o b L : Nat} {xs : Nat → Int32} {M1 M2 : MzM} {ov : Int64} {bu : Nat × Nat} {n : Nat} {R : MzM → MzM → Prop} (hF1 : mzLive false B1) (hF2 : mzLive true B2) (hl1 : mzLnk false M1) (hl2 : mzLnk true M2) (hR : R M1 M2) (hL : L ≤ 2560) (hn : n + 5 ≤ L) (hb1 : 1 ≤ bu.1) (hb2 : 6 ≤ bu.2) (kk : ∀ (M1 M2 : MzM) (ov : Int64), mzLnk false M1 → mzLnk true M2 → R M1 M2 → LqS G B1 B2 cO o b L xs M1 M2 ov (bu.1 - 1, bu.2 - 6) 733 [(0, .ref b), (1, .ref (mz_ad B1 (0, 0))), (2, .ref (mz_ad B2 (30, 0))), (3, .ref o), (4, .int (Int32.ofNat n))] []) (hs : sim_current R) : LqS G B1 B2 cO o b L xs M1 M2 ov bu 453 [(0, .ref b), (1, .ref (mz_ad B1 (0, 0))), (2, .ref (mz_ad B2 (30, 0))), (3, .ref o), (4, .int (Int32.ofNat n))] [] :=
  lq_aload_n d_L_453 rfl (lq_arg (n := n) (j := 1) d_L_454 d_L_455 d_L_457 d_L_458 d_L_459 rfl rfl (by decide) (by omega) hL (lq_call1 (d := 1) (As := [.int (xs (n + 1))]) (st := []) (hF1 0 0 rfl (by decide)) (mzClOf cl_0) d_L_460 cs_PL_current wl_Law_87 wi_PL_current wse_PL_current (Nat.le_of_ble_eq_true rfl) (by decide) (by decide) (MzC.mono (tm_PL_current (d := 0) hF1 hl1 (hs M1 M2 (xs (n + 1)) hl1 hl2 hR)) (fun r B9 M1' hq => by obtain ⟨rfl, hL1, v, rfl, hq⟩ := hq; exact ⟨rfl, _, rfl, lq_aload_n d_L_463 rfl (lq_arg (n := n) (j := 1) d_L_464 d_L_465 d_L_467 d_L_468 d_L_469 rfl rfl (by decide) (by omega) hL (lq_call2 (d := 1) (As := [.int (xs (n + 1))]) (st := [.int v]) (hF2 30 0 rfl (by decide)) (mzClOf cl_10) d_L_470 cs_Mo_current wl_Law_90 wi_Mo_current wse_Mo_current (Nat.le_of_ble_eq_true rfl) (by decide) (by decide) (MzC.mono (tm_Mo_current (d := 0) hF2 hl2 hq) (fun r B9 M2' hq => by obtain ⟨rfl, hL2, w, rfl, hq⟩ := hq; exact ⟨rfl, _, rfl, lq_icmp_eq 733 d_L_473 rfl (fun _ => LqS.bud (Nat.sub_le _ _) (Nat.sub_le _ _) (kk _ _ _ hL1 hL2 hq.2)) (fun hc => absurd hq.1 hc)⟩))))⟩))))
theorem arm_running {G : MzG} {B1 B2 : MzB} {cO : ClassId} {o b L : Nat} {xs : Nat → Int32} {M1 M2 : MzM} {ov : Int64} {bu : Nat × Nat} {n : Nat} {R : MzM → MzM → Prop} (hF1 : mzLive false B1) (hF2 : mzLive true B2) (hl1 : mzLnk false M1) (hl2 : mzLnk true M2) (hR : R M1 M2) (hL : L ≤ 2560) (hn : n + 5 ≤ L) (hb1 : 1 ≤ bu.1) (hb2 : 6 ≤ bu.2) (kk : ∀ (M1 M2 : MzM) (ov : Int64), mzLnk false M1 → mzLnk true M2 → R M1 M2 → LqS G B1 B2 cO o b L xs M1 M2 ov (bu.1 - 1, bu.2 - 6) 733 [(0, .ref b), (1, .ref (mz_ad B1 (0, 0))), (2, .ref (mz_ad B2 (30, 0))), (3, .ref o), (4, .int (Int32.ofNat n))] []) (hs : sim_running R) : LqS G B1 B2 cO o b L xs M1 M2 ov bu 478 [(0, .ref b), (1, .ref (mz_ad B1 (0, 0))), (2, .ref (mz_ad B2 (30, 0))), (3, .ref o), (4, .int (Int32.ofNat n))] [] :=
  lq_aload_n d_L_478 rfl (lq_arg (n := n) (j := 1) d_L_479 d_L_480 d_L_482 d_L_483 d_L_484 rfl rfl (by decide) (by omega) hL (lq_call1 (d := 1) (As := [.int (xs (n + 1))]) (st := []) (hF1 0 0 rfl (by decide)) (mzClOf cl_0) d_L_485 cs_PL_running wl_Law_91 wi_PL_running wse_PL_running (Nat.le_of_ble_eq_true rfl) (by decide) (by decide) (MzC.mono (tm_PL_running (d := 0) hF1 hl1 (hs M1 M2 (xs (n + 1)) hl1 hl2 hR)) (fun r B9 M1' hq => by obtain ⟨rfl, hL1, v, rfl, hq⟩ := hq; exact ⟨rfl, _, rfl, lq_aload_n d_L_488 rfl (lq_arg (n := n) (j := 1) d_L_489 d_L_490 d_L_492 d_L_493 d_L_494 rfl rfl (by decide) (by omega) hL (lq_call2 (d := 1) (As := [.int (xs (n + 1))]) (st := [.int v]) (hF2 30 0 rfl (by decide)) (mzClOf cl_10) d_L_495 cs_Mo_running wl_Law_94 wi_Mo_running wse_Mo_running (Nat.le_of_ble_eq_true rfl) (by decide) (by decide) (MzC.mono (tm_Mo_running (d := 0) hF2 hl2 hq) (fun r B9 M2' hq => by obtain ⟨rfl, hL2, w, rfl, hq⟩ := hq; exact ⟨rfl, _, rfl, lq_icmp_eq 733 d_L_498 rfl (fun _ => LqS.bud (Nat.sub_le _ _) (Nat.sub_le _ _) (kk _ _ _ hL1 hL2 hq.2)) (fun hc => absurd hq.1 hc)⟩))))⟩))))
theorem arm_fill {G : MzG} {B1 B2 : MzB} {cO : ClassId} {o b L : Nat} {xs : Nat → Int32} {M1 M2 : MzM} {ov : Int64} {bu : Nat × Nat} {n : Nat} {R : MzM → MzM → Prop} (hF1 : mzLive false B1) (hF2 : mzLive true B2) (hl1 : mzLnk false M1) (hl2 : mzLnk true M2) (hR : R M1 M2) (hL : L ≤ 2560) (hn : n + 5 ≤ L) (hb1 : 1 ≤ bu.1) (hb2 : 6 ≤ bu.2) (kk : ∀ (M1 M2 : MzM) (ov : Int64), mzLnk false M1 → mzLnk true M2 → R M1 M2 → LqS G B1 B2 cO o b L xs M1 M2 ov (bu.1 - 1, bu.2 - 6) 733 [(0, .ref b), (1, .ref (mz_ad B1 (0, 0))), (2, .ref (mz_ad B2 (30, 0))), (3, .ref o), (4, .int (Int32.ofNat n))] []) (hs : sim_fill R) : LqS G B1 B2 cO o b L xs M1 M2 ov bu 503 [(0, .ref b), (1, .ref (mz_ad B1 (0, 0))), (2, .ref (mz_ad B2 (30, 0))), (3, .ref o), (4, .int (Int32.ofNat n))] [] :=
  lq_aload_n d_L_503 rfl (lq_arg (n := n) (j := 1) d_L_504 d_L_505 d_L_507 d_L_508 d_L_509 rfl rfl (by decide) (by omega) hL (lq_arg (n := n) (j := 2) d_L_510 d_L_511 d_L_513 d_L_514 d_L_515 rfl rfl (by decide) (by omega) hL (lq_arg (n := n) (j := 3) d_L_516 d_L_517 d_L_519 d_L_520 d_L_521 rfl rfl (by decide) (by omega) hL (lq_arg (n := n) (j := 4) d_L_522 d_L_523 d_L_525 d_L_526 d_L_527 rfl rfl (by decide) (by omega) hL (lq_call1 (d := 1) (As := [.int (xs (n + 1)), .int (xs (n + 2)), .int (xs (n + 3)), .int (xs (n + 4))]) (st := []) (hF1 0 0 rfl (by decide)) (mzClOf cl_0) d_L_528 cs_PL_fill wl_Law_95 wi_PL_fill wse_PL_fill (Nat.le_of_ble_eq_true rfl) (by decide) (by decide) (MzC.mono (tm_PL_fill (d := 0) hF1 hl1 (hs M1 M2 (xs (n + 1)) (xs (n + 2)) (xs (n + 3)) (xs (n + 4)) hl1 hl2 hR)) (fun r B9 M1' hq => by obtain ⟨rfl, hL1, v, rfl, hq⟩ := hq; exact ⟨rfl, _, rfl, lq_aload_n d_L_531 rfl (lq_arg (n := n) (j := 1) d_L_532 d_L_533 d_L_535 d_L_536 d_L_537 rfl rfl (by decide) (by omega) hL (lq_arg (n := n) (j := 2) d_L_538 d_L_539 d_L_541 d_L_542 d_L_543 rfl rfl (by decide) (by omega) hL (lq_arg (n := n) (j := 3) d_L_544 d_L_545 d_L_547 d_L_548 d_L_549 rfl rfl (by decide) (by omega) hL (lq_arg (n := n) (j := 4) d_L_550 d_L_551 d_L_553 d_L_554 d_L_555 rfl rfl (by decide) (by omega) hL (lq_call2 (d := 0) (As := [.int (xs (n + 1)), .int (xs (n + 2)), .int (xs (n + 3)), .int (xs (n + 4))]) (st := [.int v]) (hF2 30 0 rfl (by decide)) (mzClOf cl_10) d_L_556 cs_Mo_fill wl_Law_99 wi_Mo_fill wse_Mo_fill (Nat.le_of_ble_eq_true rfl) (by decide) (by decide) (MzC.mono (tm_Mo_fill (d := 0) hF2 hl2 hq) (fun r B9 M2' hq => by obtain ⟨rfl, hL2, w, rfl, hq⟩ := hq; exact ⟨rfl, _, rfl, lq_icmp_eq 733 d_L_559 rfl (fun _ => LqS.bud (Nat.sub_le _ _) (Nat.sub_le _ _) (kk _ _ _ hL1 hL2 hq.2)) (fun hc => absurd hq.1 hc)⟩)))))))⟩)))))))
theorem arm_shelf {G : MzG} {B1 B2 : MzB} {cO : ClassId} {o b L : Nat} {xs : Nat → Int32} {M1 M2 : MzM} {ov : Int64} {bu : Nat × Nat} {n : Nat} {R : MzM → MzM → Prop} (hF1 : mzLive false B1) (hF2 : mzLive true B2) (hl1 : mzLnk false M1) (hl2 : mzLnk true M2) (hR : R M1 M2) (hL : L ≤ 2560) (hn : n + 5 ≤ L) (hb1 : 1 ≤ bu.1) (hb2 : 6 ≤ bu.2) (kk : ∀ (M1 M2 : MzM) (ov : Int64), mzLnk false M1 → mzLnk true M2 → R M1 M2 → LqS G B1 B2 cO o b L xs M1 M2 ov (bu.1 - 1, bu.2 - 6) 733 [(0, .ref b), (1, .ref (mz_ad B1 (0, 0))), (2, .ref (mz_ad B2 (30, 0))), (3, .ref o), (4, .int (Int32.ofNat n))] []) (hs : sim_shelf R) : LqS G B1 B2 cO o b L xs M1 M2 ov bu 564 [(0, .ref b), (1, .ref (mz_ad B1 (0, 0))), (2, .ref (mz_ad B2 (30, 0))), (3, .ref o), (4, .int (Int32.ofNat n))] [] :=
  lq_aload_n d_L_564 rfl (lq_arg (n := n) (j := 1) d_L_565 d_L_566 d_L_568 d_L_569 d_L_570 rfl rfl (by decide) (by omega) hL (lq_arg (n := n) (j := 2) d_L_571 d_L_572 d_L_574 d_L_575 d_L_576 rfl rfl (by decide) (by omega) hL (lq_call1 (d := 1) (As := [.int (xs (n + 1)), .int (xs (n + 2))]) (st := []) (hF1 0 0 rfl (by decide)) (mzClOf cl_0) d_L_577 cs_PL_shelf wl_Law_100 wi_PL_shelf wse_PL_shelf (Nat.le_of_ble_eq_true rfl) (by decide) (by decide) (MzC.mono (tm_PL_shelf (d := 0) hF1 hl1 (hs M1 M2 (xs (n + 1)) (xs (n + 2)) hl1 hl2 hR)) (fun r B9 M1' hq => by obtain ⟨rfl, hL1, v, rfl, hq⟩ := hq; exact ⟨rfl, _, rfl, lq_aload_n d_L_580 rfl (lq_arg (n := n) (j := 1) d_L_581 d_L_582 d_L_584 d_L_585 d_L_586 rfl rfl (by decide) (by omega) hL (lq_arg (n := n) (j := 2) d_L_587 d_L_588 d_L_590 d_L_591 d_L_592 rfl rfl (by decide) (by omega) hL (lq_call2 (d := 0) (As := [.int (xs (n + 1)), .int (xs (n + 2))]) (st := [.int v]) (hF2 30 0 rfl (by decide)) (mzClOf cl_10) d_L_593 cs_Mo_shelf wl_Law_103 wi_Mo_shelf wse_Mo_shelf (Nat.le_of_ble_eq_true rfl) (by decide) (by decide) (MzC.mono (tm_Mo_shelf (d := 0) hF2 hl2 hq) (fun r B9 M2' hq => by obtain ⟨rfl, hL2, w, rfl, hq⟩ := hq; exact ⟨rfl, _, rfl, lq_icmp_eq 733 d_L_596 rfl (fun _ => LqS.bud (Nat.sub_le _ _) (Nat.sub_le _ _) (kk _ _ _ hL1 hL2 hq.2)) (fun hc => absurd hq.1 hc)⟩)))))⟩)))))
theorem arm_crash {G : MzG} {B1 B2 : MzB} {cO : ClassId} {o b L : Nat} {xs : Nat → Int32} {M1 M2 : MzM} {ov : Int64} {bu : Nat × Nat} {n : Nat} {R : MzM → MzM → Prop} (hF1 : mzLive false B1) (hF2 : mzLive true B2) (hl1 : mzLnk false M1) (hl2 : mzLnk true M2) (hR : R M1 M2) (hL : L ≤ 2560) (hn : n + 5 ≤ L) (hb1 : 1 ≤ bu.1) (hb2 : 6 ≤ bu.2) (kk : ∀ (M1 M2 : MzM) (ov : Int64), mzLnk false M1 → mzLnk true M2 → R M1 M2 → LqS G B1 B2 cO o b L xs M1 M2 ov (bu.1 - 1, bu.2 - 6) 733 [(0, .ref b), (1, .ref (mz_ad B1 (0, 0))), (2, .ref (mz_ad B2 (30, 0))), (3, .ref o), (4, .int (Int32.ofNat n))] []) (hs : sim_crash R) : LqS G B1 B2 cO o b L xs M1 M2 ov bu 318 [(0, .ref b), (1, .ref (mz_ad B1 (0, 0))), (2, .ref (mz_ad B2 (30, 0))), (3, .ref o), (4, .int (Int32.ofNat n))] [] :=
  lq_aload_n d_L_318 rfl (lq_call1 (d := 4) (As := []) (st := []) (hF1 0 0 rfl (by decide)) (mzClOf cl_0) d_L_319 cs_PL_crash wl_Law_66 wi_PL_crash wse_PL_crash (Nat.le_of_ble_eq_true rfl) (by decide) (by decide) (MzC.mono (tm_PL_crash (d := 0) hF1 hl1 (hs M1 M2 hl1 hl2 hR)) (fun r B9 M1' hq => by obtain ⟨rfl, hL1, rfl, hq⟩ := hq; exact ⟨rfl, none, rfl, lq_aload_n d_L_322 rfl (lq_call2 (d := 4) (As := []) (st := []) (hF2 30 0 rfl (by decide)) (mzClOf cl_10) d_L_323 cs_Mo_crash wl_Law_69 wi_Mo_crash wse_Mo_crash (Nat.le_of_ble_eq_true rfl) (by decide) (by decide) (MzC.mono (tm_Mo_crash (d := 0) hF2 hl2 hq) (fun r B9 M2' hq => by obtain ⟨rfl, hL2, rfl, hq⟩ := hq; exact ⟨rfl, none, rfl, lq_goto 733 d_L_326 rfl (LqS.bud (Nat.sub_le _ _) (Nat.sub_le _ _) (kk _ _ _ hL1 hL2 hq))⟩)))⟩)))
theorem arm_close {G : MzG} {B1 B2 : MzB} {cO : ClassId} {o b L : Nat} {xs : Nat → Int32} {M1 M2 : MzM} {ov : Int64} {bu : Nat × Nat} {n : Nat} {R : MzM → MzM → Prop} (hF1 : mzLive false B1) (hF2 : mzLive true B2) (hl1 : mzLnk false M1) (hl2 : mzLnk true M2) (hR : R M1 M2) (hL : L ≤ 2560) (hn : n + 5 ≤ L) (hb1 : 1 ≤ bu.1) (hb2 : 6 ≤ bu.2) (kk : ∀ (M1 M2 : MzM) (ov : Int64), mzLnk false M1 → mzLnk true M2 → R M1 M2 → LqS G B1 B2 cO o b L xs M1 M2 ov (bu.1 - 1, bu.2 - 6) 733 [(0, .ref b), (1, .ref (mz_ad B1 (0, 0))), (2, .ref (mz_ad B2 (30, 0))), (3, .ref o), (4, .int (Int32.ofNat n))] []) (hs : sim_close R) : LqS G B1 B2 cO o b L xs M1 M2 ov bu 153 [(0, .ref b), (1, .ref (mz_ad B1 (0, 0))), (2, .ref (mz_ad B2 (30, 0))), (3, .ref o), (4, .int (Int32.ofNat n))] [] :=
  lq_aload_n d_L_153 rfl (lq_arg (n := n) (j := 1) d_L_154 d_L_155 d_L_157 d_L_158 d_L_159 rfl rfl (by decide) (by omega) hL (lq_callH (d := 7) (hh := hh_Law_close) (As := [.ref (mz_ad B1 (0, 0)), .int (xs (n + 1))]) (st := []) d_L_160 wcw_Law_close wn_Law wl_Law_44 ws_Law_close cy_Law_close (by decide) (Nat.le_of_ble_eq_true rfl) (by decide) hb1 hb2 (th_Law_close (d := 0) hF1 hl1 (hs M1 M2 ov (xs (n + 1)) hl1 hl2 hR)) (fun k M1' ov' hq => by obtain ⟨hL1, hq⟩ := hq; exact lq_istore d_L_163 (by decide) (lq_aload_n d_L_165 rfl (lq_arg (n := n) (j := 1) d_L_166 d_L_167 d_L_169 d_L_170 d_L_171 rfl rfl (by decide) (by omega) hL (lq_call2 (d := 5) (As := [.int (xs (n + 1))]) (st := []) (hF2 30 0 rfl (by decide)) (mzClOf cl_10) d_L_172 cs_Mo_close wl_Law_49 wi_Mo_close wse_Mo_close (Nat.le_of_ble_eq_true rfl) (by decide) (by decide) (MzC.mono (tm_Mo_close (d := 0) hF2 hl2 hq) (fun r B9 M2' hq => by obtain ⟨rfl, hL2, rfl, hq⟩ := hq; exact ⟨rfl, none, rfl, lq_aload_n d_L_175 rfl (lq_call2 (d := 0) (As := []) (st := []) (hF2 30 0 rfl (by decide)) (mzClOf cl_10) d_L_176 cs_Mo_thrown wl_Law_50 wi_Mo_thrown wse_Mo_thrown (Nat.le_of_ble_eq_true rfl) (by decide) (by decide) (MzC.mono (tm_Mo_thrown (d := 0) hF2 hL2 hq) (fun r B9 M2'' hq => by obtain ⟨rfl, hL3, t, rfl, hq⟩ := hq; exact ⟨rfl, _, rfl, lq_iload d_L_179 rfl (lq_icmp_eq 186 d_L_181 rfl (fun _ => lq_goto 733 d_L_186 rfl (LqS.loc [(0, .ref b), (1, .ref (mz_ad B1 (0, 0))), (2, .ref (mz_ad B2 (30, 0))), (3, .ref o), (4, .int (Int32.ofNat n))] ⟨rfl, rfl, rfl, rfl, rfl, trivial⟩ (kk _ _ _ hL1 hL3 hq.2))) (fun hc => absurd hq.1 hc))⟩)))⟩))))))))
theorem arm_bring {G : MzG} {B1 B2 : MzB} {cO : ClassId} {o b L : Nat} {xs : Nat → Int32} {M1 M2 : MzM} {ov : Int64} {bu : Nat × Nat} {n : Nat} {R : MzM → MzM → Prop} (hF1 : mzLive false B1) (hF2 : mzLive true B2) (hl1 : mzLnk false M1) (hl2 : mzLnk true M2) (hR : R M1 M2) (hL : L ≤ 2560) (hn : n + 5 ≤ L) (hb1 : 1 ≤ bu.1) (hb2 : 6 ≤ bu.2) (kk : ∀ (M1 M2 : MzM) (ov : Int64), mzLnk false M1 → mzLnk true M2 → R M1 M2 → LqS G B1 B2 cO o b L xs M1 M2 ov (bu.1 - 1, bu.2 - 6) 733 [(0, .ref b), (1, .ref (mz_ad B1 (0, 0))), (2, .ref (mz_ad B2 (30, 0))), (3, .ref o), (4, .int (Int32.ofNat n))] []) (hs : sim_bring R) : LqS G B1 B2 cO o b L xs M1 M2 ov bu 189 [(0, .ref b), (1, .ref (mz_ad B1 (0, 0))), (2, .ref (mz_ad B2 (30, 0))), (3, .ref o), (4, .int (Int32.ofNat n))] [] :=
  lq_aload_n d_L_189 rfl (lq_arg (n := n) (j := 1) d_L_190 d_L_191 d_L_193 d_L_194 d_L_195 rfl rfl (by decide) (by omega) hL (lq_arg (n := n) (j := 2) d_L_196 d_L_197 d_L_199 d_L_200 d_L_201 rfl rfl (by decide) (by omega) hL (lq_callH (d := 7) (hh := hh_Law_bring) (As := [.ref (mz_ad B1 (0, 0)), .int (xs (n + 1)), .int (xs (n + 2))]) (st := []) d_L_202 wcw_Law_bring wn_Law wl_Law_53 ws_Law_bring cy_Law_bring (by decide) (Nat.le_of_ble_eq_true rfl) (by decide) hb1 hb2 (th_Law_bring (d := 0) hF1 hl1 (hs M1 M2 ov (xs (n + 1)) (xs (n + 2)) hl1 hl2 hR)) (fun k M1' ov' hq => by obtain ⟨hL1, hq⟩ := hq; exact lq_istore d_L_205 (by decide) (lq_aload_n d_L_207 rfl (lq_arg (n := n) (j := 1) d_L_208 d_L_209 d_L_211 d_L_212 d_L_213 rfl rfl (by decide) (by omega) hL (lq_arg (n := n) (j := 2) d_L_214 d_L_215 d_L_217 d_L_218 d_L_219 rfl rfl (by decide) (by omega) hL (lq_call2 (d := 2) (As := [.int (xs (n + 1)), .int (xs (n + 2))]) (st := []) (hF2 30 0 rfl (by decide)) (mzClOf cl_10) d_L_220 cs_Mo_bring wl_Law_56 wi_Mo_bring wse_Mo_bring (Nat.le_of_ble_eq_true rfl) (by decide) (by decide) (MzC.mono (tm_Mo_bring (d := 0) hF2 hl2 hq) (fun r B9 M2' hq => by obtain ⟨rfl, hL2, rfl, hq⟩ := hq; exact ⟨rfl, none, rfl, lq_aload_n d_L_223 rfl (lq_call2 (d := 0) (As := []) (st := []) (hF2 30 0 rfl (by decide)) (mzClOf cl_10) d_L_224 cs_Mo_thrown wl_Law_50 wi_Mo_thrown wse_Mo_thrown (Nat.le_of_ble_eq_true rfl) (by decide) (by decide) (MzC.mono (tm_Mo_thrown (d := 0) hF2 hL2 hq) (fun r B9 M2'' hq => by obtain ⟨rfl, hL3, t, rfl, hq⟩ := hq; exact ⟨rfl, _, rfl, lq_iload d_L_227 rfl (lq_icmp_eq 234 d_L_229 rfl (fun _ => lq_goto 733 d_L_234 rfl (LqS.loc [(0, .ref b), (1, .ref (mz_ad B1 (0, 0))), (2, .ref (mz_ad B2 (30, 0))), (3, .ref o), (4, .int (Int32.ofNat n))] ⟨rfl, rfl, rfl, rfl, rfl, trivial⟩ (kk _ _ _ hL1 hL3 hq.2))) (fun hc => absurd hq.1 hc))⟩)))⟩))))))))))
theorem lg_cmp0 {x y : Int64} (h : x = y) : lg_cmp x y = 0 := by subst h; simp [lg_cmp]
theorem arm_take {G : MzG} {B1 B2 : MzB} {cO : ClassId} {o b L : Nat} {xs : Nat → Int32} {M1 M2 : MzM} {ov : Int64} {bu : Nat × Nat} {n : Nat} {R : MzM → MzM → Prop} (hF1 : mzLive false B1) (hF2 : mzLive true B2) (hl1 : mzLnk false M1) (hl2 : mzLnk true M2) (hR : R M1 M2) (hL : L ≤ 2560) (hn : n + 5 ≤ L) (hb1 : 1 ≤ bu.1) (hb2 : 6 ≤ bu.2) (kk : ∀ (M1 M2 : MzM) (ov : Int64), mzLnk false M1 → mzLnk true M2 → R M1 M2 → LqS G B1 B2 cO o b L xs M1 M2 ov (bu.1 - 1, bu.2 - 6) 733 [(0, .ref b), (1, .ref (mz_ad B1 (0, 0))), (2, .ref (mz_ad B2 (30, 0))), (3, .ref o), (4, .int (Int32.ofNat n))] []) (hs : sim_take R) : LqS G B1 B2 cO o b L xs M1 M2 ov bu 237 [(0, .ref b), (1, .ref (mz_ad B1 (0, 0))), (2, .ref (mz_ad B2 (30, 0))), (3, .ref o), (4, .int (Int32.ofNat n))] [] :=
  lq_aload_n d_L_237 rfl (lq_arg (n := n) (j := 1) d_L_238 d_L_239 d_L_241 d_L_242 d_L_243 rfl rfl (by decide) (by omega) hL (lq_aload_n d_L_244 rfl (lq_callH (d := 7) (hh := hh_Law_take) (As := [.ref (mz_ad B1 (0, 0)), .int (xs (n + 1)), .ref o]) (st := []) d_L_245 wcw_Law_take wn_Law wl_Law_57 ws_Law_take cy_Law_take (by decide) (Nat.le_of_ble_eq_true rfl) (by decide) hb1 hb2 (th_Law_take (d := 0) hF1 hl1 (hs M1 M2 ov (xs (n + 1)) hl1 hl2 hR)) (fun k M1' ov' hq => by obtain ⟨hL1, hq⟩ := hq; exact lq_istore d_L_248 (by decide) (lq_aload_n d_L_250 rfl (lq_arg (n := n) (j := 1) d_L_251 d_L_252 d_L_254 d_L_255 d_L_256 rfl rfl (by decide) (by omega) hL (lq_call2 (d := 5) (As := [.int (xs (n + 1))]) (st := []) (hF2 30 0 rfl (by decide)) (mzClOf cl_10) d_L_257 cs_Mo_take wl_Law_60 wi_Mo_take wse_Mo_take (Nat.le_of_ble_eq_true rfl) (by decide) (by decide) (MzC.mono (tm_Mo_take (d := 0) hF2 hl2 hq) (fun r B9 M2' hq => by obtain ⟨rfl, hL2, w, rfl, hq⟩ := hq; exact ⟨rfl, _, rfl, lq_istore d_L_260 (by decide) (lq_aload_n d_L_262 rfl (lq_call2 (d := 0) (As := []) (st := []) (hF2 30 0 rfl (by decide)) (mzClOf cl_10) d_L_263 cs_Mo_thrown wl_Law_50 wi_Mo_thrown wse_Mo_thrown (Nat.le_of_ble_eq_true rfl) (by decide) (by decide) (MzC.mono (tm_Mo_thrown (d := 0) hF2 hL2 hq) (fun r B9 M2'' hq => by obtain ⟨rfl, hL3, t, rfl, hq⟩ := hq; exact ⟨rfl, _, rfl, lq_iload d_L_266 rfl (lq_icmp_eq 273 d_L_268 rfl (fun _ => lq_iload d_L_273 rfl (lq_if_ne 290 d_L_275 rfl (fun _ => lq_goto 733 d_L_290 rfl (LqS.loc [(0, .ref b), (1, .ref (mz_ad B1 (0, 0))), (2, .ref (mz_ad B2 (30, 0))), (3, .ref o), (4, .int (Int32.ofNat n))] ⟨rfl, rfl, rfl, rfl, rfl, trivial⟩ (kk _ _ _ hL1 hL3 hq.2.2))) (fun hk => lq_aload_n d_L_278 rfl (lq_iconst 0 d_L_279 (by decide) (lq_laload d_L_280 (lq_iload d_L_281 rfl (lq_i2l d_L_283 (lq_lcmp d_L_284 (lq_if_eq 290 d_L_285 rfl (fun _ => lq_goto 733 d_L_290 rfl (LqS.loc [(0, .ref b), (1, .ref (mz_ad B1 (0, 0))), (2, .ref (mz_ad B2 (30, 0))), (3, .ref o), (4, .int (Int32.ofNat n))] ⟨rfl, rfl, rfl, rfl, rfl, trivial⟩ (kk _ _ _ hL1 hL3 hq.2.2))) (fun hc => absurd (lg_cmp0 (hq.2.1 hk)) hc)))))))))) (fun hc => absurd hq.1 hc))⟩))))⟩)))))))))
theorem arm_step {G : MzG} {B1 B2 : MzB} {cO : ClassId} {o b L : Nat} {xs : Nat → Int32} {M1 M2 : MzM} {ov : Int64} {bu : Nat × Nat} {n : Nat} {R : MzM → MzM → Prop} (hF1 : mzLive false B1) (hF2 : mzLive true B2) (hl1 : mzLnk false M1) (hl2 : mzLnk true M2) (hR : R M1 M2) (hL : L ≤ 2560) (hn : n + 5 ≤ L) (hb1 : 1 ≤ bu.1) (hb2 : 6 ≤ bu.2) (kk : ∀ (M1 M2 : MzM) (ov : Int64), mzLnk false M1 → mzLnk true M2 → R M1 M2 → LqS G B1 B2 cO o b L xs M1 M2 ov (bu.1 - 1, bu.2 - 6) 733 [(0, .ref b), (1, .ref (mz_ad B1 (0, 0))), (2, .ref (mz_ad B2 (30, 0))), (3, .ref o), (4, .int (Int32.ofNat n))] []) (hs : sim_step R) : LqS G B1 B2 cO o b L xs M1 M2 ov bu 689 [(0, .ref b), (1, .ref (mz_ad B1 (0, 0))), (2, .ref (mz_ad B2 (30, 0))), (3, .ref o), (4, .int (Int32.ofNat n))] [] :=
  lq_aload_n d_L_689 rfl (lq_aload_n d_L_690 rfl (lq_callH (d := 11) (hh := hh_Law_step) (As := [.ref (mz_ad B1 (0, 0)), .ref o]) (st := []) d_L_691 wcw_Law_step wn_Law wl_Law_108 ws_Law_step cy_Law_step (by decide) (Nat.le_of_ble_eq_true rfl) (by decide) hb1 hb2 (th_Law_step (d := 0) hF1 hl1 (hs M1 M2 ov  hl1 hl2 hR)) (fun k M1' ov' hq => by obtain ⟨hL1, hq⟩ := hq; exact lq_istore d_L_694 (by decide) (lq_aload_n d_L_696 rfl (lq_call2 (d := 12) (As := []) (st := []) (hF2 30 0 rfl (by decide)) (mzClOf cl_10) d_L_697 cs_Mo_step wl_Law_111 wi_Mo_step wse_Mo_step (Nat.le_of_ble_eq_true rfl) (by decide) (by decide) (MzC.mono (tm_Mo_step (d := 0) hF2 hl2 hq) (fun r B9 M2' hq => by obtain ⟨rfl, hL2, w, rfl, hq⟩ := hq; exact ⟨rfl, _, rfl, lq_istore d_L_700 (by decide) (lq_aload_n d_L_702 rfl (lq_call2 (d := 0) (As := []) (st := []) (hF2 30 0 rfl (by decide)) (mzClOf cl_10) d_L_703 cs_Mo_thrown wl_Law_50 wi_Mo_thrown wse_Mo_thrown (Nat.le_of_ble_eq_true rfl) (by decide) (by decide) (MzC.mono (tm_Mo_thrown (d := 0) hF2 hL2 hq) (fun r B9 M2'' hq => by obtain ⟨rfl, hL3, t, rfl, hq⟩ := hq; exact ⟨rfl, _, rfl, lq_iload d_L_706 rfl (lq_icmp_eq 713 d_L_708 rfl (fun _ => lq_iload d_L_713 rfl (lq_if_ne 730 d_L_715 rfl (fun _ => lq_goto 733 d_L_730 rfl (LqS.loc [(0, .ref b), (1, .ref (mz_ad B1 (0, 0))), (2, .ref (mz_ad B2 (30, 0))), (3, .ref o), (4, .int (Int32.ofNat n))] ⟨rfl, rfl, rfl, rfl, rfl, trivial⟩ (kk _ _ _ hL1 hL3 hq.2.2))) (fun hk => lq_aload_n d_L_718 rfl (lq_iconst 0 d_L_719 (by decide) (lq_laload d_L_720 (lq_iload d_L_721 rfl (lq_i2l d_L_723 (lq_lcmp d_L_724 (lq_if_eq 730 d_L_725 rfl (fun _ => lq_goto 733 d_L_730 rfl (LqS.loc [(0, .ref b), (1, .ref (mz_ad B1 (0, 0))), (2, .ref (mz_ad B2 (30, 0))), (3, .ref o), (4, .int (Int32.ofNat n))] ⟨rfl, rfl, rfl, rfl, rfl, trivial⟩ (kk _ _ _ hL1 hL3 hq.2.2))) (fun hc => absurd (lg_cmp0 (hq.2.1 hk)) hc)))))))))) (fun hc => absurd hq.1 hc))⟩))))⟩)))))))
theorem arm_job {G : MzG} {B1 B2 : MzB} {cO : ClassId} {o b L : Nat} {xs : Nat → Int32} {M1 M2 : MzM} {ov : Int64} {bu : Nat × Nat} {n : Nat} {R : MzM → MzM → Prop} (hF1 : mzLive false B1) (hF2 : mzLive true B2) (hl1 : mzLnk false M1) (hl2 : mzLnk true M2) (hR : R M1 M2) (hL : L ≤ 2560) (hn : n + 5 ≤ L) (hb1 : 1 ≤ bu.1) (hb2 : 6 ≤ bu.2) (kk : ∀ (M1 M2 : MzM) (ov : Int64), mzLnk false M1 → mzLnk true M2 → R M1 M2 → LqS G B1 B2 cO o b L xs M1 M2 ov (bu.1 - 1, bu.2 - 6) 733 [(0, .ref b), (1, .ref (mz_ad B1 (0, 0))), (2, .ref (mz_ad B2 (30, 0))), (3, .ref o), (4, .int (Int32.ofNat n))] []) (hs : sim_job R) : LqS G B1 B2 cO o b L xs M1 M2 ov bu 601 [(0, .ref b), (1, .ref (mz_ad B1 (0, 0))), (2, .ref (mz_ad B2 (30, 0))), (3, .ref o), (4, .int (Int32.ofNat n))] [] := by
  by_cases hz : xs (n + 1) = 0
  · exact lq_aload_n d_L_601 rfl (lq_arg (n := n) (j := 1) d_L_602 d_L_603 d_L_605 d_L_606 d_L_607 rfl rfl (by decide) (by omega) hL (lq_if_eq 615 d_L_608 rfl (fun _ => lq_iconst 0 d_L_615 (by decide) (lq_arg (n := n) (j := 2) d_L_616 d_L_617 d_L_619 d_L_620 d_L_621 rfl rfl (by decide) (by omega) hL (lq_arg (n := n) (j := 3) d_L_622 d_L_623 d_L_625 d_L_626 d_L_627 rfl rfl (by decide) (by omega) hL (lq_arg (n := n) (j := 4) d_L_628 d_L_629 d_L_631 d_L_632 d_L_633 rfl rfl (by decide) (by omega) hL (lq_callH (d := 7) (hh := hh_Law_job) (As := [.ref (mz_ad B1 (0, 0)), .int 0, .int (xs (n + 2)), .int (xs (n + 3)), .int (xs (n + 4))]) (st := []) d_L_634 wcw_Law_job wn_Law wl_Law_104 ws_Law_job cy_Law_job (by decide) (Nat.le_of_ble_eq_true rfl) (by decide) hb1 hb2 (th_Law_job (d := 0) hF1 hl1 (hs M1 M2 ov 0 (xs (n + 2)) (xs (n + 3)) (xs (n + 4)) (by decide) hl1 hl2 hR)) (fun k M1' ov' hq => by obtain ⟨hL1, hq⟩ := hq; exact lq_istore d_L_637 (by decide) (lq_aload_n d_L_639 rfl (lq_arg (n := n) (j := 1) d_L_640 d_L_641 d_L_643 d_L_644 d_L_645 rfl rfl (by decide) (by omega) hL (lq_if_eq 653 d_L_646 rfl (fun _ => lq_iconst 0 d_L_653 (by decide) (lq_arg (n := n) (j := 2) d_L_654 d_L_655 d_L_657 d_L_658 d_L_659 rfl rfl (by decide) (by omega) hL (lq_arg (n := n) (j := 3) d_L_660 d_L_661 d_L_663 d_L_664 d_L_665 rfl rfl (by decide) (by omega) hL (lq_arg (n := n) (j := 4) d_L_666 d_L_667 d_L_669 d_L_670 d_L_671 rfl rfl (by decide) (by omega) hL (lq_call2 (d := 4) (As := [.int 0, .int (xs (n + 2)), .int (xs (n + 3)), .int (xs (n + 4))]) (st := []) (hF2 30 0 rfl (by decide)) (mzClOf cl_10) d_L_672 cs_Mo_job wl_Law_107 wi_Mo_job wse_Mo_job (Nat.le_of_ble_eq_true rfl) (by decide) (by decide) (MzC.mono (tm_Mo_job (d := 0) hF2 hl2 hq) (fun r B9 M2' hq => by obtain ⟨rfl, hL2, rfl, hq⟩ := hq; exact ⟨rfl, none, rfl, lq_aload_n d_L_675 rfl (lq_call2 (d := 0) (As := []) (st := []) (hF2 30 0 rfl (by decide)) (mzClOf cl_10) d_L_676 cs_Mo_thrown wl_Law_50 wi_Mo_thrown wse_Mo_thrown (Nat.le_of_ble_eq_true rfl) (by decide) (by decide) (MzC.mono (tm_Mo_thrown (d := 0) hF2 hL2 hq) (fun r B9 M2'' hq => by obtain ⟨rfl, hL3, t, rfl, hq⟩ := hq; exact ⟨rfl, _, rfl, lq_iload d_L_679 rfl (lq_icmp_eq 686 d_L_681 rfl (fun _ => lq_goto 733 d_L_686 rfl (LqS.loc [(0, .ref b), (1, .ref (mz_ad B1 (0, 0))), (2, .ref (mz_ad B2 (30, 0))), (3, .ref o), (4, .int (Int32.ofNat n))] ⟨rfl, rfl, rfl, rfl, rfl, trivial⟩ (kk _ _ _ hL1 hL3 hq.2))) (fun hc => absurd hq.1 hc))⟩)))⟩))))))) (fun hc => absurd hz hc)))))))))) (fun hc => absurd hz hc)))
  · exact lq_aload_n d_L_601 rfl (lq_arg (n := n) (j := 1) d_L_602 d_L_603 d_L_605 d_L_606 d_L_607 rfl rfl (by decide) (by omega) hL (lq_if_eq 615 d_L_608 rfl (fun hc => absurd hc hz) (fun _ => lq_iconst 1 d_L_611 (by decide) (lq_goto 616 d_L_612 rfl (lq_arg (n := n) (j := 2) d_L_616 d_L_617 d_L_619 d_L_620 d_L_621 rfl rfl (by decide) (by omega) hL (lq_arg (n := n) (j := 3) d_L_622 d_L_623 d_L_625 d_L_626 d_L_627 rfl rfl (by decide) (by omega) hL (lq_arg (n := n) (j := 4) d_L_628 d_L_629 d_L_631 d_L_632 d_L_633 rfl rfl (by decide) (by omega) hL (lq_callH (d := 7) (hh := hh_Law_job) (As := [.ref (mz_ad B1 (0, 0)), .int 1, .int (xs (n + 2)), .int (xs (n + 3)), .int (xs (n + 4))]) (st := []) d_L_634 wcw_Law_job wn_Law wl_Law_104 ws_Law_job cy_Law_job (by decide) (Nat.le_of_ble_eq_true rfl) (by decide) hb1 hb2 (th_Law_job (d := 0) hF1 hl1 (hs M1 M2 ov 1 (xs (n + 2)) (xs (n + 3)) (xs (n + 4)) (by decide) hl1 hl2 hR)) (fun k M1' ov' hq => by obtain ⟨hL1, hq⟩ := hq; exact lq_istore d_L_637 (by decide) (lq_aload_n d_L_639 rfl (lq_arg (n := n) (j := 1) d_L_640 d_L_641 d_L_643 d_L_644 d_L_645 rfl rfl (by decide) (by omega) hL (lq_if_eq 653 d_L_646 rfl (fun hc => absurd hc hz) (fun _ => lq_iconst 1 d_L_649 (by decide) (lq_goto 654 d_L_650 rfl (lq_arg (n := n) (j := 2) d_L_654 d_L_655 d_L_657 d_L_658 d_L_659 rfl rfl (by decide) (by omega) hL (lq_arg (n := n) (j := 3) d_L_660 d_L_661 d_L_663 d_L_664 d_L_665 rfl rfl (by decide) (by omega) hL (lq_arg (n := n) (j := 4) d_L_666 d_L_667 d_L_669 d_L_670 d_L_671 rfl rfl (by decide) (by omega) hL (lq_call2 (d := 4) (As := [.int 1, .int (xs (n + 2)), .int (xs (n + 3)), .int (xs (n + 4))]) (st := []) (hF2 30 0 rfl (by decide)) (mzClOf cl_10) d_L_672 cs_Mo_job wl_Law_107 wi_Mo_job wse_Mo_job (Nat.le_of_ble_eq_true rfl) (by decide) (by decide) (MzC.mono (tm_Mo_job (d := 0) hF2 hl2 hq) (fun r B9 M2' hq => by obtain ⟨rfl, hL2, rfl, hq⟩ := hq; exact ⟨rfl, none, rfl, lq_aload_n d_L_675 rfl (lq_call2 (d := 0) (As := []) (st := []) (hF2 30 0 rfl (by decide)) (mzClOf cl_10) d_L_676 cs_Mo_thrown wl_Law_50 wi_Mo_thrown wse_Mo_thrown (Nat.le_of_ble_eq_true rfl) (by decide) (by decide) (MzC.mono (tm_Mo_thrown (d := 0) hF2 hL2 hq) (fun r B9 M2'' hq => by obtain ⟨rfl, hL3, t, rfl, hq⟩ := hq; exact ⟨rfl, _, rfl, lq_iload d_L_679 rfl (lq_icmp_eq 686 d_L_681 rfl (fun _ => lq_goto 733 d_L_686 rfl (LqS.loc [(0, .ref b), (1, .ref (mz_ad B1 (0, 0))), (2, .ref (mz_ad B2 (30, 0))), (3, .ref o), (4, .int (Int32.ofNat n))] ⟨rfl, rfl, rfl, rfl, rfl, trivial⟩ (kk _ _ _ hL1 hL3 hq.2))) (fun hc => absurd hq.1 hc))⟩)))⟩))))))))))))))))))))
def mzSim (R : MzM → MzM → Prop) : Prop := sim_feed R ∧ sim_close R ∧ sim_bring R ∧ sim_take R ∧ sim_cut R ∧ sim_crash R ∧ sim_waiting R ∧ sim_reply R ∧ sim_node R ∧ sim_content R ∧ sim_current R ∧ sim_running R ∧ sim_fill R ∧ sim_shelf R ∧ sim_job R ∧ sim_step R
theorem lq_and15 (x : Int32) : 0 ≤ (x &&& 15).toInt ∧ (x &&& 15).toInt ≤ 15 := by
  have h : (x &&& 15).toBitVec = x.toBitVec &&& 15#32 := rfl
  have h1 : (x &&& 15).toInt = (x.toBitVec &&& 15#32).toInt := by rw [← h]; rfl
  have h2 : (x.toBitVec &&& 15#32).toNat ≤ 15 := by
    rw [BitVec.toNat_and]
    exact Nat.and_le_right
  have h3 : (x.toBitVec &&& 15#32).toInt = ((x.toBitVec &&& 15#32).toNat : Int) := by
    rw [BitVec.toInt_eq_toNat_of_lt (by omega)]
  rw [h1, h3]
  omega
theorem lq_loop {G : MzG} {B1 B2 : MzB} {cO : ClassId} {o b L : Nat} {xs : Nat → Int32} {R : MzM → MzM → Prop} (hS : mzSim R) (hF1 : mzLive false B1) (hF2 : mzLive true B2) (hL : L ≤ 2560) : ∀ (r n : Nat) (M1 M2 : MzM) (ov : Int64), n ≤ L + 4 → L ≤ n + 5 * r + 4 → mzLnk false M1 → mzLnk true M2 → R M1 M2 → LqS G B1 B2 cO o b L xs M1 M2 ov (r, 6 * r) 23 [(0, .ref b), (1, .ref (mz_ad B1 (0, 0))), (2, .ref (mz_ad B2 (30, 0))), (3, .ref o), (4, .int (Int32.ofNat n))] [] := by
  have cmp : ∀ n : Nat, n ≤ L + 4 → (Int32.ofNat L - 5 < Int32.ofNat n ↔ L < n + 5) := by
    intro n hn
    have h1 : (Int32.ofNat n).toInt = (n : Int) := Int32.toInt_ofNat_of_lt (by omega)
    have h2 : (Int32.ofNat L).toInt = (L : Int) := Int32.toInt_ofNat_of_lt (by omega)
    have h5 : (5 : Int32).toInt = 5 := rfl
    have h3 : (Int32.ofNat L - 5).toInt = (L : Int) - 5 := by
      rw [Int32.toInt_sub, h2, h5]
      simp only [Int.bmod]
      split <;> omega
    rw [Int32.lt_iff_toInt_lt, h1, h3]
    omega
  intro r
  induction r with
  | zero =>
    intro n M1 M2 ov hn hr hl1 hl2 hR
    refine lq_iload d_L_23 rfl (lq_aload_n d_L_25 rfl (lq_alen d_L_26 (lq_iconst 5 d_L_27 (by decide) (lq_isub d_L_28 (lq_icmp_gt 739 d_L_29 rfl (fun _ => lq_iconst 1 d_L_739 (by decide) (lq_ret d_L_740)) (fun hc => ?_))))))
    exact absurd ((cmp n hn).mpr (by omega)) hc
  | succ r ih =>
    intro n M1 M2 ov hn hr hl1 hl2 hR
    refine lq_iload d_L_23 rfl (lq_aload_n d_L_25 rfl (lq_alen d_L_26 (lq_iconst 5 d_L_27 (by decide) (lq_isub d_L_28 (lq_icmp_gt 739 d_L_29 rfl (fun _ => lq_iconst 1 d_L_739 (by decide) (lq_ret d_L_740)) (fun hc => ?_))))))
    have hn5 : n + 5 ≤ L := by
      have := mt (cmp n hn).mpr hc
      omega
    obtain ⟨g1, g2⟩ := lq_ofNat hL (show n < L by omega)
    refine lq_aload_n d_L_32 rfl (lq_iload d_L_33 rfl (lq_iaload d_L_35 g1 ?_))
    rw [g2]
    refine lq_bipush 15 d_L_36 (by decide) (lq_iand d_L_38 ?_)
    obtain ⟨a0, a15⟩ := lq_and15 (xs n)
    have kk : ∀ (M1 M2 : MzM) (ov : Int64), mzLnk false M1 → mzLnk true M2 → R M1 M2 → LqS G B1 B2 cO o b L xs M1 M2 ov ((r + 1, 6 * (r + 1)).1 - 1, (r + 1, 6 * (r + 1)).2 - 6) 733 [(0, .ref b), (1, .ref (mz_ad B1 (0, 0))), (2, .ref (mz_ad B2 (30, 0))), (3, .ref o), (4, .int (Int32.ofNat n))] [] := by
      intro M1 M2 ov hl1 hl2 hR
      refine LqS.bud (bu' := (r, 6 * r)) (show r ≤ r + 1 - 1 by omega) (show 6 * r ≤ 6 * (r + 1) - 6 by omega) (lq_iinc (Int32.ofNat (n + 5)) d_L_733 rfl (by decide) (by rw [Int32.ofNat_add]; rfl) (lq_goto 23 d_L_736 rfl ?_))
      exact LqS.loc [(0, .ref b), (1, .ref (mz_ad B1 (0, 0))), (2, .ref (mz_ad B2 (30, 0))), (3, .ref o), (4, .int (Int32.ofNat (n + 5)))] ⟨rfl, rfl, rfl, rfl, rfl, trivial⟩ (ih (n + 5) M1 M2 ov (by omega) (by omega) hl1 hl2 hR)
    have b1 : 1 ≤ (r + 1, 6 * (r + 1)).1 := by show 1 ≤ r + 1; omega
    have b2 : 6 ≤ (r + 1, 6 * (r + 1)).2 := by show 6 ≤ 6 * (r + 1); omega
    have hx : ∃ k : Nat, k < 16 ∧ (xs n &&& 15).toInt = (k : Int) := ⟨(xs n &&& 15).toInt.toNat, by omega, by omega⟩
    obtain ⟨k, hk, hxk⟩ := hx
    have hlo : ¬ (xs n &&& 15).toInt < 0 := by omega
    have hhi : ¬ 15 < (xs n &&& 15).toInt := by omega
    have hix : ((xs n &&& 15).toInt - 0).toNat = k := by omega
    match k, hk, hix with
    | 0, _, hix => exact lq_tab 116 d_L_39 hlo hhi (by rw [hix]; rfl) (by decide) (arm_feed hF1 hF2 hl1 hl2 hR hL hn5 b1 b2 kk hS.1)
    | 1, _, hix => exact lq_tab 153 d_L_39 hlo hhi (by rw [hix]; rfl) (by decide) (arm_close hF1 hF2 hl1 hl2 hR hL hn5 b1 b2 kk hS.2.1)
    | 2, _, hix => exact lq_tab 189 d_L_39 hlo hhi (by rw [hix]; rfl) (by decide) (arm_bring hF1 hF2 hl1 hl2 hR hL hn5 b1 b2 kk hS.2.2.1)
    | 3, _, hix => exact lq_tab 237 d_L_39 hlo hhi (by rw [hix]; rfl) (by decide) (arm_take hF1 hF2 hl1 hl2 hR hL hn5 b1 b2 kk hS.2.2.2.1)
    | 4, _, hix => exact lq_tab 293 d_L_39 hlo hhi (by rw [hix]; rfl) (by decide) (arm_cut hF1 hF2 hl1 hl2 hR hL hn5 b1 b2 kk hS.2.2.2.2.1)
    | 5, _, hix => exact lq_tab 318 d_L_39 hlo hhi (by rw [hix]; rfl) (by decide) (arm_crash hF1 hF2 hl1 hl2 hR hL hn5 b1 b2 kk hS.2.2.2.2.2.1)
    | 6, _, hix => exact lq_tab 329 d_L_39 hlo hhi (by rw [hix]; rfl) (by decide) (arm_waiting hF1 hF2 hl1 hl2 hR hL hn5 b1 b2 kk hS.2.2.2.2.2.2.1)
    | 7, _, hix => exact lq_tab 354 d_L_39 hlo hhi (by rw [hix]; rfl) (by decide) (arm_reply hF1 hF2 hl1 hl2 hR hL hn5 b1 b2 kk hS.2.2.2.2.2.2.2.1)
    | 8, _, hix => exact lq_tab 379 d_L_39 hlo hhi (by rw [hix]; rfl) (by decide) (arm_node hF1 hF2 hl1 hl2 hR hL hn5 b1 b2 kk hS.2.2.2.2.2.2.2.2.1)
    | 9, _, hix => exact lq_tab 416 d_L_39 hlo hhi (by rw [hix]; rfl) (by decide) (arm_content hF1 hF2 hl1 hl2 hR hL hn5 b1 b2 kk hS.2.2.2.2.2.2.2.2.2.1)
    | 10, _, hix => exact lq_tab 453 d_L_39 hlo hhi (by rw [hix]; rfl) (by decide) (arm_current hF1 hF2 hl1 hl2 hR hL hn5 b1 b2 kk hS.2.2.2.2.2.2.2.2.2.2.1)
    | 11, _, hix => exact lq_tab 478 d_L_39 hlo hhi (by rw [hix]; rfl) (by decide) (arm_running hF1 hF2 hl1 hl2 hR hL hn5 b1 b2 kk hS.2.2.2.2.2.2.2.2.2.2.2.1)
    | 12, _, hix => exact lq_tab 503 d_L_39 hlo hhi (by rw [hix]; rfl) (by decide) (arm_fill hF1 hF2 hl1 hl2 hR hL hn5 b1 b2 kk hS.2.2.2.2.2.2.2.2.2.2.2.2.1)
    | 13, _, hix => exact lq_tab 564 d_L_39 hlo hhi (by rw [hix]; rfl) (by decide) (arm_shelf hF1 hF2 hl1 hl2 hR hL hn5 b1 b2 kk hS.2.2.2.2.2.2.2.2.2.2.2.2.2.1)
    | 14, _, hix => exact lq_tab 601 d_L_39 hlo hhi (by rw [hix]; rfl) (by decide) (arm_job hF1 hF2 hl1 hl2 hR hL hn5 b1 b2 kk hS.2.2.2.2.2.2.2.2.2.2.2.2.2.2.1)
    | 15, _, hix => exact lq_tab 689 d_L_39 hlo hhi (by rw [hix]; rfl) (by decide) (arm_step hF1 hF2 hl1 hl2 hR hL hn5 b1 b2 kk hS.2.2.2.2.2.2.2.2.2.2.2.2.2.2.2)
    | k + 16, hk, _ => omega
