theorem d_LAW_0 : decode code 0 = .ok (.new 7, 3) := by decide +kernel
theorem d_LAW_3 : decode code 3 = .ok (.dup, 1) := by decide +kernel
theorem d_LAW_4 : decode code 4 = .ok (.invokespecial 9, 3) := by decide +kernel
theorem d_LAW_7 : decode code 7 = .ok (.astore_n 1, 1) := by decide +kernel
theorem d_LAW_8 : decode code 8 = .ok (.new 10, 3) := by decide +kernel
theorem d_LAW_11 : decode code 11 = .ok (.dup, 1) := by decide +kernel
theorem d_LAW_12 : decode code 12 = .ok (.invokespecial 12, 3) := by decide +kernel
theorem d_LAW_15 : decode code 15 = .ok (.astore_n 2, 1) := by decide +kernel
theorem d_LAW_16 : decode code 16 = .ok (.iconst 0, 1) := by decide +kernel
theorem d_LAW_17 : decode code 17 = .ok (.istore_n 3, 1) := by decide +kernel
theorem d_LAW_18 : decode code 18 = .ok (.iload_n 3, 1) := by decide +kernel
theorem d_LAW_19 : decode code 19 = .ok (.aload_n 0, 1) := by decide +kernel
theorem d_LAW_20 : decode code 20 = .ok (.arraylength, 1) := by decide +kernel
theorem d_LAW_21 : decode code 21 = .ok (.iconst 4, 1) := by decide +kernel
theorem d_LAW_22 : decode code 22 = .ok (.isub, 1) := by decide +kernel
theorem d_LAW_23 : decode code 23 = .ok (.if_icmp .gt 842, 3) := by decide +kernel
theorem d_LAW_26 : decode code 26 = .ok (.aload_n 0, 1) := by decide +kernel
theorem d_LAW_27 : decode code 27 = .ok (.iload_n 3, 1) := by decide +kernel
theorem d_LAW_28 : decode code 28 = .ok (.iaload, 1) := by decide +kernel
theorem d_LAW_29 : decode code 29 = .ok (.bipush 31, 2) := by decide +kernel
theorem d_LAW_31 : decode code 31 = .ok (.iand, 1) := by decide +kernel
theorem d_LAW_32 : decode code 32 = .ok (.tableswitch 827 0 28 #[132, 145, 158, 197, 230, 253, 276, 299, 312, 325, 350, 363, 376, 389, 402, 435, 468, 501, 544, 557, 580, 613, 646, 679, 702, 725, 748, 781, 804], 132) := by decide +kernel
theorem d_LAW_164 : decode code 164 = .ok (.aload_n 1, 1) := by decide +kernel
theorem d_LAW_165 : decode code 165 = .ok (.invokevirtual 13, 3) := by decide +kernel
theorem d_LAW_168 : decode code 168 = .ok (.aload_n 2, 1) := by decide +kernel
theorem d_LAW_169 : decode code 169 = .ok (.invokevirtual 17, 3) := by decide +kernel
theorem d_LAW_172 : decode code 172 = .ok (.if_icmp .eq 687, 3) := by decide +kernel
theorem d_LAW_175 : decode code 175 = .ok (.iconst 0, 1) := by decide +kernel
theorem d_LAW_176 : decode code 176 = .ok (.ireturn, 1) := by decide +kernel
theorem d_LAW_177 : decode code 177 = .ok (.aload_n 1, 1) := by decide +kernel
theorem d_LAW_178 : decode code 178 = .ok (.invokevirtual 18, 3) := by decide +kernel
theorem d_LAW_181 : decode code 181 = .ok (.aload_n 2, 1) := by decide +kernel
theorem d_LAW_182 : decode code 182 = .ok (.invokevirtual 21, 3) := by decide +kernel
theorem d_LAW_185 : decode code 185 = .ok (.if_icmp .eq 674, 3) := by decide +kernel
theorem d_LAW_188 : decode code 188 = .ok (.iconst 0, 1) := by decide +kernel
theorem d_LAW_189 : decode code 189 = .ok (.ireturn, 1) := by decide +kernel
theorem d_LAW_190 : decode code 190 = .ok (.aload_n 1, 1) := by decide +kernel
theorem d_LAW_191 : decode code 191 = .ok (.aload_n 0, 1) := by decide +kernel
theorem d_LAW_192 : decode code 192 = .ok (.iload_n 3, 1) := by decide +kernel
theorem d_LAW_193 : decode code 193 = .ok (.iconst 1, 1) := by decide +kernel
theorem d_LAW_194 : decode code 194 = .ok (.iadd, 1) := by decide +kernel
theorem d_LAW_195 : decode code 195 = .ok (.iaload, 1) := by decide +kernel
theorem d_LAW_196 : decode code 196 = .ok (.ifCond .eq 7, 3) := by decide +kernel
theorem d_LAW_199 : decode code 199 = .ok (.iconst 1, 1) := by decide +kernel
theorem d_LAW_200 : decode code 200 = .ok (.goto 4, 3) := by decide +kernel
theorem d_LAW_203 : decode code 203 = .ok (.iconst 0, 1) := by decide +kernel
theorem d_LAW_204 : decode code 204 = .ok (.invokevirtual 22, 3) := by decide +kernel
theorem d_LAW_207 : decode code 207 = .ok (.aload_n 2, 1) := by decide +kernel
theorem d_LAW_208 : decode code 208 = .ok (.aload_n 0, 1) := by decide +kernel
theorem d_LAW_209 : decode code 209 = .ok (.iload_n 3, 1) := by decide +kernel
theorem d_LAW_210 : decode code 210 = .ok (.iconst 1, 1) := by decide +kernel
theorem d_LAW_211 : decode code 211 = .ok (.iadd, 1) := by decide +kernel
theorem d_LAW_212 : decode code 212 = .ok (.iaload, 1) := by decide +kernel
theorem d_LAW_213 : decode code 213 = .ok (.ifCond .eq 7, 3) := by decide +kernel
theorem d_LAW_216 : decode code 216 = .ok (.iconst 1, 1) := by decide +kernel
theorem d_LAW_217 : decode code 217 = .ok (.goto 4, 3) := by decide +kernel
theorem d_LAW_220 : decode code 220 = .ok (.iconst 0, 1) := by decide +kernel
theorem d_LAW_221 : decode code 221 = .ok (.invokevirtual 26, 3) := by decide +kernel
theorem d_LAW_224 : decode code 224 = .ok (.if_icmp .eq 635, 3) := by decide +kernel
theorem d_LAW_227 : decode code 227 = .ok (.iconst 0, 1) := by decide +kernel
theorem d_LAW_228 : decode code 228 = .ok (.ireturn, 1) := by decide +kernel
theorem d_LAW_229 : decode code 229 = .ok (.aload_n 1, 1) := by decide +kernel
theorem d_LAW_230 : decode code 230 = .ok (.aload_n 0, 1) := by decide +kernel
theorem d_LAW_231 : decode code 231 = .ok (.iload_n 3, 1) := by decide +kernel
theorem d_LAW_232 : decode code 232 = .ok (.iconst 1, 1) := by decide +kernel
theorem d_LAW_233 : decode code 233 = .ok (.iadd, 1) := by decide +kernel
theorem d_LAW_234 : decode code 234 = .ok (.iaload, 1) := by decide +kernel
theorem d_LAW_235 : decode code 235 = .ok (.aload_n 0, 1) := by decide +kernel
theorem d_LAW_236 : decode code 236 = .ok (.iload_n 3, 1) := by decide +kernel
theorem d_LAW_237 : decode code 237 = .ok (.iconst 2, 1) := by decide +kernel
theorem d_LAW_238 : decode code 238 = .ok (.iadd, 1) := by decide +kernel
theorem d_LAW_239 : decode code 239 = .ok (.iaload, 1) := by decide +kernel
theorem d_LAW_240 : decode code 240 = .ok (.invokevirtual 27, 3) := by decide +kernel
theorem d_LAW_243 : decode code 243 = .ok (.aload_n 2, 1) := by decide +kernel
theorem d_LAW_244 : decode code 244 = .ok (.aload_n 0, 1) := by decide +kernel
theorem d_LAW_245 : decode code 245 = .ok (.iload_n 3, 1) := by decide +kernel
theorem d_LAW_246 : decode code 246 = .ok (.iconst 1, 1) := by decide +kernel
theorem d_LAW_247 : decode code 247 = .ok (.iadd, 1) := by decide +kernel
theorem d_LAW_248 : decode code 248 = .ok (.iaload, 1) := by decide +kernel
theorem d_LAW_249 : decode code 249 = .ok (.aload_n 0, 1) := by decide +kernel
theorem d_LAW_250 : decode code 250 = .ok (.iload_n 3, 1) := by decide +kernel
theorem d_LAW_251 : decode code 251 = .ok (.iconst 2, 1) := by decide +kernel
theorem d_LAW_252 : decode code 252 = .ok (.iadd, 1) := by decide +kernel
theorem d_LAW_253 : decode code 253 = .ok (.iaload, 1) := by decide +kernel
theorem d_LAW_254 : decode code 254 = .ok (.invokevirtual 31, 3) := by decide +kernel
theorem d_LAW_257 : decode code 257 = .ok (.if_icmp .eq 602, 3) := by decide +kernel
theorem d_LAW_260 : decode code 260 = .ok (.iconst 0, 1) := by decide +kernel
theorem d_LAW_261 : decode code 261 = .ok (.ireturn, 1) := by decide +kernel
theorem d_LAW_262 : decode code 262 = .ok (.aload_n 1, 1) := by decide +kernel
theorem d_LAW_263 : decode code 263 = .ok (.aload_n 0, 1) := by decide +kernel
theorem d_LAW_264 : decode code 264 = .ok (.iload_n 3, 1) := by decide +kernel
theorem d_LAW_265 : decode code 265 = .ok (.iconst 1, 1) := by decide +kernel
theorem d_LAW_266 : decode code 266 = .ok (.iadd, 1) := by decide +kernel
theorem d_LAW_267 : decode code 267 = .ok (.iaload, 1) := by decide +kernel
theorem d_LAW_268 : decode code 268 = .ok (.invokevirtual 32, 3) := by decide +kernel
theorem d_LAW_271 : decode code 271 = .ok (.aload_n 2, 1) := by decide +kernel
theorem d_LAW_272 : decode code 272 = .ok (.aload_n 0, 1) := by decide +kernel
theorem d_LAW_273 : decode code 273 = .ok (.iload_n 3, 1) := by decide +kernel
theorem d_LAW_274 : decode code 274 = .ok (.iconst 1, 1) := by decide +kernel
theorem d_LAW_275 : decode code 275 = .ok (.iadd, 1) := by decide +kernel
theorem d_LAW_276 : decode code 276 = .ok (.iaload, 1) := by decide +kernel
theorem d_LAW_277 : decode code 277 = .ok (.invokevirtual 36, 3) := by decide +kernel
theorem d_LAW_280 : decode code 280 = .ok (.if_icmp .eq 579, 3) := by decide +kernel
theorem d_LAW_283 : decode code 283 = .ok (.iconst 0, 1) := by decide +kernel
theorem d_LAW_284 : decode code 284 = .ok (.ireturn, 1) := by decide +kernel
theorem d_LAW_285 : decode code 285 = .ok (.aload_n 1, 1) := by decide +kernel
theorem d_LAW_286 : decode code 286 = .ok (.aload_n 0, 1) := by decide +kernel
theorem d_LAW_287 : decode code 287 = .ok (.iload_n 3, 1) := by decide +kernel
theorem d_LAW_288 : decode code 288 = .ok (.iconst 1, 1) := by decide +kernel
theorem d_LAW_289 : decode code 289 = .ok (.iadd, 1) := by decide +kernel
theorem d_LAW_290 : decode code 290 = .ok (.iaload, 1) := by decide +kernel
theorem d_LAW_291 : decode code 291 = .ok (.invokevirtual 37, 3) := by decide +kernel
theorem d_LAW_294 : decode code 294 = .ok (.aload_n 2, 1) := by decide +kernel
theorem d_LAW_295 : decode code 295 = .ok (.aload_n 0, 1) := by decide +kernel
theorem d_LAW_296 : decode code 296 = .ok (.iload_n 3, 1) := by decide +kernel
theorem d_LAW_297 : decode code 297 = .ok (.iconst 1, 1) := by decide +kernel
theorem d_LAW_298 : decode code 298 = .ok (.iadd, 1) := by decide +kernel
theorem d_LAW_299 : decode code 299 = .ok (.iaload, 1) := by decide +kernel
theorem d_LAW_300 : decode code 300 = .ok (.invokevirtual 40, 3) := by decide +kernel
theorem d_LAW_303 : decode code 303 = .ok (.if_icmp .eq 556, 3) := by decide +kernel
theorem d_LAW_306 : decode code 306 = .ok (.iconst 0, 1) := by decide +kernel
theorem d_LAW_307 : decode code 307 = .ok (.ireturn, 1) := by decide +kernel
theorem d_LAW_308 : decode code 308 = .ok (.aload_n 1, 1) := by decide +kernel
theorem d_LAW_309 : decode code 309 = .ok (.aload_n 0, 1) := by decide +kernel
theorem d_LAW_310 : decode code 310 = .ok (.iload_n 3, 1) := by decide +kernel
theorem d_LAW_311 : decode code 311 = .ok (.iconst 1, 1) := by decide +kernel
theorem d_LAW_312 : decode code 312 = .ok (.iadd, 1) := by decide +kernel
theorem d_LAW_313 : decode code 313 = .ok (.iaload, 1) := by decide +kernel
theorem d_LAW_314 : decode code 314 = .ok (.invokevirtual 41, 3) := by decide +kernel
theorem d_LAW_317 : decode code 317 = .ok (.aload_n 2, 1) := by decide +kernel
theorem d_LAW_318 : decode code 318 = .ok (.aload_n 0, 1) := by decide +kernel
theorem d_LAW_319 : decode code 319 = .ok (.iload_n 3, 1) := by decide +kernel
theorem d_LAW_320 : decode code 320 = .ok (.iconst 1, 1) := by decide +kernel
theorem d_LAW_321 : decode code 321 = .ok (.iadd, 1) := by decide +kernel
theorem d_LAW_322 : decode code 322 = .ok (.iaload, 1) := by decide +kernel
theorem d_LAW_323 : decode code 323 = .ok (.invokevirtual 44, 3) := by decide +kernel
theorem d_LAW_326 : decode code 326 = .ok (.if_icmp .eq 533, 3) := by decide +kernel
theorem d_LAW_329 : decode code 329 = .ok (.iconst 0, 1) := by decide +kernel
theorem d_LAW_330 : decode code 330 = .ok (.ireturn, 1) := by decide +kernel
theorem d_LAW_331 : decode code 331 = .ok (.aload_n 1, 1) := by decide +kernel
theorem d_LAW_332 : decode code 332 = .ok (.invokevirtual 45, 3) := by decide +kernel
theorem d_LAW_335 : decode code 335 = .ok (.aload_n 2, 1) := by decide +kernel
theorem d_LAW_336 : decode code 336 = .ok (.invokevirtual 48, 3) := by decide +kernel
theorem d_LAW_339 : decode code 339 = .ok (.if_icmp .eq 520, 3) := by decide +kernel
theorem d_LAW_342 : decode code 342 = .ok (.iconst 0, 1) := by decide +kernel
theorem d_LAW_343 : decode code 343 = .ok (.ireturn, 1) := by decide +kernel
theorem d_LAW_344 : decode code 344 = .ok (.aload_n 1, 1) := by decide +kernel
theorem d_LAW_345 : decode code 345 = .ok (.invokevirtual 49, 3) := by decide +kernel
theorem d_LAW_348 : decode code 348 = .ok (.aload_n 2, 1) := by decide +kernel
theorem d_LAW_349 : decode code 349 = .ok (.invokevirtual 52, 3) := by decide +kernel
theorem d_LAW_352 : decode code 352 = .ok (.if_icmp .eq 507, 3) := by decide +kernel
theorem d_LAW_355 : decode code 355 = .ok (.iconst 0, 1) := by decide +kernel
theorem d_LAW_356 : decode code 356 = .ok (.ireturn, 1) := by decide +kernel
theorem d_LAW_357 : decode code 357 = .ok (.aload_n 1, 1) := by decide +kernel
theorem d_LAW_358 : decode code 358 = .ok (.aload_n 0, 1) := by decide +kernel
theorem d_LAW_359 : decode code 359 = .ok (.iload_n 3, 1) := by decide +kernel
theorem d_LAW_360 : decode code 360 = .ok (.iconst 1, 1) := by decide +kernel
theorem d_LAW_361 : decode code 361 = .ok (.iadd, 1) := by decide +kernel
theorem d_LAW_362 : decode code 362 = .ok (.iaload, 1) := by decide +kernel
theorem d_LAW_363 : decode code 363 = .ok (.i2c, 1) := by decide +kernel
theorem d_LAW_364 : decode code 364 = .ok (.invokevirtual 53, 3) := by decide +kernel
theorem d_LAW_367 : decode code 367 = .ok (.aload_n 2, 1) := by decide +kernel
theorem d_LAW_368 : decode code 368 = .ok (.aload_n 0, 1) := by decide +kernel
theorem d_LAW_369 : decode code 369 = .ok (.iload_n 3, 1) := by decide +kernel
theorem d_LAW_370 : decode code 370 = .ok (.iconst 1, 1) := by decide +kernel
theorem d_LAW_371 : decode code 371 = .ok (.iadd, 1) := by decide +kernel
theorem d_LAW_372 : decode code 372 = .ok (.iaload, 1) := by decide +kernel
theorem d_LAW_373 : decode code 373 = .ok (.i2c, 1) := by decide +kernel
theorem d_LAW_374 : decode code 374 = .ok (.invokevirtual 57, 3) := by decide +kernel
theorem d_LAW_377 : decode code 377 = .ok (.if_icmp .eq 482, 3) := by decide +kernel
theorem d_LAW_380 : decode code 380 = .ok (.iconst 0, 1) := by decide +kernel
theorem d_LAW_381 : decode code 381 = .ok (.ireturn, 1) := by decide +kernel
theorem d_LAW_382 : decode code 382 = .ok (.aload_n 1, 1) := by decide +kernel
theorem d_LAW_383 : decode code 383 = .ok (.invokevirtual 58, 3) := by decide +kernel
theorem d_LAW_386 : decode code 386 = .ok (.aload_n 2, 1) := by decide +kernel
theorem d_LAW_387 : decode code 387 = .ok (.invokevirtual 61, 3) := by decide +kernel
theorem d_LAW_390 : decode code 390 = .ok (.if_icmp .eq 469, 3) := by decide +kernel
theorem d_LAW_393 : decode code 393 = .ok (.iconst 0, 1) := by decide +kernel
theorem d_LAW_394 : decode code 394 = .ok (.ireturn, 1) := by decide +kernel
theorem d_LAW_395 : decode code 395 = .ok (.aload_n 1, 1) := by decide +kernel
theorem d_LAW_396 : decode code 396 = .ok (.invokevirtual 62, 3) := by decide +kernel
theorem d_LAW_399 : decode code 399 = .ok (.aload_n 2, 1) := by decide +kernel
theorem d_LAW_400 : decode code 400 = .ok (.invokevirtual 65, 3) := by decide +kernel
theorem d_LAW_403 : decode code 403 = .ok (.if_icmp .eq 456, 3) := by decide +kernel
theorem d_LAW_406 : decode code 406 = .ok (.iconst 0, 1) := by decide +kernel
theorem d_LAW_407 : decode code 407 = .ok (.ireturn, 1) := by decide +kernel
theorem d_LAW_408 : decode code 408 = .ok (.aload_n 1, 1) := by decide +kernel
theorem d_LAW_409 : decode code 409 = .ok (.invokevirtual 66, 3) := by decide +kernel
theorem d_LAW_412 : decode code 412 = .ok (.aload_n 2, 1) := by decide +kernel
theorem d_LAW_413 : decode code 413 = .ok (.invokevirtual 69, 3) := by decide +kernel
theorem d_LAW_416 : decode code 416 = .ok (.if_icmp .eq 443, 3) := by decide +kernel
theorem d_LAW_419 : decode code 419 = .ok (.iconst 0, 1) := by decide +kernel
theorem d_LAW_420 : decode code 420 = .ok (.ireturn, 1) := by decide +kernel
theorem d_LAW_421 : decode code 421 = .ok (.aload_n 1, 1) := by decide +kernel
theorem d_LAW_422 : decode code 422 = .ok (.invokevirtual 70, 3) := by decide +kernel
theorem d_LAW_425 : decode code 425 = .ok (.aload_n 2, 1) := by decide +kernel
theorem d_LAW_426 : decode code 426 = .ok (.invokevirtual 73, 3) := by decide +kernel
theorem d_LAW_429 : decode code 429 = .ok (.if_icmp .eq 430, 3) := by decide +kernel
theorem d_LAW_432 : decode code 432 = .ok (.iconst 0, 1) := by decide +kernel
theorem d_LAW_433 : decode code 433 = .ok (.ireturn, 1) := by decide +kernel
theorem d_LAW_434 : decode code 434 = .ok (.aload_n 1, 1) := by decide +kernel
theorem d_LAW_435 : decode code 435 = .ok (.aload_n 0, 1) := by decide +kernel
theorem d_LAW_436 : decode code 436 = .ok (.iload_n 3, 1) := by decide +kernel
theorem d_LAW_437 : decode code 437 = .ok (.iconst 1, 1) := by decide +kernel
theorem d_LAW_438 : decode code 438 = .ok (.iadd, 1) := by decide +kernel
theorem d_LAW_439 : decode code 439 = .ok (.iaload, 1) := by decide +kernel
theorem d_LAW_440 : decode code 440 = .ok (.aload_n 0, 1) := by decide +kernel
theorem d_LAW_441 : decode code 441 = .ok (.iload_n 3, 1) := by decide +kernel
theorem d_LAW_442 : decode code 442 = .ok (.iconst 2, 1) := by decide +kernel
theorem d_LAW_443 : decode code 443 = .ok (.iadd, 1) := by decide +kernel
theorem d_LAW_444 : decode code 444 = .ok (.iaload, 1) := by decide +kernel
theorem d_LAW_445 : decode code 445 = .ok (.invokevirtual 74, 3) := by decide +kernel
theorem d_LAW_448 : decode code 448 = .ok (.aload_n 2, 1) := by decide +kernel
theorem d_LAW_449 : decode code 449 = .ok (.aload_n 0, 1) := by decide +kernel
theorem d_LAW_450 : decode code 450 = .ok (.iload_n 3, 1) := by decide +kernel
theorem d_LAW_451 : decode code 451 = .ok (.iconst 1, 1) := by decide +kernel
theorem d_LAW_452 : decode code 452 = .ok (.iadd, 1) := by decide +kernel
theorem d_LAW_453 : decode code 453 = .ok (.iaload, 1) := by decide +kernel
theorem d_LAW_454 : decode code 454 = .ok (.aload_n 0, 1) := by decide +kernel
theorem d_LAW_455 : decode code 455 = .ok (.iload_n 3, 1) := by decide +kernel
theorem d_LAW_456 : decode code 456 = .ok (.iconst 2, 1) := by decide +kernel
theorem d_LAW_457 : decode code 457 = .ok (.iadd, 1) := by decide +kernel
theorem d_LAW_458 : decode code 458 = .ok (.iaload, 1) := by decide +kernel
theorem d_LAW_459 : decode code 459 = .ok (.invokevirtual 77, 3) := by decide +kernel
theorem d_LAW_462 : decode code 462 = .ok (.if_icmp .eq 397, 3) := by decide +kernel
theorem d_LAW_465 : decode code 465 = .ok (.iconst 0, 1) := by decide +kernel
theorem d_LAW_466 : decode code 466 = .ok (.ireturn, 1) := by decide +kernel
theorem d_LAW_467 : decode code 467 = .ok (.aload_n 1, 1) := by decide +kernel
theorem d_LAW_468 : decode code 468 = .ok (.aload_n 0, 1) := by decide +kernel
theorem d_LAW_469 : decode code 469 = .ok (.iload_n 3, 1) := by decide +kernel
theorem d_LAW_470 : decode code 470 = .ok (.iconst 1, 1) := by decide +kernel
theorem d_LAW_471 : decode code 471 = .ok (.iadd, 1) := by decide +kernel
theorem d_LAW_472 : decode code 472 = .ok (.iaload, 1) := by decide +kernel
theorem d_LAW_473 : decode code 473 = .ok (.aload_n 0, 1) := by decide +kernel
theorem d_LAW_474 : decode code 474 = .ok (.iload_n 3, 1) := by decide +kernel
theorem d_LAW_475 : decode code 475 = .ok (.iconst 2, 1) := by decide +kernel
theorem d_LAW_476 : decode code 476 = .ok (.iadd, 1) := by decide +kernel
theorem d_LAW_477 : decode code 477 = .ok (.iaload, 1) := by decide +kernel
theorem d_LAW_478 : decode code 478 = .ok (.invokevirtual 78, 3) := by decide +kernel
theorem d_LAW_481 : decode code 481 = .ok (.aload_n 2, 1) := by decide +kernel
theorem d_LAW_482 : decode code 482 = .ok (.aload_n 0, 1) := by decide +kernel
theorem d_LAW_483 : decode code 483 = .ok (.iload_n 3, 1) := by decide +kernel
theorem d_LAW_484 : decode code 484 = .ok (.iconst 1, 1) := by decide +kernel
theorem d_LAW_485 : decode code 485 = .ok (.iadd, 1) := by decide +kernel
theorem d_LAW_486 : decode code 486 = .ok (.iaload, 1) := by decide +kernel
theorem d_LAW_487 : decode code 487 = .ok (.aload_n 0, 1) := by decide +kernel
theorem d_LAW_488 : decode code 488 = .ok (.iload_n 3, 1) := by decide +kernel
theorem d_LAW_489 : decode code 489 = .ok (.iconst 2, 1) := by decide +kernel
theorem d_LAW_490 : decode code 490 = .ok (.iadd, 1) := by decide +kernel
theorem d_LAW_491 : decode code 491 = .ok (.iaload, 1) := by decide +kernel
theorem d_LAW_492 : decode code 492 = .ok (.invokevirtual 81, 3) := by decide +kernel
theorem d_LAW_495 : decode code 495 = .ok (.if_icmp .eq 364, 3) := by decide +kernel
theorem d_LAW_498 : decode code 498 = .ok (.iconst 0, 1) := by decide +kernel
theorem d_LAW_499 : decode code 499 = .ok (.ireturn, 1) := by decide +kernel
theorem d_LAW_500 : decode code 500 = .ok (.aload_n 1, 1) := by decide +kernel
theorem d_LAW_501 : decode code 501 = .ok (.aload_n 0, 1) := by decide +kernel
theorem d_LAW_502 : decode code 502 = .ok (.iload_n 3, 1) := by decide +kernel
theorem d_LAW_503 : decode code 503 = .ok (.iconst 1, 1) := by decide +kernel
theorem d_LAW_504 : decode code 504 = .ok (.iadd, 1) := by decide +kernel
theorem d_LAW_505 : decode code 505 = .ok (.iaload, 1) := by decide +kernel
theorem d_LAW_506 : decode code 506 = .ok (.aload_n 0, 1) := by decide +kernel
theorem d_LAW_507 : decode code 507 = .ok (.iload_n 3, 1) := by decide +kernel
theorem d_LAW_508 : decode code 508 = .ok (.iconst 2, 1) := by decide +kernel
theorem d_LAW_509 : decode code 509 = .ok (.iadd, 1) := by decide +kernel
theorem d_LAW_510 : decode code 510 = .ok (.iaload, 1) := by decide +kernel
theorem d_LAW_511 : decode code 511 = .ok (.invokevirtual 82, 3) := by decide +kernel
theorem d_LAW_514 : decode code 514 = .ok (.aload_n 2, 1) := by decide +kernel
theorem d_LAW_515 : decode code 515 = .ok (.aload_n 0, 1) := by decide +kernel
theorem d_LAW_516 : decode code 516 = .ok (.iload_n 3, 1) := by decide +kernel
theorem d_LAW_517 : decode code 517 = .ok (.iconst 1, 1) := by decide +kernel
theorem d_LAW_518 : decode code 518 = .ok (.iadd, 1) := by decide +kernel
theorem d_LAW_519 : decode code 519 = .ok (.iaload, 1) := by decide +kernel
theorem d_LAW_520 : decode code 520 = .ok (.aload_n 0, 1) := by decide +kernel
theorem d_LAW_521 : decode code 521 = .ok (.iload_n 3, 1) := by decide +kernel
theorem d_LAW_522 : decode code 522 = .ok (.iconst 2, 1) := by decide +kernel
theorem d_LAW_523 : decode code 523 = .ok (.iadd, 1) := by decide +kernel
theorem d_LAW_524 : decode code 524 = .ok (.iaload, 1) := by decide +kernel
theorem d_LAW_525 : decode code 525 = .ok (.invokevirtual 85, 3) := by decide +kernel
theorem d_LAW_528 : decode code 528 = .ok (.if_icmp .eq 331, 3) := by decide +kernel
theorem d_LAW_531 : decode code 531 = .ok (.iconst 0, 1) := by decide +kernel
theorem d_LAW_532 : decode code 532 = .ok (.ireturn, 1) := by decide +kernel
theorem d_LAW_533 : decode code 533 = .ok (.aload_n 1, 1) := by decide +kernel
theorem d_LAW_534 : decode code 534 = .ok (.aload_n 0, 1) := by decide +kernel
theorem d_LAW_535 : decode code 535 = .ok (.iload_n 3, 1) := by decide +kernel
theorem d_LAW_536 : decode code 536 = .ok (.iconst 1, 1) := by decide +kernel
theorem d_LAW_537 : decode code 537 = .ok (.iadd, 1) := by decide +kernel
theorem d_LAW_538 : decode code 538 = .ok (.iaload, 1) := by decide +kernel
theorem d_LAW_539 : decode code 539 = .ok (.aload_n 0, 1) := by decide +kernel
theorem d_LAW_540 : decode code 540 = .ok (.iload_n 3, 1) := by decide +kernel
theorem d_LAW_541 : decode code 541 = .ok (.iconst 2, 1) := by decide +kernel
theorem d_LAW_542 : decode code 542 = .ok (.iadd, 1) := by decide +kernel
theorem d_LAW_543 : decode code 543 = .ok (.iaload, 1) := by decide +kernel
theorem d_LAW_544 : decode code 544 = .ok (.aload_n 0, 1) := by decide +kernel
theorem d_LAW_545 : decode code 545 = .ok (.iload_n 3, 1) := by decide +kernel
theorem d_LAW_546 : decode code 546 = .ok (.iconst 3, 1) := by decide +kernel
theorem d_LAW_547 : decode code 547 = .ok (.iadd, 1) := by decide +kernel
theorem d_LAW_548 : decode code 548 = .ok (.iaload, 1) := by decide +kernel
theorem d_LAW_549 : decode code 549 = .ok (.invokevirtual 86, 3) := by decide +kernel
theorem d_LAW_552 : decode code 552 = .ok (.aload_n 2, 1) := by decide +kernel
theorem d_LAW_553 : decode code 553 = .ok (.aload_n 0, 1) := by decide +kernel
theorem d_LAW_554 : decode code 554 = .ok (.iload_n 3, 1) := by decide +kernel
theorem d_LAW_555 : decode code 555 = .ok (.iconst 1, 1) := by decide +kernel
theorem d_LAW_556 : decode code 556 = .ok (.iadd, 1) := by decide +kernel
theorem d_LAW_557 : decode code 557 = .ok (.iaload, 1) := by decide +kernel
theorem d_LAW_558 : decode code 558 = .ok (.aload_n 0, 1) := by decide +kernel
theorem d_LAW_559 : decode code 559 = .ok (.iload_n 3, 1) := by decide +kernel
theorem d_LAW_560 : decode code 560 = .ok (.iconst 2, 1) := by decide +kernel
theorem d_LAW_561 : decode code 561 = .ok (.iadd, 1) := by decide +kernel
theorem d_LAW_562 : decode code 562 = .ok (.iaload, 1) := by decide +kernel
theorem d_LAW_563 : decode code 563 = .ok (.aload_n 0, 1) := by decide +kernel
theorem d_LAW_564 : decode code 564 = .ok (.iload_n 3, 1) := by decide +kernel
theorem d_LAW_565 : decode code 565 = .ok (.iconst 3, 1) := by decide +kernel
theorem d_LAW_566 : decode code 566 = .ok (.iadd, 1) := by decide +kernel
theorem d_LAW_567 : decode code 567 = .ok (.iaload, 1) := by decide +kernel
theorem d_LAW_568 : decode code 568 = .ok (.invokevirtual 90, 3) := by decide +kernel
theorem d_LAW_571 : decode code 571 = .ok (.if_icmp .eq 288, 3) := by decide +kernel
theorem d_LAW_574 : decode code 574 = .ok (.iconst 0, 1) := by decide +kernel
theorem d_LAW_575 : decode code 575 = .ok (.ireturn, 1) := by decide +kernel
theorem d_LAW_576 : decode code 576 = .ok (.aload_n 1, 1) := by decide +kernel
theorem d_LAW_577 : decode code 577 = .ok (.invokevirtual 91, 3) := by decide +kernel
theorem d_LAW_580 : decode code 580 = .ok (.aload_n 2, 1) := by decide +kernel
theorem d_LAW_581 : decode code 581 = .ok (.invokevirtual 94, 3) := by decide +kernel
theorem d_LAW_584 : decode code 584 = .ok (.if_icmp .eq 275, 3) := by decide +kernel
theorem d_LAW_587 : decode code 587 = .ok (.iconst 0, 1) := by decide +kernel
theorem d_LAW_588 : decode code 588 = .ok (.ireturn, 1) := by decide +kernel
theorem d_LAW_589 : decode code 589 = .ok (.aload_n 1, 1) := by decide +kernel
theorem d_LAW_590 : decode code 590 = .ok (.aload_n 0, 1) := by decide +kernel
theorem d_LAW_591 : decode code 591 = .ok (.iload_n 3, 1) := by decide +kernel
theorem d_LAW_592 : decode code 592 = .ok (.iconst 1, 1) := by decide +kernel
theorem d_LAW_593 : decode code 593 = .ok (.iadd, 1) := by decide +kernel
theorem d_LAW_594 : decode code 594 = .ok (.iaload, 1) := by decide +kernel
theorem d_LAW_595 : decode code 595 = .ok (.invokevirtual 95, 3) := by decide +kernel
theorem d_LAW_598 : decode code 598 = .ok (.aload_n 2, 1) := by decide +kernel
theorem d_LAW_599 : decode code 599 = .ok (.aload_n 0, 1) := by decide +kernel
theorem d_LAW_600 : decode code 600 = .ok (.iload_n 3, 1) := by decide +kernel
theorem d_LAW_601 : decode code 601 = .ok (.iconst 1, 1) := by decide +kernel
theorem d_LAW_602 : decode code 602 = .ok (.iadd, 1) := by decide +kernel
theorem d_LAW_603 : decode code 603 = .ok (.iaload, 1) := by decide +kernel
theorem d_LAW_604 : decode code 604 = .ok (.invokevirtual 98, 3) := by decide +kernel
theorem d_LAW_607 : decode code 607 = .ok (.if_icmp .eq 252, 3) := by decide +kernel
theorem d_LAW_610 : decode code 610 = .ok (.iconst 0, 1) := by decide +kernel
theorem d_LAW_611 : decode code 611 = .ok (.ireturn, 1) := by decide +kernel
theorem d_LAW_612 : decode code 612 = .ok (.aload_n 1, 1) := by decide +kernel
theorem d_LAW_613 : decode code 613 = .ok (.aload_n 0, 1) := by decide +kernel
theorem d_LAW_614 : decode code 614 = .ok (.iload_n 3, 1) := by decide +kernel
theorem d_LAW_615 : decode code 615 = .ok (.iconst 1, 1) := by decide +kernel
theorem d_LAW_616 : decode code 616 = .ok (.iadd, 1) := by decide +kernel
theorem d_LAW_617 : decode code 617 = .ok (.iaload, 1) := by decide +kernel
theorem d_LAW_618 : decode code 618 = .ok (.aload_n 0, 1) := by decide +kernel
theorem d_LAW_619 : decode code 619 = .ok (.iload_n 3, 1) := by decide +kernel
theorem d_LAW_620 : decode code 620 = .ok (.iconst 2, 1) := by decide +kernel
theorem d_LAW_621 : decode code 621 = .ok (.iadd, 1) := by decide +kernel
theorem d_LAW_622 : decode code 622 = .ok (.iaload, 1) := by decide +kernel
theorem d_LAW_623 : decode code 623 = .ok (.invokevirtual 99, 3) := by decide +kernel
theorem d_LAW_626 : decode code 626 = .ok (.aload_n 2, 1) := by decide +kernel
theorem d_LAW_627 : decode code 627 = .ok (.aload_n 0, 1) := by decide +kernel
theorem d_LAW_628 : decode code 628 = .ok (.iload_n 3, 1) := by decide +kernel
theorem d_LAW_629 : decode code 629 = .ok (.iconst 1, 1) := by decide +kernel
theorem d_LAW_630 : decode code 630 = .ok (.iadd, 1) := by decide +kernel
theorem d_LAW_631 : decode code 631 = .ok (.iaload, 1) := by decide +kernel
theorem d_LAW_632 : decode code 632 = .ok (.aload_n 0, 1) := by decide +kernel
theorem d_LAW_633 : decode code 633 = .ok (.iload_n 3, 1) := by decide +kernel
theorem d_LAW_634 : decode code 634 = .ok (.iconst 2, 1) := by decide +kernel
theorem d_LAW_635 : decode code 635 = .ok (.iadd, 1) := by decide +kernel
theorem d_LAW_636 : decode code 636 = .ok (.iaload, 1) := by decide +kernel
theorem d_LAW_637 : decode code 637 = .ok (.invokevirtual 102, 3) := by decide +kernel
theorem d_LAW_640 : decode code 640 = .ok (.if_icmp .eq 219, 3) := by decide +kernel
theorem d_LAW_643 : decode code 643 = .ok (.iconst 0, 1) := by decide +kernel
theorem d_LAW_644 : decode code 644 = .ok (.ireturn, 1) := by decide +kernel
theorem d_LAW_645 : decode code 645 = .ok (.aload_n 1, 1) := by decide +kernel
theorem d_LAW_646 : decode code 646 = .ok (.aload_n 0, 1) := by decide +kernel
theorem d_LAW_647 : decode code 647 = .ok (.iload_n 3, 1) := by decide +kernel
theorem d_LAW_648 : decode code 648 = .ok (.iconst 1, 1) := by decide +kernel
theorem d_LAW_649 : decode code 649 = .ok (.iadd, 1) := by decide +kernel
theorem d_LAW_650 : decode code 650 = .ok (.iaload, 1) := by decide +kernel
theorem d_LAW_651 : decode code 651 = .ok (.aload_n 0, 1) := by decide +kernel
theorem d_LAW_652 : decode code 652 = .ok (.iload_n 3, 1) := by decide +kernel
theorem d_LAW_653 : decode code 653 = .ok (.iconst 2, 1) := by decide +kernel
theorem d_LAW_654 : decode code 654 = .ok (.iadd, 1) := by decide +kernel
theorem d_LAW_655 : decode code 655 = .ok (.iaload, 1) := by decide +kernel
theorem d_LAW_656 : decode code 656 = .ok (.invokevirtual 103, 3) := by decide +kernel
theorem d_LAW_659 : decode code 659 = .ok (.aload_n 2, 1) := by decide +kernel
theorem d_LAW_660 : decode code 660 = .ok (.aload_n 0, 1) := by decide +kernel
theorem d_LAW_661 : decode code 661 = .ok (.iload_n 3, 1) := by decide +kernel
theorem d_LAW_662 : decode code 662 = .ok (.iconst 1, 1) := by decide +kernel
theorem d_LAW_663 : decode code 663 = .ok (.iadd, 1) := by decide +kernel
theorem d_LAW_664 : decode code 664 = .ok (.iaload, 1) := by decide +kernel
theorem d_LAW_665 : decode code 665 = .ok (.aload_n 0, 1) := by decide +kernel
theorem d_LAW_666 : decode code 666 = .ok (.iload_n 3, 1) := by decide +kernel
theorem d_LAW_667 : decode code 667 = .ok (.iconst 2, 1) := by decide +kernel
theorem d_LAW_668 : decode code 668 = .ok (.iadd, 1) := by decide +kernel
theorem d_LAW_669 : decode code 669 = .ok (.iaload, 1) := by decide +kernel
theorem d_LAW_670 : decode code 670 = .ok (.invokevirtual 106, 3) := by decide +kernel
theorem d_LAW_673 : decode code 673 = .ok (.if_icmp .eq 186, 3) := by decide +kernel
theorem d_LAW_676 : decode code 676 = .ok (.iconst 0, 1) := by decide +kernel
theorem d_LAW_677 : decode code 677 = .ok (.ireturn, 1) := by decide +kernel
theorem d_LAW_678 : decode code 678 = .ok (.aload_n 1, 1) := by decide +kernel
theorem d_LAW_679 : decode code 679 = .ok (.aload_n 0, 1) := by decide +kernel
theorem d_LAW_680 : decode code 680 = .ok (.iload_n 3, 1) := by decide +kernel
theorem d_LAW_681 : decode code 681 = .ok (.iconst 1, 1) := by decide +kernel
theorem d_LAW_682 : decode code 682 = .ok (.iadd, 1) := by decide +kernel
theorem d_LAW_683 : decode code 683 = .ok (.iaload, 1) := by decide +kernel
theorem d_LAW_684 : decode code 684 = .ok (.aload_n 0, 1) := by decide +kernel
theorem d_LAW_685 : decode code 685 = .ok (.iload_n 3, 1) := by decide +kernel
theorem d_LAW_686 : decode code 686 = .ok (.iconst 2, 1) := by decide +kernel
theorem d_LAW_687 : decode code 687 = .ok (.iadd, 1) := by decide +kernel
theorem d_LAW_688 : decode code 688 = .ok (.iaload, 1) := by decide +kernel
theorem d_LAW_689 : decode code 689 = .ok (.invokevirtual 107, 3) := by decide +kernel
theorem d_LAW_692 : decode code 692 = .ok (.aload_n 2, 1) := by decide +kernel
theorem d_LAW_693 : decode code 693 = .ok (.aload_n 0, 1) := by decide +kernel
theorem d_LAW_694 : decode code 694 = .ok (.iload_n 3, 1) := by decide +kernel
theorem d_LAW_695 : decode code 695 = .ok (.iconst 1, 1) := by decide +kernel
theorem d_LAW_696 : decode code 696 = .ok (.iadd, 1) := by decide +kernel
theorem d_LAW_697 : decode code 697 = .ok (.iaload, 1) := by decide +kernel
theorem d_LAW_698 : decode code 698 = .ok (.aload_n 0, 1) := by decide +kernel
theorem d_LAW_699 : decode code 699 = .ok (.iload_n 3, 1) := by decide +kernel
theorem d_LAW_700 : decode code 700 = .ok (.iconst 2, 1) := by decide +kernel
theorem d_LAW_701 : decode code 701 = .ok (.iadd, 1) := by decide +kernel
theorem d_LAW_702 : decode code 702 = .ok (.iaload, 1) := by decide +kernel
theorem d_LAW_703 : decode code 703 = .ok (.invokevirtual 110, 3) := by decide +kernel
theorem d_LAW_706 : decode code 706 = .ok (.if_icmp .eq 153, 3) := by decide +kernel
theorem d_LAW_709 : decode code 709 = .ok (.iconst 0, 1) := by decide +kernel
theorem d_LAW_710 : decode code 710 = .ok (.ireturn, 1) := by decide +kernel
theorem d_LAW_711 : decode code 711 = .ok (.aload_n 1, 1) := by decide +kernel
theorem d_LAW_712 : decode code 712 = .ok (.aload_n 0, 1) := by decide +kernel
theorem d_LAW_713 : decode code 713 = .ok (.iload_n 3, 1) := by decide +kernel
theorem d_LAW_714 : decode code 714 = .ok (.iconst 1, 1) := by decide +kernel
theorem d_LAW_715 : decode code 715 = .ok (.iadd, 1) := by decide +kernel
theorem d_LAW_716 : decode code 716 = .ok (.iaload, 1) := by decide +kernel
theorem d_LAW_717 : decode code 717 = .ok (.invokevirtual 111, 3) := by decide +kernel
theorem d_LAW_720 : decode code 720 = .ok (.aload_n 2, 1) := by decide +kernel
theorem d_LAW_721 : decode code 721 = .ok (.aload_n 0, 1) := by decide +kernel
theorem d_LAW_722 : decode code 722 = .ok (.iload_n 3, 1) := by decide +kernel
theorem d_LAW_723 : decode code 723 = .ok (.iconst 1, 1) := by decide +kernel
theorem d_LAW_724 : decode code 724 = .ok (.iadd, 1) := by decide +kernel
theorem d_LAW_725 : decode code 725 = .ok (.iaload, 1) := by decide +kernel
theorem d_LAW_726 : decode code 726 = .ok (.invokevirtual 114, 3) := by decide +kernel
theorem d_LAW_729 : decode code 729 = .ok (.if_icmp .eq 130, 3) := by decide +kernel
theorem d_LAW_732 : decode code 732 = .ok (.iconst 0, 1) := by decide +kernel
theorem d_LAW_733 : decode code 733 = .ok (.ireturn, 1) := by decide +kernel
theorem d_LAW_734 : decode code 734 = .ok (.aload_n 1, 1) := by decide +kernel
theorem d_LAW_735 : decode code 735 = .ok (.aload_n 0, 1) := by decide +kernel
theorem d_LAW_736 : decode code 736 = .ok (.iload_n 3, 1) := by decide +kernel
theorem d_LAW_737 : decode code 737 = .ok (.iconst 1, 1) := by decide +kernel
theorem d_LAW_738 : decode code 738 = .ok (.iadd, 1) := by decide +kernel
theorem d_LAW_739 : decode code 739 = .ok (.iaload, 1) := by decide +kernel
theorem d_LAW_740 : decode code 740 = .ok (.invokevirtual 115, 3) := by decide +kernel
theorem d_LAW_743 : decode code 743 = .ok (.aload_n 2, 1) := by decide +kernel
theorem d_LAW_744 : decode code 744 = .ok (.aload_n 0, 1) := by decide +kernel
theorem d_LAW_745 : decode code 745 = .ok (.iload_n 3, 1) := by decide +kernel
theorem d_LAW_746 : decode code 746 = .ok (.iconst 1, 1) := by decide +kernel
theorem d_LAW_747 : decode code 747 = .ok (.iadd, 1) := by decide +kernel
theorem d_LAW_748 : decode code 748 = .ok (.iaload, 1) := by decide +kernel
theorem d_LAW_749 : decode code 749 = .ok (.invokevirtual 118, 3) := by decide +kernel
theorem d_LAW_752 : decode code 752 = .ok (.if_icmp .eq 107, 3) := by decide +kernel
theorem d_LAW_755 : decode code 755 = .ok (.iconst 0, 1) := by decide +kernel
theorem d_LAW_756 : decode code 756 = .ok (.ireturn, 1) := by decide +kernel
theorem d_LAW_757 : decode code 757 = .ok (.aload_n 1, 1) := by decide +kernel
theorem d_LAW_758 : decode code 758 = .ok (.aload_n 0, 1) := by decide +kernel
theorem d_LAW_759 : decode code 759 = .ok (.iload_n 3, 1) := by decide +kernel
theorem d_LAW_760 : decode code 760 = .ok (.iconst 1, 1) := by decide +kernel
theorem d_LAW_761 : decode code 761 = .ok (.iadd, 1) := by decide +kernel
theorem d_LAW_762 : decode code 762 = .ok (.iaload, 1) := by decide +kernel
theorem d_LAW_763 : decode code 763 = .ok (.invokevirtual 119, 3) := by decide +kernel
theorem d_LAW_766 : decode code 766 = .ok (.aload_n 2, 1) := by decide +kernel
theorem d_LAW_767 : decode code 767 = .ok (.aload_n 0, 1) := by decide +kernel
theorem d_LAW_768 : decode code 768 = .ok (.iload_n 3, 1) := by decide +kernel
theorem d_LAW_769 : decode code 769 = .ok (.iconst 1, 1) := by decide +kernel
theorem d_LAW_770 : decode code 770 = .ok (.iadd, 1) := by decide +kernel
theorem d_LAW_771 : decode code 771 = .ok (.iaload, 1) := by decide +kernel
theorem d_LAW_772 : decode code 772 = .ok (.invokevirtual 122, 3) := by decide +kernel
theorem d_LAW_775 : decode code 775 = .ok (.if_icmp .eq 84, 3) := by decide +kernel
theorem d_LAW_778 : decode code 778 = .ok (.iconst 0, 1) := by decide +kernel
theorem d_LAW_779 : decode code 779 = .ok (.ireturn, 1) := by decide +kernel
theorem d_LAW_780 : decode code 780 = .ok (.aload_n 1, 1) := by decide +kernel
theorem d_LAW_781 : decode code 781 = .ok (.aload_n 0, 1) := by decide +kernel
theorem d_LAW_782 : decode code 782 = .ok (.iload_n 3, 1) := by decide +kernel
theorem d_LAW_783 : decode code 783 = .ok (.iconst 1, 1) := by decide +kernel
theorem d_LAW_784 : decode code 784 = .ok (.iadd, 1) := by decide +kernel
theorem d_LAW_785 : decode code 785 = .ok (.iaload, 1) := by decide +kernel
theorem d_LAW_786 : decode code 786 = .ok (.aload_n 0, 1) := by decide +kernel
theorem d_LAW_787 : decode code 787 = .ok (.iload_n 3, 1) := by decide +kernel
theorem d_LAW_788 : decode code 788 = .ok (.iconst 2, 1) := by decide +kernel
theorem d_LAW_789 : decode code 789 = .ok (.iadd, 1) := by decide +kernel
theorem d_LAW_790 : decode code 790 = .ok (.iaload, 1) := by decide +kernel
theorem d_LAW_791 : decode code 791 = .ok (.invokevirtual 123, 3) := by decide +kernel
theorem d_LAW_794 : decode code 794 = .ok (.aload_n 2, 1) := by decide +kernel
theorem d_LAW_795 : decode code 795 = .ok (.aload_n 0, 1) := by decide +kernel
theorem d_LAW_796 : decode code 796 = .ok (.iload_n 3, 1) := by decide +kernel
theorem d_LAW_797 : decode code 797 = .ok (.iconst 1, 1) := by decide +kernel
theorem d_LAW_798 : decode code 798 = .ok (.iadd, 1) := by decide +kernel
theorem d_LAW_799 : decode code 799 = .ok (.iaload, 1) := by decide +kernel
theorem d_LAW_800 : decode code 800 = .ok (.aload_n 0, 1) := by decide +kernel
theorem d_LAW_801 : decode code 801 = .ok (.iload_n 3, 1) := by decide +kernel
theorem d_LAW_802 : decode code 802 = .ok (.iconst 2, 1) := by decide +kernel
theorem d_LAW_803 : decode code 803 = .ok (.iadd, 1) := by decide +kernel
theorem d_LAW_804 : decode code 804 = .ok (.iaload, 1) := by decide +kernel
theorem d_LAW_805 : decode code 805 = .ok (.invokevirtual 126, 3) := by decide +kernel
theorem d_LAW_808 : decode code 808 = .ok (.if_icmp .eq 51, 3) := by decide +kernel
theorem d_LAW_811 : decode code 811 = .ok (.iconst 0, 1) := by decide +kernel
theorem d_LAW_812 : decode code 812 = .ok (.ireturn, 1) := by decide +kernel
theorem d_LAW_813 : decode code 813 = .ok (.aload_n 1, 1) := by decide +kernel
theorem d_LAW_814 : decode code 814 = .ok (.aload_n 0, 1) := by decide +kernel
theorem d_LAW_815 : decode code 815 = .ok (.iload_n 3, 1) := by decide +kernel
theorem d_LAW_816 : decode code 816 = .ok (.iconst 1, 1) := by decide +kernel
theorem d_LAW_817 : decode code 817 = .ok (.iadd, 1) := by decide +kernel
theorem d_LAW_818 : decode code 818 = .ok (.iaload, 1) := by decide +kernel
theorem d_LAW_819 : decode code 819 = .ok (.invokevirtual 127, 3) := by decide +kernel
theorem d_LAW_822 : decode code 822 = .ok (.aload_n 2, 1) := by decide +kernel
theorem d_LAW_823 : decode code 823 = .ok (.aload_n 0, 1) := by decide +kernel
theorem d_LAW_824 : decode code 824 = .ok (.iload_n 3, 1) := by decide +kernel
theorem d_LAW_825 : decode code 825 = .ok (.iconst 1, 1) := by decide +kernel
theorem d_LAW_826 : decode code 826 = .ok (.iadd, 1) := by decide +kernel
theorem d_LAW_827 : decode code 827 = .ok (.iaload, 1) := by decide +kernel
theorem d_LAW_828 : decode code 828 = .ok (.invokevirtual 130, 3) := by decide +kernel
theorem d_LAW_831 : decode code 831 = .ok (.if_icmp .eq 28, 3) := by decide +kernel
theorem d_LAW_834 : decode code 834 = .ok (.iconst 0, 1) := by decide +kernel
theorem d_LAW_835 : decode code 835 = .ok (.ireturn, 1) := by decide +kernel
theorem d_LAW_836 : decode code 836 = .ok (.aload_n 1, 1) := by decide +kernel
theorem d_LAW_837 : decode code 837 = .ok (.aload_n 0, 1) := by decide +kernel
theorem d_LAW_838 : decode code 838 = .ok (.iload_n 3, 1) := by decide +kernel
theorem d_LAW_839 : decode code 839 = .ok (.iconst 1, 1) := by decide +kernel
theorem d_LAW_840 : decode code 840 = .ok (.iadd, 1) := by decide +kernel
theorem d_LAW_841 : decode code 841 = .ok (.iaload, 1) := by decide +kernel
theorem d_LAW_842 : decode code 842 = .ok (.invokevirtual 131, 3) := by decide +kernel
theorem d_LAW_845 : decode code 845 = .ok (.aload_n 2, 1) := by decide +kernel
theorem d_LAW_846 : decode code 846 = .ok (.aload_n 0, 1) := by decide +kernel
theorem d_LAW_847 : decode code 847 = .ok (.iload_n 3, 1) := by decide +kernel
theorem d_LAW_848 : decode code 848 = .ok (.iconst 1, 1) := by decide +kernel
theorem d_LAW_849 : decode code 849 = .ok (.iadd, 1) := by decide +kernel
theorem d_LAW_850 : decode code 850 = .ok (.iaload, 1) := by decide +kernel
theorem d_LAW_851 : decode code 851 = .ok (.invokevirtual 134, 3) := by decide +kernel
theorem d_LAW_854 : decode code 854 = .ok (.if_icmp .eq 5, 3) := by decide +kernel
theorem d_LAW_857 : decode code 857 = .ok (.iconst 0, 1) := by decide +kernel
theorem d_LAW_858 : decode code 858 = .ok (.ireturn, 1) := by decide +kernel
theorem d_LAW_859 : decode code 859 = .ok (.iinc 3 4, 3) := by decide +kernel
theorem d_LAW_862 : decode code 862 = .ok (.goto (-844), 3) := by decide +kernel
theorem d_LAW_865 : decode code 865 = .ok (.iconst 1, 1) := by decide +kernel
theorem d_LAW_866 : decode code 866 = .ok (.ireturn, 1) := by decide +kernel
set_option maxHeartbeats 8000000 in
set_option maxRecDepth 100000 in
theorem law_walk {M : MX} {D : GG} {b N z0 : Nat} {xs : Nat → Int32} {Q : State → Prop} (ho : Ok D M code 4 "MorphWordsLaw") (hX : va_X b N xs M.2.2.2.1 M.2.2.2.1.heap) (hb : b < M.2.2.2.1.heap.size) (hbA : ¬ (rA (z0 + 1) (z0 + 150)) b) (hN : N ≤ 2048) (hz : M.2.2.2.1.heap.size = z0 + 1) (hQ : ∀ (pc : Nat) (H : Heap), decode code pc = .ok (.ireturn, 1) → ∀ L : List (Nat × Value), X M room_1 4 (rA (z0 + 1) (z0 + 150)) 149 7992 Q pc L [zV 1] H) : X M room_1 4 (rA (z0 + 1) (z0 + 150)) 0 0 Q 0 [(0, .ref b)] [] M.2.2.2.1.heap := by
  obtain ⟨H, hH⟩ : ∃ H : Heap, M.2.2.2.1.heap = H := ⟨_, rfl⟩
  have hs0 : H.size = z0 + 1 := by rw [← hH]; exact hz
  rw [show X M room_1 4 (rA (z0 + 1) (z0 + 150)) 0 0 Q 0 [(0, .ref b)] [] M.2.2.2.1.heap = X M room_1 4 (rA (z0 + 1) (z0 + 150)) 0 0 Q 0 [(0, .ref b)] [] H by rw [hH]]
  refine x_new (fs := [.null, .null, zV 0, .null, .null, .null, .null, .null, .null, .null, .null, .null, .null, .null]) ho d_LAW_0 cl_MW g_68 g_69 g_53 (by decide +kernel) (Nat.le_of_ble_eq_true rfl) (Nat.le_of_ble_eq_true rfl) hs0 (fun H_1 p_2 z_3 q_4 => ?_)
  have s_5 : H_1.size = z0 + 2 := z_3
  clear z_3 q_4
  show X _ _ _ _ 1 14 _ _ _ [.ref (z0 + 1)] _
  refine x_dup ho d_LAW_3 rfl ?_
  refine x_callI (rest := [.ref (z0 + 1)]) ho d_LAW_4 yv_MW_init rfl g_71 g_70 (c_MW_init M.2.1 D (z0 + 1) ) rfl rfl ⟨Nat.le_of_ble_eq_true rfl, Nat.le_of_ble_eq_true rfl⟩ ⟨Nat.le_of_ble_eq_true rfl, Nat.le_of_ble_eq_true rfl⟩ rfl rfl (Nat.le_of_ble_eq_true rfl) ⟨p_2, (show H_1.size = (z0 + 1) + 1 by omega)⟩ (rA_sub (by omega) (by omega)) (fun v_6 H_8 hv_6 f_7 => ?_)
  have s_9 : H_8.size = z0 + 138 := by have := f_7.1; omega
  clear p_2 s_5 f_7
  obtain ⟨rfl, hW_10⟩ := hv_6
  show X _ _ _ _ 137 4529 _ _ _ [.ref (z0 + 1)] _
  refine x_astore_n (L' := [(1, .ref (z0 + 1)), (0, .ref b)]) ho d_LAW_7 (by decide) rfl ?_
  refine x_new (fs := [.null, .null, zV 0, .null, zV 0, .null, .null, .null, zV 0, .null, zV 0, zV 0, .null, zV 0, .null, .null, .null]) ho d_LAW_8 cl_MO g_751 g_752 g_65 (by decide +kernel) (Nat.le_of_ble_eq_true rfl) (Nat.le_of_ble_eq_true rfl) s_9 (fun H_11 p_12 z_13 q_14 => ?_)
  have k_15 := hW_10.kept (fun q g1 g2 => q_14 q (by have := hW_10.lt; omega))
  have s_16 : H_11.size = z0 + 139 := z_13
  clear hW_10 z_13 q_14 s_9
  show X _ _ _ _ 138 4546 _ _ _ [.ref (z0 + 138)] _
  refine x_dup ho d_LAW_11 rfl ?_
  refine x_callI (rest := [.ref (z0 + 138)]) ho d_LAW_12 yv_MO_init rfl g_754 g_753 (c_MO_init M.2.1 D (z0 + 138) ) rfl rfl ⟨Nat.le_of_ble_eq_true rfl, Nat.le_of_ble_eq_true rfl⟩ ⟨Nat.le_of_ble_eq_true rfl, Nat.le_of_ble_eq_true rfl⟩ rfl rfl (Nat.le_of_ble_eq_true rfl) ⟨p_12, (show H_11.size = (z0 + 138) + 1 by omega)⟩ (rA_sub (by omega) (by omega)) (fun v_17 H_19 hv_17 f_18 => ?_)
  have k_20 := k_15.kept (fun q g1 g2 => f_18.2 q (by have := k_15.lt; omega) (rA_no (by omega)))
  have s_21 : H_19.size = z0 + 150 := by have := f_18.1; omega
  clear k_15 p_12 s_16 f_18
  obtain ⟨rfl, hW_22⟩ := hv_17
  show X _ _ _ _ 149 7992 _ _ _ [.ref (z0 + 138)] _
  refine x_astore_n (L' := [(2, .ref (z0 + 138)), (1, .ref (z0 + 1)), (0, .ref b)]) ho d_LAW_15 (by decide) rfl ?_
  refine x_iconst ho d_LAW_16 ?_
  refine x_istore_n (L' := [(3, zV 0), (2, .ref (z0 + 138)), (1, .ref (z0 + 1)), (0, .ref b)]) ho d_LAW_17 (by decide) rfl ?_
  have loop_18 : ∀ (kk : Nat) (i : Int) (V : WV) (H_23 : Heap) (l_x : isW D H_23 (z0 + 1) V) (l_m : isO D H_23 (z0 + 138) V) (i0 : 0 ≤ i ∧ i ≤ 2048 + 3), (2052 - i).toNat < kk → X M room_1 4 (rA (z0 + 1) (z0 + 150)) 149 7992 Q 18 [(3, zV i), (2, .ref (z0 + 138)), (1, .ref (z0 + 1)), (0, .ref b)] [] H_23 := by
    intro kk
    induction kk with
    | zero => intro i V H_23 l_x l_m i0 hk; exact absurd hk (Nat.not_lt_zero _)
    | succ kk ih_18 =>
      intro i V H_23 l_x l_m i0 hk_18
      refine x_iload_n ho 0 d_LAW_18 rfl ?_
      refine x_aload_n ho 3 d_LAW_19 rfl ?_
      refine x_slen ho hX hb hbA d_LAW_20 ?_
      refine x_iconst ho d_LAW_21 ?_
      refine x_isub ho d_LAW_22 ?_
      refine x_icmp_gt (tgt := 865) ho d_LAW_23 (by decide) (by omega) (by omega) (fun c_23 => ?_) (fun c_23 => ?_)
      ·
        refine x_iconst ho d_LAW_865 ?_
        exact hQ 866 _ d_LAW_866 _
      ·
        refine x_aload_n ho 3 d_LAW_26 rfl ?_
        refine x_iload_n ho 0 d_LAW_27 rfl ?_
        refine x_sld ho hX hb hbA d_LAW_28 (by omega) (by omega) hN ?_
        have sr_24 := sN_r xs i
        refine x_bipush (z := 31) ho d_LAW_29 (by decide) ?_
        refine x_and31 ho d_LAW_31 (fun y y0 y1 => ?_)
        rcases (show (y < 0 ∨ 28 < y) ∨ y = 0 ∨ y = 1 ∨ y = 2 ∨ y = 3 ∨ y = 4 ∨ y = 5 ∨ y = 6 ∨ y = 7 ∨ y = 8 ∨ y = 9 ∨ y = 10 ∨ y = 11 ∨ y = 12 ∨ y = 13 ∨ y = 14 ∨ y = 15 ∨ y = 16 ∨ y = 17 ∨ y = 18 ∨ y = 19 ∨ y = 20 ∨ y = 21 ∨ y = 22 ∨ y = 23 ∨ y = 24 ∨ y = 25 ∨ y = 26 ∨ y = 27 ∨ y = 28 by omega) with sw_32 | sw_32 | sw_32 | sw_32 | sw_32 | sw_32 | sw_32 | sw_32 | sw_32 | sw_32 | sw_32 | sw_32 | sw_32 | sw_32 | sw_32 | sw_32 | sw_32 | sw_32 | sw_32 | sw_32 | sw_32 | sw_32 | sw_32 | sw_32 | sw_32 | sw_32 | sw_32 | sw_32 | sw_32 | sw_32
        ·
          refine x_tabOut (tgt := 859) ho d_LAW_32 (by omega) sw_32 (by decide) ?_
          refine x_iinc (L' := [(3, zV (i + 4)), (2, .ref (z0 + 138)), (1, .ref (z0 + 1)), (0, .ref b)]) ho 0 d_LAW_859 rfl rfl (by decide) rfl ?_
          refine x_goto (tgt := 18) ho d_LAW_862 (by decide) ?_
          exact ih_18 (i + 4) V H_23 l_x l_m (by omega) (by omega)
        ·
          refine x_tabIn (tgt := 164) (off := 132) ho 0 d_LAW_32 sw_32 (by decide) (by decide) rfl (by decide) ?_
          refine x_aload_n ho 2 d_LAW_164 rfl ?_
          refine x_callV (rest := []) ho d_LAW_165 yv_MW_readRule g_286 g_287 g_285 (c_MW_readRule M.2.1 D (z0 + 1) V ) rfl rfl ⟨Nat.le_of_ble_eq_true rfl, Nat.le_of_ble_eq_true rfl⟩ ⟨Nat.le_of_ble_eq_true rfl, Nat.le_of_ble_eq_true rfl⟩ rfl rfl (Nat.le_of_ble_eq_true rfl) l_x.o rfl rfl l_x (rA_sub (by omega) (by omega)) (fun v_25 H_27 hv_25 f_26 => ?_)
          have k_28 := l_m.kept (fun q g1 g2 => f_26.2 q (by have := l_m.lt; omega) (rA_no (by omega)))
          obtain ⟨rfl, hW_29⟩ := hv_25
          show X _ _ _ _ 149 7992 _ _ _ [zV ((m_readRule V).1)] _
          refine x_aload_n ho 1 d_LAW_168 rfl ?_
          refine x_callV (rest := [zV ((m_readRule V).1)]) ho d_LAW_169 yv_MO_readRule g_810 g_811 g_809 (c_MO_readRule M.2.1 D (z0 + 138) V ) rfl rfl ⟨Nat.le_of_ble_eq_true rfl, Nat.le_of_ble_eq_true rfl⟩ ⟨Nat.le_of_ble_eq_true rfl, Nat.le_of_ble_eq_true rfl⟩ rfl rfl (Nat.le_of_ble_eq_true rfl) ((isO.o k_28).choose_spec) rfl rfl k_28 (rA_sub (by omega) (by omega)) (fun v_30 H_32 hv_30 f_31 => ?_)
          have k_33 := hW_29.kept (fun q g1 g2 => f_31.2 q (by have := hW_29.lt; omega) (rA_no (by omega)))
          obtain ⟨rfl, hW_34⟩ := hv_30
          show X _ _ _ _ 149 7992 _ _ _ [zV ((m_readRule V).1), zV ((m_readRule V).1)] _
          refine x_same (tgt := 859) ho d_LAW_172 (by decide) ?_
          refine x_iinc (L' := [(3, zV (i + 4)), (2, .ref (z0 + 138)), (1, .ref (z0 + 1)), (0, .ref b)]) ho 0 d_LAW_859 rfl rfl (by decide) rfl ?_
          refine x_goto (tgt := 18) ho d_LAW_862 (by decide) ?_
          exact ih_18 (i + 4) ((m_readRule V).2) H_32 k_33 hW_34 (by omega) (by omega)
        ·
          refine x_tabIn (tgt := 177) (off := 145) ho 1 d_LAW_32 sw_32 (by decide) (by decide) rfl (by decide) ?_
          refine x_aload_n ho 2 d_LAW_177 rfl ?_
          refine x_callV (rest := []) ho d_LAW_178 yv_MW_square g_364 g_365 g_363 (c_MW_square M.2.1 D (z0 + 1) V ) rfl rfl ⟨Nat.le_of_ble_eq_true rfl, Nat.le_of_ble_eq_true rfl⟩ ⟨Nat.le_of_ble_eq_true rfl, Nat.le_of_ble_eq_true rfl⟩ rfl rfl (Nat.le_of_ble_eq_true rfl) l_x.o rfl rfl l_x (rA_sub (by omega) (by omega)) (fun v_35 H_37 hv_35 f_36 => ?_)
          have k_38 := l_m.kept (fun q g1 g2 => f_36.2 q (by have := l_m.lt; omega) (rA_no (by omega)))
          obtain ⟨rfl, hW_39⟩ := hv_35
          show X _ _ _ _ 149 7992 _ _ _ [zV ((m_square V).1)] _
          refine x_aload_n ho 1 d_LAW_181 rfl ?_
          refine x_callV (rest := [zV ((m_square V).1)]) ho d_LAW_182 yv_MO_square g_841 g_842 g_840 (c_MO_square M.2.1 D (z0 + 138) V ) rfl rfl ⟨Nat.le_of_ble_eq_true rfl, Nat.le_of_ble_eq_true rfl⟩ ⟨Nat.le_of_ble_eq_true rfl, Nat.le_of_ble_eq_true rfl⟩ rfl rfl (Nat.le_of_ble_eq_true rfl) ((isO.o k_38).choose_spec) rfl rfl k_38 (rA_sub (by omega) (by omega)) (fun v_40 H_42 hv_40 f_41 => ?_)
          have k_43 := hW_39.kept (fun q g1 g2 => f_41.2 q (by have := hW_39.lt; omega) (rA_no (by omega)))
          obtain ⟨rfl, hW_44⟩ := hv_40
          show X _ _ _ _ 149 7992 _ _ _ [zV ((m_square V).1), zV ((m_square V).1)] _
          refine x_same (tgt := 859) ho d_LAW_185 (by decide) ?_
          refine x_iinc (L' := [(3, zV (i + 4)), (2, .ref (z0 + 138)), (1, .ref (z0 + 1)), (0, .ref b)]) ho 0 d_LAW_859 rfl rfl (by decide) rfl ?_
          refine x_goto (tgt := 18) ho d_LAW_862 (by decide) ?_
          exact ih_18 (i + 4) ((m_square V).2) H_42 k_43 hW_44 (by omega) (by omega)
        ·
          refine x_tabIn (tgt := 190) (off := 158) ho 2 d_LAW_32 sw_32 (by decide) (by decide) rfl (by decide) ?_
          refine x_aload_n ho 2 d_LAW_190 rfl ?_
          refine x_aload_n ho 3 d_LAW_191 rfl ?_
          refine x_iload_n ho 0 d_LAW_192 rfl ?_
          refine x_iconst ho d_LAW_193 ?_
          refine x_iadd ho d_LAW_194 ?_
          refine x_sld ho hX hb hbA d_LAW_195 (by omega) (by omega) hN ?_
          have sr_45 := sN_r xs (i + 1)
          refine x_if_eq (tgt := 203) ho d_LAW_196 (by decide) (by omega) (fun c_196 => ?_) (fun c_196 => ?_)
          ·
            refine x_iconst ho d_LAW_203 ?_
            refine x_eqI (b := bI (¬ sN xs (i + 1) = 0)) (by exact (bI_f (P := ¬ sN xs (i + 1) = 0) (fun q => q c_196)).symm) ?_
            refine x_callV (rest := []) ho d_LAW_204 yv_MW_shift g_388 g_389 g_387 (c_MW_shift M.2.1 D (z0 + 1) V (¬ sN xs (i + 1) = 0) ) rfl rfl ⟨Nat.le_of_ble_eq_true rfl, Nat.le_of_ble_eq_true rfl⟩ ⟨Nat.le_of_ble_eq_true rfl, Nat.le_of_ble_eq_true rfl⟩ rfl rfl (Nat.le_of_ble_eq_true rfl) l_x.o rfl rfl l_x (rA_sub (by omega) (by omega)) (fun v_46 H_48 hv_46 f_47 => ?_)
            have k_49 := l_m.kept (fun q g1 g2 => f_47.2 q (by have := l_m.lt; omega) (rA_no (by omega)))
            obtain ⟨rfl, hW_50⟩ := hv_46
            show X _ _ _ _ 149 7992 _ _ _ [zV ((m_shift (¬ sN xs (i + 1) = 0) V).1)] _
            refine x_aload_n ho 1 d_LAW_207 rfl ?_
            refine x_aload_n ho 3 d_LAW_208 rfl ?_
            refine x_iload_n ho 0 d_LAW_209 rfl ?_
            refine x_iconst ho d_LAW_210 ?_
            refine x_iadd ho d_LAW_211 ?_
            refine x_sld ho hX hb hbA d_LAW_212 (by omega) (by omega) hN ?_
            have sr_51 := sN_r xs (i + 1)
            refine x_if_eq (tgt := 220) ho d_LAW_213 (by decide) (by omega) (fun c_213 => ?_) (fun c_213 => ?_)
            ·
              refine x_iconst ho d_LAW_220 ?_
              refine x_eqI (b := bI (¬ sN xs (i + 1) = 0)) (by exact (bI_f (P := ¬ sN xs (i + 1) = 0) (fun q => q c_213)).symm) ?_
              refine x_callV (rest := [zV ((m_shift (¬ sN xs (i + 1) = 0) V).1)]) ho d_LAW_221 yv_MO_shift g_848 g_849 g_847 (c_MO_shift M.2.1 D (z0 + 138) V (¬ sN xs (i + 1) = 0) ) rfl rfl ⟨Nat.le_of_ble_eq_true rfl, Nat.le_of_ble_eq_true rfl⟩ ⟨Nat.le_of_ble_eq_true rfl, Nat.le_of_ble_eq_true rfl⟩ rfl rfl (Nat.le_of_ble_eq_true rfl) ((isO.o k_49).choose_spec) rfl rfl k_49 (rA_sub (by omega) (by omega)) (fun v_52 H_54 hv_52 f_53 => ?_)
              have k_55 := hW_50.kept (fun q g1 g2 => f_53.2 q (by have := hW_50.lt; omega) (rA_no (by omega)))
              obtain ⟨rfl, hW_56⟩ := hv_52
              show X _ _ _ _ 149 7992 _ _ _ [zV ((m_shift (¬ sN xs (i + 1) = 0) V).1), zV ((m_shift (¬ sN xs (i + 1) = 0) V).1)] _
              refine x_same (tgt := 859) ho d_LAW_224 (by decide) ?_
              refine x_iinc (L' := [(3, zV (i + 4)), (2, .ref (z0 + 138)), (1, .ref (z0 + 1)), (0, .ref b)]) ho 0 d_LAW_859 rfl rfl (by decide) rfl ?_
              refine x_goto (tgt := 18) ho d_LAW_862 (by decide) ?_
              exact ih_18 (i + 4) ((m_shift (¬ sN xs (i + 1) = 0) V).2) H_54 k_55 hW_56 (by omega) (by omega)
            ·
              exact absurd c_196 c_213
          ·
            refine x_iconst ho d_LAW_199 ?_
            refine x_eqI (b := bI (¬ sN xs (i + 1) = 0)) (by exact (bI_t (P := ¬ sN xs (i + 1) = 0) c_196).symm) ?_
            refine x_goto (tgt := 204) ho d_LAW_200 (by decide) ?_
            refine x_callV (rest := []) ho d_LAW_204 yv_MW_shift g_388 g_389 g_387 (c_MW_shift M.2.1 D (z0 + 1) V (¬ sN xs (i + 1) = 0) ) rfl rfl ⟨Nat.le_of_ble_eq_true rfl, Nat.le_of_ble_eq_true rfl⟩ ⟨Nat.le_of_ble_eq_true rfl, Nat.le_of_ble_eq_true rfl⟩ rfl rfl (Nat.le_of_ble_eq_true rfl) l_x.o rfl rfl l_x (rA_sub (by omega) (by omega)) (fun v_57 H_59 hv_57 f_58 => ?_)
            have k_60 := l_m.kept (fun q g1 g2 => f_58.2 q (by have := l_m.lt; omega) (rA_no (by omega)))
            obtain ⟨rfl, hW_61⟩ := hv_57
            show X _ _ _ _ 149 7992 _ _ _ [zV ((m_shift (¬ sN xs (i + 1) = 0) V).1)] _
            refine x_aload_n ho 1 d_LAW_207 rfl ?_
            refine x_aload_n ho 3 d_LAW_208 rfl ?_
            refine x_iload_n ho 0 d_LAW_209 rfl ?_
            refine x_iconst ho d_LAW_210 ?_
            refine x_iadd ho d_LAW_211 ?_
            refine x_sld ho hX hb hbA d_LAW_212 (by omega) (by omega) hN ?_
            have sr_62 := sN_r xs (i + 1)
            refine x_if_eq (tgt := 220) ho d_LAW_213 (by decide) (by omega) (fun c_213 => ?_) (fun c_213 => ?_)
            ·
              exact absurd c_213 c_196
            ·
              refine x_iconst ho d_LAW_216 ?_
              refine x_eqI (b := bI (¬ sN xs (i + 1) = 0)) (by exact (bI_t (P := ¬ sN xs (i + 1) = 0) c_213).symm) ?_
              refine x_goto (tgt := 221) ho d_LAW_217 (by decide) ?_
              refine x_callV (rest := [zV ((m_shift (¬ sN xs (i + 1) = 0) V).1)]) ho d_LAW_221 yv_MO_shift g_848 g_849 g_847 (c_MO_shift M.2.1 D (z0 + 138) V (¬ sN xs (i + 1) = 0) ) rfl rfl ⟨Nat.le_of_ble_eq_true rfl, Nat.le_of_ble_eq_true rfl⟩ ⟨Nat.le_of_ble_eq_true rfl, Nat.le_of_ble_eq_true rfl⟩ rfl rfl (Nat.le_of_ble_eq_true rfl) ((isO.o k_60).choose_spec) rfl rfl k_60 (rA_sub (by omega) (by omega)) (fun v_63 H_65 hv_63 f_64 => ?_)
              have k_66 := hW_61.kept (fun q g1 g2 => f_64.2 q (by have := hW_61.lt; omega) (rA_no (by omega)))
              obtain ⟨rfl, hW_67⟩ := hv_63
              show X _ _ _ _ 149 7992 _ _ _ [zV ((m_shift (¬ sN xs (i + 1) = 0) V).1), zV ((m_shift (¬ sN xs (i + 1) = 0) V).1)] _
              refine x_same (tgt := 859) ho d_LAW_224 (by decide) ?_
              refine x_iinc (L' := [(3, zV (i + 4)), (2, .ref (z0 + 138)), (1, .ref (z0 + 1)), (0, .ref b)]) ho 0 d_LAW_859 rfl rfl (by decide) rfl ?_
              refine x_goto (tgt := 18) ho d_LAW_862 (by decide) ?_
              exact ih_18 (i + 4) ((m_shift (¬ sN xs (i + 1) = 0) V).2) H_65 k_66 hW_67 (by omega) (by omega)
        ·
          refine x_tabIn (tgt := 229) (off := 197) ho 3 d_LAW_32 sw_32 (by decide) (by decide) rfl (by decide) ?_
          refine x_aload_n ho 2 d_LAW_229 rfl ?_
          refine x_aload_n ho 3 d_LAW_230 rfl ?_
          refine x_iload_n ho 0 d_LAW_231 rfl ?_
          refine x_iconst ho d_LAW_232 ?_
          refine x_iadd ho d_LAW_233 ?_
          refine x_sld ho hX hb hbA d_LAW_234 (by omega) (by omega) hN ?_
          have sr_68 := sN_r xs (i + 1)
          refine x_aload_n ho 3 d_LAW_235 rfl ?_
          refine x_iload_n ho 0 d_LAW_236 rfl ?_
          refine x_iconst ho d_LAW_237 ?_
          refine x_iadd ho d_LAW_238 ?_
          refine x_sld ho hX hb hbA d_LAW_239 (by omega) (by omega) hN ?_
          have sr_69 := sN_r xs (i + 2)
          refine x_callV (rest := []) ho d_LAW_240 yv_MW_swap g_407 g_408 g_406 (c_MW_swap M.2.1 D (z0 + 1) V (sN xs (i + 1)) (sN xs (i + 2)) (by omega) (by omega)) rfl rfl ⟨Nat.le_of_ble_eq_true rfl, Nat.le_of_ble_eq_true rfl⟩ ⟨Nat.le_of_ble_eq_true rfl, Nat.le_of_ble_eq_true rfl⟩ rfl rfl (Nat.le_of_ble_eq_true rfl) l_x.o rfl rfl l_x (rA_sub (by omega) (by omega)) (fun v_70 H_72 hv_70 f_71 => ?_)
          have k_73 := l_m.kept (fun q g1 g2 => f_71.2 q (by have := l_m.lt; omega) (rA_no (by omega)))
          obtain ⟨rfl, hW_74⟩ := hv_70
          show X _ _ _ _ 149 7992 _ _ _ [zV ((m_swap (sN xs (i + 1)) (sN xs (i + 2)) V).1)] _
          refine x_aload_n ho 1 d_LAW_243 rfl ?_
          refine x_aload_n ho 3 d_LAW_244 rfl ?_
          refine x_iload_n ho 0 d_LAW_245 rfl ?_
          refine x_iconst ho d_LAW_246 ?_
          refine x_iadd ho d_LAW_247 ?_
          refine x_sld ho hX hb hbA d_LAW_248 (by omega) (by omega) hN ?_
          have sr_75 := sN_r xs (i + 1)
          refine x_aload_n ho 3 d_LAW_249 rfl ?_
          refine x_iload_n ho 0 d_LAW_250 rfl ?_
          refine x_iconst ho d_LAW_251 ?_
          refine x_iadd ho d_LAW_252 ?_
          refine x_sld ho hX hb hbA d_LAW_253 (by omega) (by omega) hN ?_
          have sr_76 := sN_r xs (i + 2)
          refine x_callV (rest := [zV ((m_swap (sN xs (i + 1)) (sN xs (i + 2)) V).1)]) ho d_LAW_254 yv_MO_swap g_852 g_853 g_851 (c_MO_swap M.2.1 D (z0 + 138) V (sN xs (i + 1)) (sN xs (i + 2)) (by omega) (by omega)) rfl rfl ⟨Nat.le_of_ble_eq_true rfl, Nat.le_of_ble_eq_true rfl⟩ ⟨Nat.le_of_ble_eq_true rfl, Nat.le_of_ble_eq_true rfl⟩ rfl rfl (Nat.le_of_ble_eq_true rfl) ((isO.o k_73).choose_spec) rfl rfl k_73 (rA_sub (by omega) (by omega)) (fun v_77 H_79 hv_77 f_78 => ?_)
          have k_80 := hW_74.kept (fun q g1 g2 => f_78.2 q (by have := hW_74.lt; omega) (rA_no (by omega)))
          obtain ⟨rfl, hW_81⟩ := hv_77
          show X _ _ _ _ 149 7992 _ _ _ [zV ((m_swap (sN xs (i + 1)) (sN xs (i + 2)) V).1), zV ((m_swap (sN xs (i + 1)) (sN xs (i + 2)) V).1)] _
          refine x_same (tgt := 859) ho d_LAW_257 (by decide) ?_
          refine x_iinc (L' := [(3, zV (i + 4)), (2, .ref (z0 + 138)), (1, .ref (z0 + 1)), (0, .ref b)]) ho 0 d_LAW_859 rfl rfl (by decide) rfl ?_
          refine x_goto (tgt := 18) ho d_LAW_862 (by decide) ?_
          exact ih_18 (i + 4) ((m_swap (sN xs (i + 1)) (sN xs (i + 2)) V).2) H_79 k_80 hW_81 (by omega) (by omega)
        ·
          refine x_tabIn (tgt := 262) (off := 230) ho 4 d_LAW_32 sw_32 (by decide) (by decide) rfl (by decide) ?_
          refine x_aload_n ho 2 d_LAW_262 rfl ?_
          refine x_aload_n ho 3 d_LAW_263 rfl ?_
          refine x_iload_n ho 0 d_LAW_264 rfl ?_
          refine x_iconst ho d_LAW_265 ?_
          refine x_iadd ho d_LAW_266 ?_
          refine x_sld ho hX hb hbA d_LAW_267 (by omega) (by omega) hN ?_
          have sr_82 := sN_r xs (i + 1)
          refine x_callV (rest := []) ho d_LAW_268 yv_MW_start g_425 g_426 g_424 (c_MW_start M.2.1 D (z0 + 1) V (sN xs (i + 1)) (by omega)) rfl rfl ⟨Nat.le_of_ble_eq_true rfl, Nat.le_of_ble_eq_true rfl⟩ ⟨Nat.le_of_ble_eq_true rfl, Nat.le_of_ble_eq_true rfl⟩ rfl rfl (Nat.le_of_ble_eq_true rfl) l_x.o rfl rfl l_x (rA_sub (by omega) (by omega)) (fun v_83 H_85 hv_83 f_84 => ?_)
          have k_86 := l_m.kept (fun q g1 g2 => f_84.2 q (by have := l_m.lt; omega) (rA_no (by omega)))
          obtain ⟨rfl, hW_87⟩ := hv_83
          show X _ _ _ _ 149 7992 _ _ _ [zV ((m_start (sN xs (i + 1)) V).1)] _
          refine x_aload_n ho 1 d_LAW_271 rfl ?_
          refine x_aload_n ho 3 d_LAW_272 rfl ?_
          refine x_iload_n ho 0 d_LAW_273 rfl ?_
          refine x_iconst ho d_LAW_274 ?_
          refine x_iadd ho d_LAW_275 ?_
          refine x_sld ho hX hb hbA d_LAW_276 (by omega) (by omega) hN ?_
          have sr_88 := sN_r xs (i + 1)
          refine x_callV (rest := [zV ((m_start (sN xs (i + 1)) V).1)]) ho d_LAW_277 yv_MO_start g_868 g_869 g_867 (c_MO_start M.2.1 D (z0 + 138) V (sN xs (i + 1)) (by omega)) rfl rfl ⟨Nat.le_of_ble_eq_true rfl, Nat.le_of_ble_eq_true rfl⟩ ⟨Nat.le_of_ble_eq_true rfl, Nat.le_of_ble_eq_true rfl⟩ rfl rfl (Nat.le_of_ble_eq_true rfl) ((isO.o k_86).choose_spec) rfl rfl k_86 (rA_sub (by omega) (by omega)) (fun v_89 H_91 hv_89 f_90 => ?_)
          have k_92 := hW_87.kept (fun q g1 g2 => f_90.2 q (by have := hW_87.lt; omega) (rA_no (by omega)))
          obtain ⟨rfl, hW_93⟩ := hv_89
          show X _ _ _ _ 149 7992 _ _ _ [zV ((m_start (sN xs (i + 1)) V).1), zV ((m_start (sN xs (i + 1)) V).1)] _
          refine x_same (tgt := 859) ho d_LAW_280 (by decide) ?_
          refine x_iinc (L' := [(3, zV (i + 4)), (2, .ref (z0 + 138)), (1, .ref (z0 + 1)), (0, .ref b)]) ho 0 d_LAW_859 rfl rfl (by decide) rfl ?_
          refine x_goto (tgt := 18) ho d_LAW_862 (by decide) ?_
          exact ih_18 (i + 4) ((m_start (sN xs (i + 1)) V).2) H_91 k_92 hW_93 (by omega) (by omega)
        ·
          refine x_tabIn (tgt := 285) (off := 253) ho 5 d_LAW_32 sw_32 (by decide) (by decide) rfl (by decide) ?_
          refine x_aload_n ho 2 d_LAW_285 rfl ?_
          refine x_aload_n ho 3 d_LAW_286 rfl ?_
          refine x_iload_n ho 0 d_LAW_287 rfl ?_
          refine x_iconst ho d_LAW_288 ?_
          refine x_iadd ho d_LAW_289 ?_
          refine x_sld ho hX hb hbA d_LAW_290 (by omega) (by omega) hN ?_
          have sr_94 := sN_r xs (i + 1)
          refine x_callV (rest := []) ho d_LAW_291 yv_MW_grow g_437 g_438 g_436 (c_MW_grow M.2.1 D (z0 + 1) V (sN xs (i + 1)) (by omega)) rfl rfl ⟨Nat.le_of_ble_eq_true rfl, Nat.le_of_ble_eq_true rfl⟩ ⟨Nat.le_of_ble_eq_true rfl, Nat.le_of_ble_eq_true rfl⟩ rfl rfl (Nat.le_of_ble_eq_true rfl) l_x.o rfl rfl l_x (rA_sub (by omega) (by omega)) (fun v_95 H_97 hv_95 f_96 => ?_)
          have k_98 := l_m.kept (fun q g1 g2 => f_96.2 q (by have := l_m.lt; omega) (rA_no (by omega)))
          obtain ⟨rfl, hW_99⟩ := hv_95
          show X _ _ _ _ 149 7992 _ _ _ [zV ((m_grow (sN xs (i + 1)) V).1)] _
          refine x_aload_n ho 1 d_LAW_294 rfl ?_
          refine x_aload_n ho 3 d_LAW_295 rfl ?_
          refine x_iload_n ho 0 d_LAW_296 rfl ?_
          refine x_iconst ho d_LAW_297 ?_
          refine x_iadd ho d_LAW_298 ?_
          refine x_sld ho hX hb hbA d_LAW_299 (by omega) (by omega) hN ?_
          have sr_100 := sN_r xs (i + 1)
          refine x_callV (rest := [zV ((m_grow (sN xs (i + 1)) V).1)]) ho d_LAW_300 yv_MO_grow g_872 g_873 g_871 (c_MO_grow M.2.1 D (z0 + 138) V (sN xs (i + 1)) (by omega)) rfl rfl ⟨Nat.le_of_ble_eq_true rfl, Nat.le_of_ble_eq_true rfl⟩ ⟨Nat.le_of_ble_eq_true rfl, Nat.le_of_ble_eq_true rfl⟩ rfl rfl (Nat.le_of_ble_eq_true rfl) ((isO.o k_98).choose_spec) rfl rfl k_98 (rA_sub (by omega) (by omega)) (fun v_101 H_103 hv_101 f_102 => ?_)
          have k_104 := hW_99.kept (fun q g1 g2 => f_102.2 q (by have := hW_99.lt; omega) (rA_no (by omega)))
          obtain ⟨rfl, hW_105⟩ := hv_101
          show X _ _ _ _ 149 7992 _ _ _ [zV ((m_grow (sN xs (i + 1)) V).1), zV ((m_grow (sN xs (i + 1)) V).1)] _
          refine x_same (tgt := 859) ho d_LAW_303 (by decide) ?_
          refine x_iinc (L' := [(3, zV (i + 4)), (2, .ref (z0 + 138)), (1, .ref (z0 + 1)), (0, .ref b)]) ho 0 d_LAW_859 rfl rfl (by decide) rfl ?_
          refine x_goto (tgt := 18) ho d_LAW_862 (by decide) ?_
          exact ih_18 (i + 4) ((m_grow (sN xs (i + 1)) V).2) H_103 k_104 hW_105 (by omega) (by omega)
        ·
          refine x_tabIn (tgt := 308) (off := 276) ho 6 d_LAW_32 sw_32 (by decide) (by decide) rfl (by decide) ?_
          refine x_aload_n ho 2 d_LAW_308 rfl ?_
          refine x_aload_n ho 3 d_LAW_309 rfl ?_
          refine x_iload_n ho 0 d_LAW_310 rfl ?_
          refine x_iconst ho d_LAW_311 ?_
          refine x_iadd ho d_LAW_312 ?_
          refine x_sld ho hX hb hbA d_LAW_313 (by omega) (by omega) hN ?_
          have sr_106 := sN_r xs (i + 1)
          refine x_callV (rest := []) ho d_LAW_314 yv_MW_cut g_442 g_443 g_441 (c_MW_cut M.2.1 D (z0 + 1) V (sN xs (i + 1)) (by omega)) rfl rfl ⟨Nat.le_of_ble_eq_true rfl, Nat.le_of_ble_eq_true rfl⟩ ⟨Nat.le_of_ble_eq_true rfl, Nat.le_of_ble_eq_true rfl⟩ rfl rfl (Nat.le_of_ble_eq_true rfl) l_x.o rfl rfl l_x (rA_sub (by omega) (by omega)) (fun v_107 H_109 hv_107 f_108 => ?_)
          have k_110 := l_m.kept (fun q g1 g2 => f_108.2 q (by have := l_m.lt; omega) (rA_no (by omega)))
          obtain ⟨rfl, hW_111⟩ := hv_107
          show X _ _ _ _ 149 7992 _ _ _ [zV ((m_cut (sN xs (i + 1)) V).1)] _
          refine x_aload_n ho 1 d_LAW_317 rfl ?_
          refine x_aload_n ho 3 d_LAW_318 rfl ?_
          refine x_iload_n ho 0 d_LAW_319 rfl ?_
          refine x_iconst ho d_LAW_320 ?_
          refine x_iadd ho d_LAW_321 ?_
          refine x_sld ho hX hb hbA d_LAW_322 (by omega) (by omega) hN ?_
          have sr_112 := sN_r xs (i + 1)
          refine x_callV (rest := [zV ((m_cut (sN xs (i + 1)) V).1)]) ho d_LAW_323 yv_MO_cut g_888 g_889 g_887 (c_MO_cut M.2.1 D (z0 + 138) V (sN xs (i + 1)) (by omega)) rfl rfl ⟨Nat.le_of_ble_eq_true rfl, Nat.le_of_ble_eq_true rfl⟩ ⟨Nat.le_of_ble_eq_true rfl, Nat.le_of_ble_eq_true rfl⟩ rfl rfl (Nat.le_of_ble_eq_true rfl) ((isO.o k_110).choose_spec) rfl rfl k_110 (rA_sub (by omega) (by omega)) (fun v_113 H_115 hv_113 f_114 => ?_)
          have k_116 := hW_111.kept (fun q g1 g2 => f_114.2 q (by have := hW_111.lt; omega) (rA_no (by omega)))
          obtain ⟨rfl, hW_117⟩ := hv_113
          show X _ _ _ _ 149 7992 _ _ _ [zV ((m_cut (sN xs (i + 1)) V).1), zV ((m_cut (sN xs (i + 1)) V).1)] _
          refine x_same (tgt := 859) ho d_LAW_326 (by decide) ?_
          refine x_iinc (L' := [(3, zV (i + 4)), (2, .ref (z0 + 138)), (1, .ref (z0 + 1)), (0, .ref b)]) ho 0 d_LAW_859 rfl rfl (by decide) rfl ?_
          refine x_goto (tgt := 18) ho d_LAW_862 (by decide) ?_
          exact ih_18 (i + 4) ((m_cut (sN xs (i + 1)) V).2) H_115 k_116 hW_117 (by omega) (by omega)
        ·
          refine x_tabIn (tgt := 331) (off := 299) ho 7 d_LAW_32 sw_32 (by decide) (by decide) rfl (by decide) ?_
          refine x_aload_n ho 2 d_LAW_331 rfl ?_
          refine x_callV (rest := []) ho d_LAW_332 yv_MW_derive g_450 g_451 g_449 (c_MW_derive M.2.1 D (z0 + 1) V ) rfl rfl ⟨Nat.le_of_ble_eq_true rfl, Nat.le_of_ble_eq_true rfl⟩ ⟨Nat.le_of_ble_eq_true rfl, Nat.le_of_ble_eq_true rfl⟩ rfl rfl (Nat.le_of_ble_eq_true rfl) l_x.o rfl rfl l_x (rA_sub (by omega) (by omega)) (fun v_118 H_120 hv_118 f_119 => ?_)
          have k_121 := l_m.kept (fun q g1 g2 => f_119.2 q (by have := l_m.lt; omega) (rA_no (by omega)))
          obtain ⟨rfl, hW_122⟩ := hv_118
          show X _ _ _ _ 149 7992 _ _ _ [zV ((m_derive V).1)] _
          refine x_aload_n ho 1 d_LAW_335 rfl ?_
          refine x_callV (rest := [zV ((m_derive V).1)]) ho d_LAW_336 yv_MO_derive g_892 g_893 g_891 (c_MO_derive M.2.1 D (z0 + 138) V ) rfl rfl ⟨Nat.le_of_ble_eq_true rfl, Nat.le_of_ble_eq_true rfl⟩ ⟨Nat.le_of_ble_eq_true rfl, Nat.le_of_ble_eq_true rfl⟩ rfl rfl (Nat.le_of_ble_eq_true rfl) ((isO.o k_121).choose_spec) rfl rfl k_121 (rA_sub (by omega) (by omega)) (fun v_123 H_125 hv_123 f_124 => ?_)
          have k_126 := hW_122.kept (fun q g1 g2 => f_124.2 q (by have := hW_122.lt; omega) (rA_no (by omega)))
          obtain ⟨rfl, hW_127⟩ := hv_123
          show X _ _ _ _ 149 7992 _ _ _ [zV ((m_derive V).1), zV ((m_derive V).1)] _
          refine x_same (tgt := 859) ho d_LAW_339 (by decide) ?_
          refine x_iinc (L' := [(3, zV (i + 4)), (2, .ref (z0 + 138)), (1, .ref (z0 + 1)), (0, .ref b)]) ho 0 d_LAW_859 rfl rfl (by decide) rfl ?_
          refine x_goto (tgt := 18) ho d_LAW_862 (by decide) ?_
          exact ih_18 (i + 4) ((m_derive V).2) H_125 k_126 hW_127 (by omega) (by omega)
        ·
          refine x_tabIn (tgt := 344) (off := 312) ho 8 d_LAW_32 sw_32 (by decide) (by decide) rfl (by decide) ?_
          refine x_aload_n ho 2 d_LAW_344 rfl ?_
          refine x_callV (rest := []) ho d_LAW_345 yv_MW_look g_491 g_492 g_490 (c_MW_look M.2.1 D (z0 + 1) V ) rfl rfl ⟨Nat.le_of_ble_eq_true rfl, Nat.le_of_ble_eq_true rfl⟩ ⟨Nat.le_of_ble_eq_true rfl, Nat.le_of_ble_eq_true rfl⟩ rfl rfl (Nat.le_of_ble_eq_true rfl) l_x.o rfl rfl l_x (rA_sub (by omega) (by omega)) (fun v_128 H_130 hv_128 f_129 => ?_)
          have k_131 := l_m.kept (fun q g1 g2 => f_129.2 q (by have := l_m.lt; omega) (rA_no (by omega)))
          obtain ⟨rfl, hW_132⟩ := hv_128
          show X _ _ _ _ 149 7992 _ _ _ [zV ((m_look V).1)] _
          refine x_aload_n ho 1 d_LAW_348 rfl ?_
          refine x_callV (rest := [zV ((m_look V).1)]) ho d_LAW_349 yv_MO_look g_908 g_909 g_907 (c_MO_look M.2.1 D (z0 + 138) V ) rfl rfl ⟨Nat.le_of_ble_eq_true rfl, Nat.le_of_ble_eq_true rfl⟩ ⟨Nat.le_of_ble_eq_true rfl, Nat.le_of_ble_eq_true rfl⟩ rfl rfl (Nat.le_of_ble_eq_true rfl) ((isO.o k_131).choose_spec) rfl rfl k_131 (rA_sub (by omega) (by omega)) (fun v_133 H_135 hv_133 f_134 => ?_)
          have k_136 := hW_132.kept (fun q g1 g2 => f_134.2 q (by have := hW_132.lt; omega) (rA_no (by omega)))
          obtain ⟨rfl, hW_137⟩ := hv_133
          show X _ _ _ _ 149 7992 _ _ _ [zV ((m_look V).1), zV ((m_look V).1)] _
          refine x_same (tgt := 859) ho d_LAW_352 (by decide) ?_
          refine x_iinc (L' := [(3, zV (i + 4)), (2, .ref (z0 + 138)), (1, .ref (z0 + 1)), (0, .ref b)]) ho 0 d_LAW_859 rfl rfl (by decide) rfl ?_
          refine x_goto (tgt := 18) ho d_LAW_862 (by decide) ?_
          exact ih_18 (i + 4) ((m_look V).2) H_135 k_136 hW_137 (by omega) (by omega)
        ·
          refine x_tabIn (tgt := 357) (off := 325) ho 9 d_LAW_32 sw_32 (by decide) (by decide) rfl (by decide) ?_
          refine x_aload_n ho 2 d_LAW_357 rfl ?_
          refine x_aload_n ho 3 d_LAW_358 rfl ?_
          refine x_iload_n ho 0 d_LAW_359 rfl ?_
          refine x_iconst ho d_LAW_360 ?_
          refine x_iadd ho d_LAW_361 ?_
          refine x_sld ho hX hb hbA d_LAW_362 (by omega) (by omega) hN ?_
          have sr_138 := sN_r xs (i + 1)
          refine x_i2c ho d_LAW_363 ?_
          refine x_callV (rest := []) ho d_LAW_364 yv_MW_type g_503 g_504 g_502 (c_MW_type M.2.1 D (z0 + 1) V (chI (sN xs (i + 1))) (by exact chI_r _)) rfl rfl ⟨Nat.le_of_ble_eq_true rfl, Nat.le_of_ble_eq_true rfl⟩ ⟨Nat.le_of_ble_eq_true rfl, Nat.le_of_ble_eq_true rfl⟩ rfl rfl (Nat.le_of_ble_eq_true rfl) l_x.o rfl rfl l_x (rA_sub (by omega) (by omega)) (fun v_139 H_141 hv_139 f_140 => ?_)
          have k_142 := l_m.kept (fun q g1 g2 => f_140.2 q (by have := l_m.lt; omega) (rA_no (by omega)))
          obtain ⟨rfl, hW_143⟩ := hv_139
          show X _ _ _ _ 149 7992 _ _ _ [zV ((m_type (chI (sN xs (i + 1))) V).1)] _
          refine x_aload_n ho 1 d_LAW_367 rfl ?_
          refine x_aload_n ho 3 d_LAW_368 rfl ?_
          refine x_iload_n ho 0 d_LAW_369 rfl ?_
          refine x_iconst ho d_LAW_370 ?_
          refine x_iadd ho d_LAW_371 ?_
          refine x_sld ho hX hb hbA d_LAW_372 (by omega) (by omega) hN ?_
          have sr_144 := sN_r xs (i + 1)
          refine x_i2c ho d_LAW_373 ?_
          refine x_callV (rest := [zV ((m_type (chI (sN xs (i + 1))) V).1)]) ho d_LAW_374 yv_MO_type g_915 g_916 g_914 (c_MO_type M.2.1 D (z0 + 138) V (chI (sN xs (i + 1))) (by exact chI_r _)) rfl rfl ⟨Nat.le_of_ble_eq_true rfl, Nat.le_of_ble_eq_true rfl⟩ ⟨Nat.le_of_ble_eq_true rfl, Nat.le_of_ble_eq_true rfl⟩ rfl rfl (Nat.le_of_ble_eq_true rfl) ((isO.o k_142).choose_spec) rfl rfl k_142 (rA_sub (by omega) (by omega)) (fun v_145 H_147 hv_145 f_146 => ?_)
          have k_148 := hW_143.kept (fun q g1 g2 => f_146.2 q (by have := hW_143.lt; omega) (rA_no (by omega)))
          obtain ⟨rfl, hW_149⟩ := hv_145
          show X _ _ _ _ 149 7992 _ _ _ [zV ((m_type (chI (sN xs (i + 1))) V).1), zV ((m_type (chI (sN xs (i + 1))) V).1)] _
          refine x_same (tgt := 859) ho d_LAW_377 (by decide) ?_
          refine x_iinc (L' := [(3, zV (i + 4)), (2, .ref (z0 + 138)), (1, .ref (z0 + 1)), (0, .ref b)]) ho 0 d_LAW_859 rfl rfl (by decide) rfl ?_
          refine x_goto (tgt := 18) ho d_LAW_862 (by decide) ?_
          exact ih_18 (i + 4) ((m_type (chI (sN xs (i + 1))) V).2) H_147 k_148 hW_149 (by omega) (by omega)
        ·
          refine x_tabIn (tgt := 382) (off := 350) ho 10 d_LAW_32 sw_32 (by decide) (by decide) rfl (by decide) ?_
          refine x_aload_n ho 2 d_LAW_382 rfl ?_
          refine x_callV (rest := []) ho d_LAW_383 yv_MW_clearText g_515 g_516 g_514 (c_MW_clearText M.2.1 D (z0 + 1) V ) rfl rfl ⟨Nat.le_of_ble_eq_true rfl, Nat.le_of_ble_eq_true rfl⟩ ⟨Nat.le_of_ble_eq_true rfl, Nat.le_of_ble_eq_true rfl⟩ rfl rfl (Nat.le_of_ble_eq_true rfl) l_x.o rfl rfl l_x (rA_sub (by omega) (by omega)) (fun v_150 H_152 hv_150 f_151 => ?_)
          have k_153 := l_m.kept (fun q g1 g2 => f_151.2 q (by have := l_m.lt; omega) (rA_no (by omega)))
          obtain ⟨rfl, hW_154⟩ := hv_150
          show X _ _ _ _ 149 7992 _ _ _ [zV ((m_clearText V).1)] _
          refine x_aload_n ho 1 d_LAW_386 rfl ?_
          refine x_callV (rest := [zV ((m_clearText V).1)]) ho d_LAW_387 yv_MO_clearText g_919 g_920 g_918 (c_MO_clearText M.2.1 D (z0 + 138) V ) rfl rfl ⟨Nat.le_of_ble_eq_true rfl, Nat.le_of_ble_eq_true rfl⟩ ⟨Nat.le_of_ble_eq_true rfl, Nat.le_of_ble_eq_true rfl⟩ rfl rfl (Nat.le_of_ble_eq_true rfl) ((isO.o k_153).choose_spec) rfl rfl k_153 (rA_sub (by omega) (by omega)) (fun v_155 H_157 hv_155 f_156 => ?_)
          have k_158 := hW_154.kept (fun q g1 g2 => f_156.2 q (by have := hW_154.lt; omega) (rA_no (by omega)))
          obtain ⟨rfl, hW_159⟩ := hv_155
          show X _ _ _ _ 149 7992 _ _ _ [zV ((m_clearText V).1), zV ((m_clearText V).1)] _
          refine x_same (tgt := 859) ho d_LAW_390 (by decide) ?_
          refine x_iinc (L' := [(3, zV (i + 4)), (2, .ref (z0 + 138)), (1, .ref (z0 + 1)), (0, .ref b)]) ho 0 d_LAW_859 rfl rfl (by decide) rfl ?_
          refine x_goto (tgt := 18) ho d_LAW_862 (by decide) ?_
          exact ih_18 (i + 4) ((m_clearText V).2) H_157 k_158 hW_159 (by omega) (by omega)
        ·
          refine x_tabIn (tgt := 395) (off := 363) ho 11 d_LAW_32 sw_32 (by decide) (by decide) rfl (by decide) ?_
          refine x_aload_n ho 2 d_LAW_395 rfl ?_
          refine x_callV (rest := []) ho d_LAW_396 yv_MW_undo g_523 g_524 g_522 (c_MW_undo M.2.1 D (z0 + 1) V ) rfl rfl ⟨Nat.le_of_ble_eq_true rfl, Nat.le_of_ble_eq_true rfl⟩ ⟨Nat.le_of_ble_eq_true rfl, Nat.le_of_ble_eq_true rfl⟩ rfl rfl (Nat.le_of_ble_eq_true rfl) l_x.o rfl rfl l_x (rA_sub (by omega) (by omega)) (fun v_160 H_162 hv_160 f_161 => ?_)
          have k_163 := l_m.kept (fun q g1 g2 => f_161.2 q (by have := l_m.lt; omega) (rA_no (by omega)))
          obtain ⟨rfl, hW_164⟩ := hv_160
          show X _ _ _ _ 149 7992 _ _ _ [zV ((m_undo V).1)] _
          refine x_aload_n ho 1 d_LAW_399 rfl ?_
          refine x_callV (rest := [zV ((m_undo V).1)]) ho d_LAW_400 yv_MO_undo g_923 g_924 g_922 (c_MO_undo M.2.1 D (z0 + 138) V ) rfl rfl ⟨Nat.le_of_ble_eq_true rfl, Nat.le_of_ble_eq_true rfl⟩ ⟨Nat.le_of_ble_eq_true rfl, Nat.le_of_ble_eq_true rfl⟩ rfl rfl (Nat.le_of_ble_eq_true rfl) ((isO.o k_163).choose_spec) rfl rfl k_163 (rA_sub (by omega) (by omega)) (fun v_165 H_167 hv_165 f_166 => ?_)
          have k_168 := hW_164.kept (fun q g1 g2 => f_166.2 q (by have := hW_164.lt; omega) (rA_no (by omega)))
          obtain ⟨rfl, hW_169⟩ := hv_165
          show X _ _ _ _ 149 7992 _ _ _ [zV ((m_undo V).1), zV ((m_undo V).1)] _
          refine x_same (tgt := 859) ho d_LAW_403 (by decide) ?_
          refine x_iinc (L' := [(3, zV (i + 4)), (2, .ref (z0 + 138)), (1, .ref (z0 + 1)), (0, .ref b)]) ho 0 d_LAW_859 rfl rfl (by decide) rfl ?_
          refine x_goto (tgt := 18) ho d_LAW_862 (by decide) ?_
          exact ih_18 (i + 4) ((m_undo V).2) H_167 k_168 hW_169 (by omega) (by omega)
        ·
          refine x_tabIn (tgt := 408) (off := 376) ho 12 d_LAW_32 sw_32 (by decide) (by decide) rfl (by decide) ?_
          refine x_aload_n ho 2 d_LAW_408 rfl ?_
          refine x_callV (rest := []) ho d_LAW_409 yv_MW_keep g_535 g_536 g_534 (c_MW_keep M.2.1 D (z0 + 1) V ) rfl rfl ⟨Nat.le_of_ble_eq_true rfl, Nat.le_of_ble_eq_true rfl⟩ ⟨Nat.le_of_ble_eq_true rfl, Nat.le_of_ble_eq_true rfl⟩ rfl rfl (Nat.le_of_ble_eq_true rfl) l_x.o rfl rfl l_x (rA_sub (by omega) (by omega)) (fun v_170 H_172 hv_170 f_171 => ?_)
          have k_173 := l_m.kept (fun q g1 g2 => f_171.2 q (by have := l_m.lt; omega) (rA_no (by omega)))
          obtain ⟨rfl, hW_174⟩ := hv_170
          show X _ _ _ _ 149 7992 _ _ _ [zV ((m_keep V).1)] _
          refine x_aload_n ho 1 d_LAW_412 rfl ?_
          refine x_callV (rest := [zV ((m_keep V).1)]) ho d_LAW_413 yv_MO_keep g_927 g_928 g_926 (c_MO_keep M.2.1 D (z0 + 138) V ) rfl rfl ⟨Nat.le_of_ble_eq_true rfl, Nat.le_of_ble_eq_true rfl⟩ ⟨Nat.le_of_ble_eq_true rfl, Nat.le_of_ble_eq_true rfl⟩ rfl rfl (Nat.le_of_ble_eq_true rfl) ((isO.o k_173).choose_spec) rfl rfl k_173 (rA_sub (by omega) (by omega)) (fun v_175 H_177 hv_175 f_176 => ?_)
          have k_178 := hW_174.kept (fun q g1 g2 => f_176.2 q (by have := hW_174.lt; omega) (rA_no (by omega)))
          obtain ⟨rfl, hW_179⟩ := hv_175
          show X _ _ _ _ 149 7992 _ _ _ [zV ((m_keep V).1), zV ((m_keep V).1)] _
          refine x_same (tgt := 859) ho d_LAW_416 (by decide) ?_
          refine x_iinc (L' := [(3, zV (i + 4)), (2, .ref (z0 + 138)), (1, .ref (z0 + 1)), (0, .ref b)]) ho 0 d_LAW_859 rfl rfl (by decide) rfl ?_
          refine x_goto (tgt := 18) ho d_LAW_862 (by decide) ?_
          exact ih_18 (i + 4) ((m_keep V).2) H_177 k_178 hW_179 (by omega) (by omega)
        ·
          refine x_tabIn (tgt := 421) (off := 389) ho 13 d_LAW_32 sw_32 (by decide) (by decide) rfl (by decide) ?_
          refine x_aload_n ho 2 d_LAW_421 rfl ?_
          refine x_callV (rest := []) ho d_LAW_422 yv_MW_restore g_540 g_541 g_539 (c_MW_restore M.2.1 D (z0 + 1) V ) rfl rfl ⟨Nat.le_of_ble_eq_true rfl, Nat.le_of_ble_eq_true rfl⟩ ⟨Nat.le_of_ble_eq_true rfl, Nat.le_of_ble_eq_true rfl⟩ rfl rfl (Nat.le_of_ble_eq_true rfl) l_x.o rfl rfl l_x (rA_sub (by omega) (by omega)) (fun v_180 H_182 hv_180 f_181 => ?_)
          have k_183 := l_m.kept (fun q g1 g2 => f_181.2 q (by have := l_m.lt; omega) (rA_no (by omega)))
          obtain ⟨rfl, hW_184⟩ := hv_180
          show X _ _ _ _ 149 7992 _ _ _ [zV ((m_restore V).1)] _
          refine x_aload_n ho 1 d_LAW_425 rfl ?_
          refine x_callV (rest := [zV ((m_restore V).1)]) ho d_LAW_426 yv_MO_restore g_931 g_932 g_930 (c_MO_restore M.2.1 D (z0 + 138) V ) rfl rfl ⟨Nat.le_of_ble_eq_true rfl, Nat.le_of_ble_eq_true rfl⟩ ⟨Nat.le_of_ble_eq_true rfl, Nat.le_of_ble_eq_true rfl⟩ rfl rfl (Nat.le_of_ble_eq_true rfl) ((isO.o k_183).choose_spec) rfl rfl k_183 (rA_sub (by omega) (by omega)) (fun v_185 H_187 hv_185 f_186 => ?_)
          have k_188 := hW_184.kept (fun q g1 g2 => f_186.2 q (by have := hW_184.lt; omega) (rA_no (by omega)))
          obtain ⟨rfl, hW_189⟩ := hv_185
          show X _ _ _ _ 149 7992 _ _ _ [zV ((m_restore V).1), zV ((m_restore V).1)] _
          refine x_same (tgt := 859) ho d_LAW_429 (by decide) ?_
          refine x_iinc (L' := [(3, zV (i + 4)), (2, .ref (z0 + 138)), (1, .ref (z0 + 1)), (0, .ref b)]) ho 0 d_LAW_859 rfl rfl (by decide) rfl ?_
          refine x_goto (tgt := 18) ho d_LAW_862 (by decide) ?_
          exact ih_18 (i + 4) ((m_restore V).2) H_187 k_188 hW_189 (by omega) (by omega)
        ·
          refine x_tabIn (tgt := 434) (off := 402) ho 14 d_LAW_32 sw_32 (by decide) (by decide) rfl (by decide) ?_
          refine x_aload_n ho 2 d_LAW_434 rfl ?_
          refine x_aload_n ho 3 d_LAW_435 rfl ?_
          refine x_iload_n ho 0 d_LAW_436 rfl ?_
          refine x_iconst ho d_LAW_437 ?_
          refine x_iadd ho d_LAW_438 ?_
          refine x_sld ho hX hb hbA d_LAW_439 (by omega) (by omega) hN ?_
          have sr_190 := sN_r xs (i + 1)
          refine x_aload_n ho 3 d_LAW_440 rfl ?_
          refine x_iload_n ho 0 d_LAW_441 rfl ?_
          refine x_iconst ho d_LAW_442 ?_
          refine x_iadd ho d_LAW_443 ?_
          refine x_sld ho hX hb hbA d_LAW_444 (by omega) (by omega) hN ?_
          have sr_191 := sN_r xs (i + 2)
          refine x_callV (rest := []) ho d_LAW_445 yv_MW_image g_544 g_545 g_543 (c_MW_image M.2.1 D (z0 + 1) V (sN xs (i + 1)) (sN xs (i + 2)) (by omega) (by omega)) rfl rfl ⟨Nat.le_of_ble_eq_true rfl, Nat.le_of_ble_eq_true rfl⟩ ⟨Nat.le_of_ble_eq_true rfl, Nat.le_of_ble_eq_true rfl⟩ rfl rfl (Nat.le_of_ble_eq_true rfl) l_x.o rfl rfl l_x (rA_sub (by omega) (by omega)) (fun v_192 H_194 hv_192 f_193 => ?_)
          have k_195 := l_m.kept (fun q g1 g2 => f_193.2 q (by have := l_m.lt; omega) (rA_no (by omega)))
          obtain ⟨rfl, hW_196⟩ := hv_192
          show X _ _ _ _ 149 7992 _ _ _ [zV (r_image (sN xs (i + 1)) (sN xs (i + 2)) V)] _
          refine x_aload_n ho 1 d_LAW_448 rfl ?_
          refine x_aload_n ho 3 d_LAW_449 rfl ?_
          refine x_iload_n ho 0 d_LAW_450 rfl ?_
          refine x_iconst ho d_LAW_451 ?_
          refine x_iadd ho d_LAW_452 ?_
          refine x_sld ho hX hb hbA d_LAW_453 (by omega) (by omega) hN ?_
          have sr_197 := sN_r xs (i + 1)
          refine x_aload_n ho 3 d_LAW_454 rfl ?_
          refine x_iload_n ho 0 d_LAW_455 rfl ?_
          refine x_iconst ho d_LAW_456 ?_
          refine x_iadd ho d_LAW_457 ?_
          refine x_sld ho hX hb hbA d_LAW_458 (by omega) (by omega) hN ?_
          have sr_198 := sN_r xs (i + 2)
          refine x_callV (rest := [zV (r_image (sN xs (i + 1)) (sN xs (i + 2)) V)]) ho d_LAW_459 yv_MO_image g_935 g_936 g_934 (c_MO_image M.2.1 D (z0 + 138) V (sN xs (i + 1)) (sN xs (i + 2)) (by omega) (by omega)) rfl rfl ⟨Nat.le_of_ble_eq_true rfl, Nat.le_of_ble_eq_true rfl⟩ ⟨Nat.le_of_ble_eq_true rfl, Nat.le_of_ble_eq_true rfl⟩ rfl rfl (Nat.le_of_ble_eq_true rfl) ((isO.o k_195).choose_spec) rfl rfl k_195 (rA_sub (by omega) (by omega)) (fun v_199 H_201 hv_199 f_200 => ?_)
          have k_202 := hW_196.kept (fun q g1 g2 => f_200.2 q (by have := hW_196.lt; omega) (rA_no (by omega)))
          obtain ⟨rfl, hW_203⟩ := hv_199
          show X _ _ _ _ 149 7992 _ _ _ [zV (r_image (sN xs (i + 1)) (sN xs (i + 2)) V), zV (r_image (sN xs (i + 1)) (sN xs (i + 2)) V)] _
          refine x_same (tgt := 859) ho d_LAW_462 (by decide) ?_
          refine x_iinc (L' := [(3, zV (i + 4)), (2, .ref (z0 + 138)), (1, .ref (z0 + 1)), (0, .ref b)]) ho 0 d_LAW_859 rfl rfl (by decide) rfl ?_
          refine x_goto (tgt := 18) ho d_LAW_862 (by decide) ?_
          exact ih_18 (i + 4) V H_201 k_202 hW_203 (by omega) (by omega)
        ·
          refine x_tabIn (tgt := 467) (off := 435) ho 15 d_LAW_32 sw_32 (by decide) (by decide) rfl (by decide) ?_
          refine x_aload_n ho 2 d_LAW_467 rfl ?_
          refine x_aload_n ho 3 d_LAW_468 rfl ?_
          refine x_iload_n ho 0 d_LAW_469 rfl ?_
          refine x_iconst ho d_LAW_470 ?_
          refine x_iadd ho d_LAW_471 ?_
          refine x_sld ho hX hb hbA d_LAW_472 (by omega) (by omega) hN ?_
          have sr_204 := sN_r xs (i + 1)
          refine x_aload_n ho 3 d_LAW_473 rfl ?_
          refine x_iload_n ho 0 d_LAW_474 rfl ?_
          refine x_iconst ho d_LAW_475 ?_
          refine x_iadd ho d_LAW_476 ?_
          refine x_sld ho hX hb hbA d_LAW_477 (by omega) (by omega) hN ?_
          have sr_205 := sN_r xs (i + 2)
          refine x_callV (rest := []) ho d_LAW_478 yv_MW_rule g_550 g_551 g_549 (c_MW_rule M.2.1 D (z0 + 1) V (sN xs (i + 1)) (sN xs (i + 2)) (by omega) (by omega)) rfl rfl ⟨Nat.le_of_ble_eq_true rfl, Nat.le_of_ble_eq_true rfl⟩ ⟨Nat.le_of_ble_eq_true rfl, Nat.le_of_ble_eq_true rfl⟩ rfl rfl (Nat.le_of_ble_eq_true rfl) l_x.o rfl rfl l_x (rA_sub (by omega) (by omega)) (fun v_206 H_208 hv_206 f_207 => ?_)
          have k_209 := l_m.kept (fun q g1 g2 => f_207.2 q (by have := l_m.lt; omega) (rA_no (by omega)))
          obtain ⟨rfl, hW_210⟩ := hv_206
          show X _ _ _ _ 149 7992 _ _ _ [zV (r_rule (sN xs (i + 1)) (sN xs (i + 2)) V)] _
          refine x_aload_n ho 1 d_LAW_481 rfl ?_
          refine x_aload_n ho 3 d_LAW_482 rfl ?_
          refine x_iload_n ho 0 d_LAW_483 rfl ?_
          refine x_iconst ho d_LAW_484 ?_
          refine x_iadd ho d_LAW_485 ?_
          refine x_sld ho hX hb hbA d_LAW_486 (by omega) (by omega) hN ?_
          have sr_211 := sN_r xs (i + 1)
          refine x_aload_n ho 3 d_LAW_487 rfl ?_
          refine x_iload_n ho 0 d_LAW_488 rfl ?_
          refine x_iconst ho d_LAW_489 ?_
          refine x_iadd ho d_LAW_490 ?_
          refine x_sld ho hX hb hbA d_LAW_491 (by omega) (by omega) hN ?_
          have sr_212 := sN_r xs (i + 2)
          refine x_callV (rest := [zV (r_rule (sN xs (i + 1)) (sN xs (i + 2)) V)]) ho d_LAW_492 yv_MO_rule g_939 g_940 g_938 (c_MO_rule M.2.1 D (z0 + 138) V (sN xs (i + 1)) (sN xs (i + 2)) (by omega) (by omega)) rfl rfl ⟨Nat.le_of_ble_eq_true rfl, Nat.le_of_ble_eq_true rfl⟩ ⟨Nat.le_of_ble_eq_true rfl, Nat.le_of_ble_eq_true rfl⟩ rfl rfl (Nat.le_of_ble_eq_true rfl) ((isO.o k_209).choose_spec) rfl rfl k_209 (rA_sub (by omega) (by omega)) (fun v_213 H_215 hv_213 f_214 => ?_)
          have k_216 := hW_210.kept (fun q g1 g2 => f_214.2 q (by have := hW_210.lt; omega) (rA_no (by omega)))
          obtain ⟨rfl, hW_217⟩ := hv_213
          show X _ _ _ _ 149 7992 _ _ _ [zV (r_rule (sN xs (i + 1)) (sN xs (i + 2)) V), zV (r_rule (sN xs (i + 1)) (sN xs (i + 2)) V)] _
          refine x_same (tgt := 859) ho d_LAW_495 (by decide) ?_
          refine x_iinc (L' := [(3, zV (i + 4)), (2, .ref (z0 + 138)), (1, .ref (z0 + 1)), (0, .ref b)]) ho 0 d_LAW_859 rfl rfl (by decide) rfl ?_
          refine x_goto (tgt := 18) ho d_LAW_862 (by decide) ?_
          exact ih_18 (i + 4) V H_215 k_216 hW_217 (by omega) (by omega)
        ·
          refine x_tabIn (tgt := 500) (off := 468) ho 16 d_LAW_32 sw_32 (by decide) (by decide) rfl (by decide) ?_
          refine x_aload_n ho 2 d_LAW_500 rfl ?_
          refine x_aload_n ho 3 d_LAW_501 rfl ?_
          refine x_iload_n ho 0 d_LAW_502 rfl ?_
          refine x_iconst ho d_LAW_503 ?_
          refine x_iadd ho d_LAW_504 ?_
          refine x_sld ho hX hb hbA d_LAW_505 (by omega) (by omega) hN ?_
          have sr_218 := sN_r xs (i + 1)
          refine x_aload_n ho 3 d_LAW_506 rfl ?_
          refine x_iload_n ho 0 d_LAW_507 rfl ?_
          refine x_iconst ho d_LAW_508 ?_
          refine x_iadd ho d_LAW_509 ?_
          refine x_sld ho hX hb hbA d_LAW_510 (by omega) (by omega) hN ?_
          have sr_219 := sN_r xs (i + 2)
          refine x_callV (rest := []) ho d_LAW_511 yv_MW_lengthBehind g_568 g_569 g_567 (c_MW_lengthBehind M.2.1 D (z0 + 1) V (sN xs (i + 1)) (sN xs (i + 2)) (by omega) (by omega)) rfl rfl ⟨Nat.le_of_ble_eq_true rfl, Nat.le_of_ble_eq_true rfl⟩ ⟨Nat.le_of_ble_eq_true rfl, Nat.le_of_ble_eq_true rfl⟩ rfl rfl (Nat.le_of_ble_eq_true rfl) l_x.o rfl rfl l_x (rA_sub (by omega) (by omega)) (fun v_220 H_222 hv_220 f_221 => ?_)
          have k_223 := l_m.kept (fun q g1 g2 => f_221.2 q (by have := l_m.lt; omega) (rA_no (by omega)))
          obtain ⟨rfl, hW_224⟩ := hv_220
          show X _ _ _ _ 149 7992 _ _ _ [zV (r_lengthBehind (sN xs (i + 1)) (sN xs (i + 2)) V)] _
          refine x_aload_n ho 1 d_LAW_514 rfl ?_
          refine x_aload_n ho 3 d_LAW_515 rfl ?_
          refine x_iload_n ho 0 d_LAW_516 rfl ?_
          refine x_iconst ho d_LAW_517 ?_
          refine x_iadd ho d_LAW_518 ?_
          refine x_sld ho hX hb hbA d_LAW_519 (by omega) (by omega) hN ?_
          have sr_225 := sN_r xs (i + 1)
          refine x_aload_n ho 3 d_LAW_520 rfl ?_
          refine x_iload_n ho 0 d_LAW_521 rfl ?_
          refine x_iconst ho d_LAW_522 ?_
          refine x_iadd ho d_LAW_523 ?_
          refine x_sld ho hX hb hbA d_LAW_524 (by omega) (by omega) hN ?_
          have sr_226 := sN_r xs (i + 2)
          refine x_callV (rest := [zV (r_lengthBehind (sN xs (i + 1)) (sN xs (i + 2)) V)]) ho d_LAW_525 yv_MO_lengthBehind g_952 g_953 g_951 (c_MO_lengthBehind M.2.1 D (z0 + 138) V (sN xs (i + 1)) (sN xs (i + 2)) (by omega) (by omega)) rfl rfl ⟨Nat.le_of_ble_eq_true rfl, Nat.le_of_ble_eq_true rfl⟩ ⟨Nat.le_of_ble_eq_true rfl, Nat.le_of_ble_eq_true rfl⟩ rfl rfl (Nat.le_of_ble_eq_true rfl) ((isO.o k_223).choose_spec) rfl rfl k_223 (rA_sub (by omega) (by omega)) (fun v_227 H_229 hv_227 f_228 => ?_)
          have k_230 := hW_224.kept (fun q g1 g2 => f_228.2 q (by have := hW_224.lt; omega) (rA_no (by omega)))
          obtain ⟨rfl, hW_231⟩ := hv_227
          show X _ _ _ _ 149 7992 _ _ _ [zV (r_lengthBehind (sN xs (i + 1)) (sN xs (i + 2)) V), zV (r_lengthBehind (sN xs (i + 1)) (sN xs (i + 2)) V)] _
          refine x_same (tgt := 859) ho d_LAW_528 (by decide) ?_
          refine x_iinc (L' := [(3, zV (i + 4)), (2, .ref (z0 + 138)), (1, .ref (z0 + 1)), (0, .ref b)]) ho 0 d_LAW_859 rfl rfl (by decide) rfl ?_
          refine x_goto (tgt := 18) ho d_LAW_862 (by decide) ?_
          exact ih_18 (i + 4) V H_229 k_230 hW_231 (by omega) (by omega)
        ·
          refine x_tabIn (tgt := 533) (off := 501) ho 17 d_LAW_32 sw_32 (by decide) (by decide) rfl (by decide) ?_
          refine x_aload_n ho 2 d_LAW_533 rfl ?_
          refine x_aload_n ho 3 d_LAW_534 rfl ?_
          refine x_iload_n ho 0 d_LAW_535 rfl ?_
          refine x_iconst ho d_LAW_536 ?_
          refine x_iadd ho d_LAW_537 ?_
          refine x_sld ho hX hb hbA d_LAW_538 (by omega) (by omega) hN ?_
          have sr_232 := sN_r xs (i + 1)
          refine x_aload_n ho 3 d_LAW_539 rfl ?_
          refine x_iload_n ho 0 d_LAW_540 rfl ?_
          refine x_iconst ho d_LAW_541 ?_
          refine x_iadd ho d_LAW_542 ?_
          refine x_sld ho hX hb hbA d_LAW_543 (by omega) (by omega) hN ?_
          have sr_233 := sN_r xs (i + 2)
          refine x_aload_n ho 3 d_LAW_544 rfl ?_
          refine x_iload_n ho 0 d_LAW_545 rfl ?_
          refine x_iconst ho d_LAW_546 ?_
          refine x_iadd ho d_LAW_547 ?_
          refine x_sld ho hX hb hbA d_LAW_548 (by omega) (by omega) hN ?_
          have sr_234 := sN_r xs (i + 3)
          refine x_callV (rest := []) ho d_LAW_549 yv_MW_countBehind g_588 g_589 g_587 (c_MW_countBehind M.2.1 D (z0 + 1) V (sN xs (i + 1)) (sN xs (i + 2)) (sN xs (i + 3)) (by omega) (by omega) (by omega)) rfl rfl ⟨Nat.le_of_ble_eq_true rfl, Nat.le_of_ble_eq_true rfl⟩ ⟨Nat.le_of_ble_eq_true rfl, Nat.le_of_ble_eq_true rfl⟩ rfl rfl (Nat.le_of_ble_eq_true rfl) l_x.o rfl rfl l_x (rA_sub (by omega) (by omega)) (fun v_235 H_237 hv_235 f_236 => ?_)
          have k_238 := l_m.kept (fun q g1 g2 => f_236.2 q (by have := l_m.lt; omega) (rA_no (by omega)))
          obtain ⟨rfl, hW_239⟩ := hv_235
          show X _ _ _ _ 149 7992 _ _ _ [zV (r_countBehind (sN xs (i + 1)) (sN xs (i + 2)) (sN xs (i + 3)) V)] _
          refine x_aload_n ho 1 d_LAW_552 rfl ?_
          refine x_aload_n ho 3 d_LAW_553 rfl ?_
          refine x_iload_n ho 0 d_LAW_554 rfl ?_
          refine x_iconst ho d_LAW_555 ?_
          refine x_iadd ho d_LAW_556 ?_
          refine x_sld ho hX hb hbA d_LAW_557 (by omega) (by omega) hN ?_
          have sr_240 := sN_r xs (i + 1)
          refine x_aload_n ho 3 d_LAW_558 rfl ?_
          refine x_iload_n ho 0 d_LAW_559 rfl ?_
          refine x_iconst ho d_LAW_560 ?_
          refine x_iadd ho d_LAW_561 ?_
          refine x_sld ho hX hb hbA d_LAW_562 (by omega) (by omega) hN ?_
          have sr_241 := sN_r xs (i + 2)
          refine x_aload_n ho 3 d_LAW_563 rfl ?_
          refine x_iload_n ho 0 d_LAW_564 rfl ?_
          refine x_iconst ho d_LAW_565 ?_
          refine x_iadd ho d_LAW_566 ?_
          refine x_sld ho hX hb hbA d_LAW_567 (by omega) (by omega) hN ?_
          have sr_242 := sN_r xs (i + 3)
          refine x_callV (rest := [zV (r_countBehind (sN xs (i + 1)) (sN xs (i + 2)) (sN xs (i + 3)) V)]) ho d_LAW_568 yv_MO_countBehind g_964 g_965 g_963 (c_MO_countBehind M.2.1 D (z0 + 138) V (sN xs (i + 1)) (sN xs (i + 2)) (sN xs (i + 3)) (by omega) (by omega) (by omega)) rfl rfl ⟨Nat.le_of_ble_eq_true rfl, Nat.le_of_ble_eq_true rfl⟩ ⟨Nat.le_of_ble_eq_true rfl, Nat.le_of_ble_eq_true rfl⟩ rfl rfl (Nat.le_of_ble_eq_true rfl) ((isO.o k_238).choose_spec) rfl rfl k_238 (rA_sub (by omega) (by omega)) (fun v_243 H_245 hv_243 f_244 => ?_)
          have k_246 := hW_239.kept (fun q g1 g2 => f_244.2 q (by have := hW_239.lt; omega) (rA_no (by omega)))
          obtain ⟨rfl, hW_247⟩ := hv_243
          show X _ _ _ _ 149 7992 _ _ _ [zV (r_countBehind (sN xs (i + 1)) (sN xs (i + 2)) (sN xs (i + 3)) V), zV (r_countBehind (sN xs (i + 1)) (sN xs (i + 2)) (sN xs (i + 3)) V)] _
          refine x_same (tgt := 859) ho d_LAW_571 (by decide) ?_
          refine x_iinc (L' := [(3, zV (i + 4)), (2, .ref (z0 + 138)), (1, .ref (z0 + 1)), (0, .ref b)]) ho 0 d_LAW_859 rfl rfl (by decide) rfl ?_
          refine x_goto (tgt := 18) ho d_LAW_862 (by decide) ?_
          exact ih_18 (i + 4) V H_245 k_246 hW_247 (by omega) (by omega)
        ·
          refine x_tabIn (tgt := 576) (off := 544) ho 18 d_LAW_32 sw_32 (by decide) (by decide) rfl (by decide) ?_
          refine x_aload_n ho 2 d_LAW_576 rfl ?_
          refine x_callV (rest := []) ho d_LAW_577 yv_MW_mixing g_596 g_597 g_595 (c_MW_mixing M.2.1 D (z0 + 1) V ) rfl rfl ⟨Nat.le_of_ble_eq_true rfl, Nat.le_of_ble_eq_true rfl⟩ ⟨Nat.le_of_ble_eq_true rfl, Nat.le_of_ble_eq_true rfl⟩ rfl rfl (Nat.le_of_ble_eq_true rfl) l_x.o rfl rfl l_x (rA_sub (by omega) (by omega)) (fun v_248 H_250 hv_248 f_249 => ?_)
          have k_251 := l_m.kept (fun q g1 g2 => f_249.2 q (by have := l_m.lt; omega) (rA_no (by omega)))
          obtain ⟨rfl, hW_252⟩ := hv_248
          show X _ _ _ _ 149 7992 _ _ _ [zV (r_mixing V)] _
          refine x_aload_n ho 1 d_LAW_580 rfl ?_
          refine x_callV (rest := [zV (r_mixing V)]) ho d_LAW_581 yv_MO_mixing g_968 g_969 g_967 (c_MO_mixing M.2.1 D (z0 + 138) V ) rfl rfl ⟨Nat.le_of_ble_eq_true rfl, Nat.le_of_ble_eq_true rfl⟩ ⟨Nat.le_of_ble_eq_true rfl, Nat.le_of_ble_eq_true rfl⟩ rfl rfl (Nat.le_of_ble_eq_true rfl) ((isO.o k_251).choose_spec) rfl rfl k_251 (rA_sub (by omega) (by omega)) (fun v_253 H_255 hv_253 f_254 => ?_)
          have k_256 := hW_252.kept (fun q g1 g2 => f_254.2 q (by have := hW_252.lt; omega) (rA_no (by omega)))
          obtain ⟨rfl, hW_257⟩ := hv_253
          show X _ _ _ _ 149 7992 _ _ _ [zV (r_mixing V), zV (r_mixing V)] _
          refine x_same (tgt := 859) ho d_LAW_584 (by decide) ?_
          refine x_iinc (L' := [(3, zV (i + 4)), (2, .ref (z0 + 138)), (1, .ref (z0 + 1)), (0, .ref b)]) ho 0 d_LAW_859 rfl rfl (by decide) rfl ?_
          refine x_goto (tgt := 18) ho d_LAW_862 (by decide) ?_
          exact ih_18 (i + 4) V H_255 k_256 hW_257 (by omega) (by omega)
        ·
          refine x_tabIn (tgt := 589) (off := 557) ho 19 d_LAW_32 sw_32 (by decide) (by decide) rfl (by decide) ?_
          refine x_aload_n ho 2 d_LAW_589 rfl ?_
          refine x_aload_n ho 3 d_LAW_590 rfl ?_
          refine x_iload_n ho 0 d_LAW_591 rfl ?_
          refine x_iconst ho d_LAW_592 ?_
          refine x_iadd ho d_LAW_593 ?_
          refine x_sld ho hX hb hbA d_LAW_594 (by omega) (by omega) hN ?_
          have sr_258 := sN_r xs (i + 1)
          refine x_callV (rest := []) ho d_LAW_595 yv_MW_at g_608 g_609 g_607 (c_MW_at M.2.1 D (z0 + 1) V (sN xs (i + 1)) (by omega)) rfl rfl ⟨Nat.le_of_ble_eq_true rfl, Nat.le_of_ble_eq_true rfl⟩ ⟨Nat.le_of_ble_eq_true rfl, Nat.le_of_ble_eq_true rfl⟩ rfl rfl (Nat.le_of_ble_eq_true rfl) l_x.o rfl rfl l_x (rA_sub (by omega) (by omega)) (fun v_259 H_261 hv_259 f_260 => ?_)
          have k_262 := l_m.kept (fun q g1 g2 => f_260.2 q (by have := l_m.lt; omega) (rA_no (by omega)))
          obtain ⟨rfl, hW_263⟩ := hv_259
          show X _ _ _ _ 149 7992 _ _ _ [zV (r_at (sN xs (i + 1)) V)] _
          refine x_aload_n ho 1 d_LAW_598 rfl ?_
          refine x_aload_n ho 3 d_LAW_599 rfl ?_
          refine x_iload_n ho 0 d_LAW_600 rfl ?_
          refine x_iconst ho d_LAW_601 ?_
          refine x_iadd ho d_LAW_602 ?_
          refine x_sld ho hX hb hbA d_LAW_603 (by omega) (by omega) hN ?_
          have sr_264 := sN_r xs (i + 1)
          refine x_callV (rest := [zV (r_at (sN xs (i + 1)) V)]) ho d_LAW_604 yv_MO_at g_972 g_973 g_971 (c_MO_at M.2.1 D (z0 + 138) V (sN xs (i + 1)) (by omega)) rfl rfl ⟨Nat.le_of_ble_eq_true rfl, Nat.le_of_ble_eq_true rfl⟩ ⟨Nat.le_of_ble_eq_true rfl, Nat.le_of_ble_eq_true rfl⟩ rfl rfl (Nat.le_of_ble_eq_true rfl) ((isO.o k_262).choose_spec) rfl rfl k_262 (rA_sub (by omega) (by omega)) (fun v_265 H_267 hv_265 f_266 => ?_)
          have k_268 := hW_263.kept (fun q g1 g2 => f_266.2 q (by have := hW_263.lt; omega) (rA_no (by omega)))
          obtain ⟨rfl, hW_269⟩ := hv_265
          show X _ _ _ _ 149 7992 _ _ _ [zV (r_at (sN xs (i + 1)) V), zV (r_at (sN xs (i + 1)) V)] _
          refine x_same (tgt := 859) ho d_LAW_607 (by decide) ?_
          refine x_iinc (L' := [(3, zV (i + 4)), (2, .ref (z0 + 138)), (1, .ref (z0 + 1)), (0, .ref b)]) ho 0 d_LAW_859 rfl rfl (by decide) rfl ?_
          refine x_goto (tgt := 18) ho d_LAW_862 (by decide) ?_
          exact ih_18 (i + 4) V H_267 k_268 hW_269 (by omega) (by omega)
        ·
          refine x_tabIn (tgt := 612) (off := 580) ho 20 d_LAW_32 sw_32 (by decide) (by decide) rfl (by decide) ?_
          refine x_aload_n ho 2 d_LAW_612 rfl ?_
          refine x_aload_n ho 3 d_LAW_613 rfl ?_
          refine x_iload_n ho 0 d_LAW_614 rfl ?_
          refine x_iconst ho d_LAW_615 ?_
          refine x_iadd ho d_LAW_616 ?_
          refine x_sld ho hX hb hbA d_LAW_617 (by omega) (by omega) hN ?_
          have sr_270 := sN_r xs (i + 1)
          refine x_aload_n ho 3 d_LAW_618 rfl ?_
          refine x_iload_n ho 0 d_LAW_619 rfl ?_
          refine x_iconst ho d_LAW_620 ?_
          refine x_iadd ho d_LAW_621 ?_
          refine x_sld ho hX hb hbA d_LAW_622 (by omega) (by omega) hN ?_
          have sr_271 := sN_r xs (i + 2)
          refine x_callV (rest := []) ho d_LAW_623 yv_MW_pieces g_612 g_613 g_611 (c_MW_pieces M.2.1 D (z0 + 1) V (sN xs (i + 1)) (sN xs (i + 2)) (by omega) (by omega)) rfl rfl ⟨Nat.le_of_ble_eq_true rfl, Nat.le_of_ble_eq_true rfl⟩ ⟨Nat.le_of_ble_eq_true rfl, Nat.le_of_ble_eq_true rfl⟩ rfl rfl (Nat.le_of_ble_eq_true rfl) l_x.o rfl rfl l_x (rA_sub (by omega) (by omega)) (fun v_272 H_274 hv_272 f_273 => ?_)
          have k_275 := l_m.kept (fun q g1 g2 => f_273.2 q (by have := l_m.lt; omega) (rA_no (by omega)))
          obtain ⟨rfl, hW_276⟩ := hv_272
          show X _ _ _ _ 149 7992 _ _ _ [zV (r_pieces (sN xs (i + 1)) (sN xs (i + 2)) V)] _
          refine x_aload_n ho 1 d_LAW_626 rfl ?_
          refine x_aload_n ho 3 d_LAW_627 rfl ?_
          refine x_iload_n ho 0 d_LAW_628 rfl ?_
          refine x_iconst ho d_LAW_629 ?_
          refine x_iadd ho d_LAW_630 ?_
          refine x_sld ho hX hb hbA d_LAW_631 (by omega) (by omega) hN ?_
          have sr_277 := sN_r xs (i + 1)
          refine x_aload_n ho 3 d_LAW_632 rfl ?_
          refine x_iload_n ho 0 d_LAW_633 rfl ?_
          refine x_iconst ho d_LAW_634 ?_
          refine x_iadd ho d_LAW_635 ?_
          refine x_sld ho hX hb hbA d_LAW_636 (by omega) (by omega) hN ?_
          have sr_278 := sN_r xs (i + 2)
          refine x_callV (rest := [zV (r_pieces (sN xs (i + 1)) (sN xs (i + 2)) V)]) ho d_LAW_637 yv_MO_pieces g_976 g_977 g_975 (c_MO_pieces M.2.1 D (z0 + 138) V (sN xs (i + 1)) (sN xs (i + 2)) (by omega) (by omega)) rfl rfl ⟨Nat.le_of_ble_eq_true rfl, Nat.le_of_ble_eq_true rfl⟩ ⟨Nat.le_of_ble_eq_true rfl, Nat.le_of_ble_eq_true rfl⟩ rfl rfl (Nat.le_of_ble_eq_true rfl) ((isO.o k_275).choose_spec) rfl rfl k_275 (rA_sub (by omega) (by omega)) (fun v_279 H_281 hv_279 f_280 => ?_)
          have k_282 := hW_276.kept (fun q g1 g2 => f_280.2 q (by have := hW_276.lt; omega) (rA_no (by omega)))
          obtain ⟨rfl, hW_283⟩ := hv_279
          show X _ _ _ _ 149 7992 _ _ _ [zV (r_pieces (sN xs (i + 1)) (sN xs (i + 2)) V), zV (r_pieces (sN xs (i + 1)) (sN xs (i + 2)) V)] _
          refine x_same (tgt := 859) ho d_LAW_640 (by decide) ?_
          refine x_iinc (L' := [(3, zV (i + 4)), (2, .ref (z0 + 138)), (1, .ref (z0 + 1)), (0, .ref b)]) ho 0 d_LAW_859 rfl rfl (by decide) rfl ?_
          refine x_goto (tgt := 18) ho d_LAW_862 (by decide) ?_
          exact ih_18 (i + 4) V H_281 k_282 hW_283 (by omega) (by omega)
        ·
          refine x_tabIn (tgt := 645) (off := 613) ho 21 d_LAW_32 sw_32 (by decide) (by decide) rfl (by decide) ?_
          refine x_aload_n ho 2 d_LAW_645 rfl ?_
          refine x_aload_n ho 3 d_LAW_646 rfl ?_
          refine x_iload_n ho 0 d_LAW_647 rfl ?_
          refine x_iconst ho d_LAW_648 ?_
          refine x_iadd ho d_LAW_649 ?_
          refine x_sld ho hX hb hbA d_LAW_650 (by omega) (by omega) hN ?_
          have sr_284 := sN_r xs (i + 1)
          refine x_aload_n ho 3 d_LAW_651 rfl ?_
          refine x_iload_n ho 0 d_LAW_652 rfl ?_
          refine x_iconst ho d_LAW_653 ?_
          refine x_iadd ho d_LAW_654 ?_
          refine x_sld ho hX hb hbA d_LAW_655 (by omega) (by omega) hN ?_
          have sr_285 := sN_r xs (i + 2)
          refine x_callV (rest := []) ho d_LAW_656 yv_MW_balance g_650 g_651 g_649 (c_MW_balance M.2.1 D (z0 + 1) V (sN xs (i + 1)) (sN xs (i + 2)) (by omega) (by omega)) rfl rfl ⟨Nat.le_of_ble_eq_true rfl, Nat.le_of_ble_eq_true rfl⟩ ⟨Nat.le_of_ble_eq_true rfl, Nat.le_of_ble_eq_true rfl⟩ rfl rfl (Nat.le_of_ble_eq_true rfl) l_x.o rfl rfl l_x (rA_sub (by omega) (by omega)) (fun v_286 H_288 hv_286 f_287 => ?_)
          have k_289 := l_m.kept (fun q g1 g2 => f_287.2 q (by have := l_m.lt; omega) (rA_no (by omega)))
          obtain ⟨rfl, hW_290⟩ := hv_286
          show X _ _ _ _ 149 7992 _ _ _ [zV (r_balance (sN xs (i + 1)) (sN xs (i + 2)) V)] _
          refine x_aload_n ho 1 d_LAW_659 rfl ?_
          refine x_aload_n ho 3 d_LAW_660 rfl ?_
          refine x_iload_n ho 0 d_LAW_661 rfl ?_
          refine x_iconst ho d_LAW_662 ?_
          refine x_iadd ho d_LAW_663 ?_
          refine x_sld ho hX hb hbA d_LAW_664 (by omega) (by omega) hN ?_
          have sr_291 := sN_r xs (i + 1)
          refine x_aload_n ho 3 d_LAW_665 rfl ?_
          refine x_iload_n ho 0 d_LAW_666 rfl ?_
          refine x_iconst ho d_LAW_667 ?_
          refine x_iadd ho d_LAW_668 ?_
          refine x_sld ho hX hb hbA d_LAW_669 (by omega) (by omega) hN ?_
          have sr_292 := sN_r xs (i + 2)
          refine x_callV (rest := [zV (r_balance (sN xs (i + 1)) (sN xs (i + 2)) V)]) ho d_LAW_670 yv_MO_balance g_992 g_993 g_991 (c_MO_balance M.2.1 D (z0 + 138) V (sN xs (i + 1)) (sN xs (i + 2)) (by omega) (by omega)) rfl rfl ⟨Nat.le_of_ble_eq_true rfl, Nat.le_of_ble_eq_true rfl⟩ ⟨Nat.le_of_ble_eq_true rfl, Nat.le_of_ble_eq_true rfl⟩ rfl rfl (Nat.le_of_ble_eq_true rfl) ((isO.o k_289).choose_spec) rfl rfl k_289 (rA_sub (by omega) (by omega)) (fun v_293 H_295 hv_293 f_294 => ?_)
          have k_296 := hW_290.kept (fun q g1 g2 => f_294.2 q (by have := hW_290.lt; omega) (rA_no (by omega)))
          obtain ⟨rfl, hW_297⟩ := hv_293
          show X _ _ _ _ 149 7992 _ _ _ [zV (r_balance (sN xs (i + 1)) (sN xs (i + 2)) V), zV (r_balance (sN xs (i + 1)) (sN xs (i + 2)) V)] _
          refine x_same (tgt := 859) ho d_LAW_673 (by decide) ?_
          refine x_iinc (L' := [(3, zV (i + 4)), (2, .ref (z0 + 138)), (1, .ref (z0 + 1)), (0, .ref b)]) ho 0 d_LAW_859 rfl rfl (by decide) rfl ?_
          refine x_goto (tgt := 18) ho d_LAW_862 (by decide) ?_
          exact ih_18 (i + 4) V H_295 k_296 hW_297 (by omega) (by omega)
        ·
          refine x_tabIn (tgt := 678) (off := 646) ho 22 d_LAW_32 sw_32 (by decide) (by decide) rfl (by decide) ?_
          refine x_aload_n ho 2 d_LAW_678 rfl ?_
          refine x_aload_n ho 3 d_LAW_679 rfl ?_
          refine x_iload_n ho 0 d_LAW_680 rfl ?_
          refine x_iconst ho d_LAW_681 ?_
          refine x_iadd ho d_LAW_682 ?_
          refine x_sld ho hX hb hbA d_LAW_683 (by omega) (by omega) hN ?_
          have sr_298 := sN_r xs (i + 1)
          refine x_aload_n ho 3 d_LAW_684 rfl ?_
          refine x_iload_n ho 0 d_LAW_685 rfl ?_
          refine x_iconst ho d_LAW_686 ?_
          refine x_iadd ho d_LAW_687 ?_
          refine x_sld ho hX hb hbA d_LAW_688 (by omega) (by omega) hN ?_
          have sr_299 := sN_r xs (i + 2)
          refine x_callV (rest := []) ho d_LAW_689 yv_MW_share g_658 g_659 g_657 (c_MW_share M.2.1 D (z0 + 1) V (sN xs (i + 1)) (sN xs (i + 2)) (by omega) (by omega)) rfl rfl ⟨Nat.le_of_ble_eq_true rfl, Nat.le_of_ble_eq_true rfl⟩ ⟨Nat.le_of_ble_eq_true rfl, Nat.le_of_ble_eq_true rfl⟩ rfl rfl (Nat.le_of_ble_eq_true rfl) l_x.o rfl rfl l_x (rA_sub (by omega) (by omega)) (fun v_300 H_302 hv_300 f_301 => ?_)
          have k_303 := l_m.kept (fun q g1 g2 => f_301.2 q (by have := l_m.lt; omega) (rA_no (by omega)))
          obtain ⟨rfl, hW_304⟩ := hv_300
          show X _ _ _ _ 149 7992 _ _ _ [zV (r_share (sN xs (i + 1)) (sN xs (i + 2)) V)] _
          refine x_aload_n ho 1 d_LAW_692 rfl ?_
          refine x_aload_n ho 3 d_LAW_693 rfl ?_
          refine x_iload_n ho 0 d_LAW_694 rfl ?_
          refine x_iconst ho d_LAW_695 ?_
          refine x_iadd ho d_LAW_696 ?_
          refine x_sld ho hX hb hbA d_LAW_697 (by omega) (by omega) hN ?_
          have sr_305 := sN_r xs (i + 1)
          refine x_aload_n ho 3 d_LAW_698 rfl ?_
          refine x_iload_n ho 0 d_LAW_699 rfl ?_
          refine x_iconst ho d_LAW_700 ?_
          refine x_iadd ho d_LAW_701 ?_
          refine x_sld ho hX hb hbA d_LAW_702 (by omega) (by omega) hN ?_
          have sr_306 := sN_r xs (i + 2)
          refine x_callV (rest := [zV (r_share (sN xs (i + 1)) (sN xs (i + 2)) V)]) ho d_LAW_703 yv_MO_share g_999 g_1000 g_998 (c_MO_share M.2.1 D (z0 + 138) V (sN xs (i + 1)) (sN xs (i + 2)) (by omega) (by omega)) rfl rfl ⟨Nat.le_of_ble_eq_true rfl, Nat.le_of_ble_eq_true rfl⟩ ⟨Nat.le_of_ble_eq_true rfl, Nat.le_of_ble_eq_true rfl⟩ rfl rfl (Nat.le_of_ble_eq_true rfl) ((isO.o k_303).choose_spec) rfl rfl k_303 (rA_sub (by omega) (by omega)) (fun v_307 H_309 hv_307 f_308 => ?_)
          have k_310 := hW_304.kept (fun q g1 g2 => f_308.2 q (by have := hW_304.lt; omega) (rA_no (by omega)))
          obtain ⟨rfl, hW_311⟩ := hv_307
          show X _ _ _ _ 149 7992 _ _ _ [zV (r_share (sN xs (i + 1)) (sN xs (i + 2)) V), zV (r_share (sN xs (i + 1)) (sN xs (i + 2)) V)] _
          refine x_same (tgt := 859) ho d_LAW_706 (by decide) ?_
          refine x_iinc (L' := [(3, zV (i + 4)), (2, .ref (z0 + 138)), (1, .ref (z0 + 1)), (0, .ref b)]) ho 0 d_LAW_859 rfl rfl (by decide) rfl ?_
          refine x_goto (tgt := 18) ho d_LAW_862 (by decide) ?_
          exact ih_18 (i + 4) V H_309 k_310 hW_311 (by omega) (by omega)
        ·
          refine x_tabIn (tgt := 711) (off := 679) ho 23 d_LAW_32 sw_32 (by decide) (by decide) rfl (by decide) ?_
          refine x_aload_n ho 2 d_LAW_711 rfl ?_
          refine x_aload_n ho 3 d_LAW_712 rfl ?_
          refine x_iload_n ho 0 d_LAW_713 rfl ?_
          refine x_iconst ho d_LAW_714 ?_
          refine x_iadd ho d_LAW_715 ?_
          refine x_sld ho hX hb hbA d_LAW_716 (by omega) (by omega) hN ?_
          have sr_312 := sN_r xs (i + 1)
          refine x_callV (rest := []) ho d_LAW_717 yv_MW_run g_666 g_667 g_665 (c_MW_run M.2.1 D (z0 + 1) V (sN xs (i + 1)) (by omega)) rfl rfl ⟨Nat.le_of_ble_eq_true rfl, Nat.le_of_ble_eq_true rfl⟩ ⟨Nat.le_of_ble_eq_true rfl, Nat.le_of_ble_eq_true rfl⟩ rfl rfl (Nat.le_of_ble_eq_true rfl) l_x.o rfl rfl l_x (rA_sub (by omega) (by omega)) (fun v_313 H_315 hv_313 f_314 => ?_)
          have k_316 := l_m.kept (fun q g1 g2 => f_314.2 q (by have := l_m.lt; omega) (rA_no (by omega)))
          obtain ⟨rfl, hW_317⟩ := hv_313
          show X _ _ _ _ 149 7992 _ _ _ [zV (r_run (sN xs (i + 1)) V)] _
          refine x_aload_n ho 1 d_LAW_720 rfl ?_
          refine x_aload_n ho 3 d_LAW_721 rfl ?_
          refine x_iload_n ho 0 d_LAW_722 rfl ?_
          refine x_iconst ho d_LAW_723 ?_
          refine x_iadd ho d_LAW_724 ?_
          refine x_sld ho hX hb hbA d_LAW_725 (by omega) (by omega) hN ?_
          have sr_318 := sN_r xs (i + 1)
          refine x_callV (rest := [zV (r_run (sN xs (i + 1)) V)]) ho d_LAW_726 yv_MO_run g_1006 g_1007 g_1005 (c_MO_run M.2.1 D (z0 + 138) V (sN xs (i + 1)) (by omega)) rfl rfl ⟨Nat.le_of_ble_eq_true rfl, Nat.le_of_ble_eq_true rfl⟩ ⟨Nat.le_of_ble_eq_true rfl, Nat.le_of_ble_eq_true rfl⟩ rfl rfl (Nat.le_of_ble_eq_true rfl) ((isO.o k_316).choose_spec) rfl rfl k_316 (rA_sub (by omega) (by omega)) (fun v_319 H_321 hv_319 f_320 => ?_)
          have k_322 := hW_317.kept (fun q g1 g2 => f_320.2 q (by have := hW_317.lt; omega) (rA_no (by omega)))
          obtain ⟨rfl, hW_323⟩ := hv_319
          show X _ _ _ _ 149 7992 _ _ _ [zV (r_run (sN xs (i + 1)) V), zV (r_run (sN xs (i + 1)) V)] _
          refine x_same (tgt := 859) ho d_LAW_729 (by decide) ?_
          refine x_iinc (L' := [(3, zV (i + 4)), (2, .ref (z0 + 138)), (1, .ref (z0 + 1)), (0, .ref b)]) ho 0 d_LAW_859 rfl rfl (by decide) rfl ?_
          refine x_goto (tgt := 18) ho d_LAW_862 (by decide) ?_
          exact ih_18 (i + 4) V H_321 k_322 hW_323 (by omega) (by omega)
        ·
          refine x_tabIn (tgt := 734) (off := 702) ho 24 d_LAW_32 sw_32 (by decide) (by decide) rfl (by decide) ?_
          refine x_aload_n ho 2 d_LAW_734 rfl ?_
          refine x_aload_n ho 3 d_LAW_735 rfl ?_
          refine x_iload_n ho 0 d_LAW_736 rfl ?_
          refine x_iconst ho d_LAW_737 ?_
          refine x_iadd ho d_LAW_738 ?_
          refine x_sld ho hX hb hbA d_LAW_739 (by omega) (by omega) hN ?_
          have sr_324 := sN_r xs (i + 1)
          refine x_callV (rest := []) ho d_LAW_740 yv_MW_mirrored g_691 g_692 g_690 (c_MW_mirrored M.2.1 D (z0 + 1) V (sN xs (i + 1)) (by omega)) rfl rfl ⟨Nat.le_of_ble_eq_true rfl, Nat.le_of_ble_eq_true rfl⟩ ⟨Nat.le_of_ble_eq_true rfl, Nat.le_of_ble_eq_true rfl⟩ rfl rfl (Nat.le_of_ble_eq_true rfl) l_x.o rfl rfl l_x (rA_sub (by omega) (by omega)) (fun v_325 H_327 hv_325 f_326 => ?_)
          have k_328 := l_m.kept (fun q g1 g2 => f_326.2 q (by have := l_m.lt; omega) (rA_no (by omega)))
          obtain ⟨rfl, hW_329⟩ := hv_325
          show X _ _ _ _ 149 7992 _ _ _ [zV (r_mirrored (sN xs (i + 1)) V)] _
          refine x_aload_n ho 1 d_LAW_743 rfl ?_
          refine x_aload_n ho 3 d_LAW_744 rfl ?_
          refine x_iload_n ho 0 d_LAW_745 rfl ?_
          refine x_iconst ho d_LAW_746 ?_
          refine x_iadd ho d_LAW_747 ?_
          refine x_sld ho hX hb hbA d_LAW_748 (by omega) (by omega) hN ?_
          have sr_330 := sN_r xs (i + 1)
          refine x_callV (rest := [zV (r_mirrored (sN xs (i + 1)) V)]) ho d_LAW_749 yv_MO_mirrored g_1010 g_1011 g_1009 (c_MO_mirrored M.2.1 D (z0 + 138) V (sN xs (i + 1)) (by omega)) rfl rfl ⟨Nat.le_of_ble_eq_true rfl, Nat.le_of_ble_eq_true rfl⟩ ⟨Nat.le_of_ble_eq_true rfl, Nat.le_of_ble_eq_true rfl⟩ rfl rfl (Nat.le_of_ble_eq_true rfl) ((isO.o k_328).choose_spec) rfl rfl k_328 (rA_sub (by omega) (by omega)) (fun v_331 H_333 hv_331 f_332 => ?_)
          have k_334 := hW_329.kept (fun q g1 g2 => f_332.2 q (by have := hW_329.lt; omega) (rA_no (by omega)))
          obtain ⟨rfl, hW_335⟩ := hv_331
          show X _ _ _ _ 149 7992 _ _ _ [zV (r_mirrored (sN xs (i + 1)) V), zV (r_mirrored (sN xs (i + 1)) V)] _
          refine x_same (tgt := 859) ho d_LAW_752 (by decide) ?_
          refine x_iinc (L' := [(3, zV (i + 4)), (2, .ref (z0 + 138)), (1, .ref (z0 + 1)), (0, .ref b)]) ho 0 d_LAW_859 rfl rfl (by decide) rfl ?_
          refine x_goto (tgt := 18) ho d_LAW_862 (by decide) ?_
          exact ih_18 (i + 4) V H_333 k_334 hW_335 (by omega) (by omega)
        ·
          refine x_tabIn (tgt := 757) (off := 725) ho 25 d_LAW_32 sw_32 (by decide) (by decide) rfl (by decide) ?_
          refine x_aload_n ho 2 d_LAW_757 rfl ?_
          refine x_aload_n ho 3 d_LAW_758 rfl ?_
          refine x_iload_n ho 0 d_LAW_759 rfl ?_
          refine x_iconst ho d_LAW_760 ?_
          refine x_iadd ho d_LAW_761 ?_
          refine x_sld ho hX hb hbA d_LAW_762 (by omega) (by omega) hN ?_
          have sr_336 := sN_r xs (i + 1)
          refine x_callV (rest := []) ho d_LAW_763 yv_MW_comes g_712 g_713 g_711 (c_MW_comes M.2.1 D (z0 + 1) V (sN xs (i + 1)) (by omega)) rfl rfl ⟨Nat.le_of_ble_eq_true rfl, Nat.le_of_ble_eq_true rfl⟩ ⟨Nat.le_of_ble_eq_true rfl, Nat.le_of_ble_eq_true rfl⟩ rfl rfl (Nat.le_of_ble_eq_true rfl) l_x.o rfl rfl l_x (rA_sub (by omega) (by omega)) (fun v_337 H_339 hv_337 f_338 => ?_)
          have k_340 := l_m.kept (fun q g1 g2 => f_338.2 q (by have := l_m.lt; omega) (rA_no (by omega)))
          obtain ⟨rfl, hW_341⟩ := hv_337
          show X _ _ _ _ 149 7992 _ _ _ [zV (r_comes (sN xs (i + 1)) V)] _
          refine x_aload_n ho 1 d_LAW_766 rfl ?_
          refine x_aload_n ho 3 d_LAW_767 rfl ?_
          refine x_iload_n ho 0 d_LAW_768 rfl ?_
          refine x_iconst ho d_LAW_769 ?_
          refine x_iadd ho d_LAW_770 ?_
          refine x_sld ho hX hb hbA d_LAW_771 (by omega) (by omega) hN ?_
          have sr_342 := sN_r xs (i + 1)
          refine x_callV (rest := [zV (r_comes (sN xs (i + 1)) V)]) ho d_LAW_772 yv_MO_comes g_1014 g_1015 g_1013 (c_MO_comes M.2.1 D (z0 + 138) V (sN xs (i + 1)) (by omega)) rfl rfl ⟨Nat.le_of_ble_eq_true rfl, Nat.le_of_ble_eq_true rfl⟩ ⟨Nat.le_of_ble_eq_true rfl, Nat.le_of_ble_eq_true rfl⟩ rfl rfl (Nat.le_of_ble_eq_true rfl) ((isO.o k_340).choose_spec) rfl rfl k_340 (rA_sub (by omega) (by omega)) (fun v_343 H_345 hv_343 f_344 => ?_)
          have k_346 := hW_341.kept (fun q g1 g2 => f_344.2 q (by have := hW_341.lt; omega) (rA_no (by omega)))
          obtain ⟨rfl, hW_347⟩ := hv_343
          show X _ _ _ _ 149 7992 _ _ _ [zV (r_comes (sN xs (i + 1)) V), zV (r_comes (sN xs (i + 1)) V)] _
          refine x_same (tgt := 859) ho d_LAW_775 (by decide) ?_
          refine x_iinc (L' := [(3, zV (i + 4)), (2, .ref (z0 + 138)), (1, .ref (z0 + 1)), (0, .ref b)]) ho 0 d_LAW_859 rfl rfl (by decide) rfl ?_
          refine x_goto (tgt := 18) ho d_LAW_862 (by decide) ?_
          exact ih_18 (i + 4) V H_345 k_346 hW_347 (by omega) (by omega)
        ·
          refine x_tabIn (tgt := 780) (off := 748) ho 26 d_LAW_32 sw_32 (by decide) (by decide) rfl (by decide) ?_
          refine x_aload_n ho 2 d_LAW_780 rfl ?_
          refine x_aload_n ho 3 d_LAW_781 rfl ?_
          refine x_iload_n ho 0 d_LAW_782 rfl ?_
          refine x_iconst ho d_LAW_783 ?_
          refine x_iadd ho d_LAW_784 ?_
          refine x_sld ho hX hb hbA d_LAW_785 (by omega) (by omega) hN ?_
          have sr_348 := sN_r xs (i + 1)
          refine x_aload_n ho 3 d_LAW_786 rfl ?_
          refine x_iload_n ho 0 d_LAW_787 rfl ?_
          refine x_iconst ho d_LAW_788 ?_
          refine x_iadd ho d_LAW_789 ?_
          refine x_sld ho hX hb hbA d_LAW_790 (by omega) (by omega) hN ?_
          have sr_349 := sN_r xs (i + 2)
          refine x_callV (rest := []) ho d_LAW_791 yv_MW_returns g_722 g_723 g_721 (c_MW_returns M.2.1 D (z0 + 1) V (sN xs (i + 1)) (sN xs (i + 2)) (by omega) (by omega)) rfl rfl ⟨Nat.le_of_ble_eq_true rfl, Nat.le_of_ble_eq_true rfl⟩ ⟨Nat.le_of_ble_eq_true rfl, Nat.le_of_ble_eq_true rfl⟩ rfl rfl (Nat.le_of_ble_eq_true rfl) l_x.o rfl rfl l_x (rA_sub (by omega) (by omega)) (fun v_350 H_352 hv_350 f_351 => ?_)
          have k_353 := l_m.kept (fun q g1 g2 => f_351.2 q (by have := l_m.lt; omega) (rA_no (by omega)))
          obtain ⟨rfl, hW_354⟩ := hv_350
          show X _ _ _ _ 149 7992 _ _ _ [zV (r_returns (sN xs (i + 1)) (sN xs (i + 2)) V)] _
          refine x_aload_n ho 1 d_LAW_794 rfl ?_
          refine x_aload_n ho 3 d_LAW_795 rfl ?_
          refine x_iload_n ho 0 d_LAW_796 rfl ?_
          refine x_iconst ho d_LAW_797 ?_
          refine x_iadd ho d_LAW_798 ?_
          refine x_sld ho hX hb hbA d_LAW_799 (by omega) (by omega) hN ?_
          have sr_355 := sN_r xs (i + 1)
          refine x_aload_n ho 3 d_LAW_800 rfl ?_
          refine x_iload_n ho 0 d_LAW_801 rfl ?_
          refine x_iconst ho d_LAW_802 ?_
          refine x_iadd ho d_LAW_803 ?_
          refine x_sld ho hX hb hbA d_LAW_804 (by omega) (by omega) hN ?_
          have sr_356 := sN_r xs (i + 2)
          refine x_callV (rest := [zV (r_returns (sN xs (i + 1)) (sN xs (i + 2)) V)]) ho d_LAW_805 yv_MO_returns g_1018 g_1019 g_1017 (c_MO_returns M.2.1 D (z0 + 138) V (sN xs (i + 1)) (sN xs (i + 2)) (by omega) (by omega)) rfl rfl ⟨Nat.le_of_ble_eq_true rfl, Nat.le_of_ble_eq_true rfl⟩ ⟨Nat.le_of_ble_eq_true rfl, Nat.le_of_ble_eq_true rfl⟩ rfl rfl (Nat.le_of_ble_eq_true rfl) ((isO.o k_353).choose_spec) rfl rfl k_353 (rA_sub (by omega) (by omega)) (fun v_357 H_359 hv_357 f_358 => ?_)
          have k_360 := hW_354.kept (fun q g1 g2 => f_358.2 q (by have := hW_354.lt; omega) (rA_no (by omega)))
          obtain ⟨rfl, hW_361⟩ := hv_357
          show X _ _ _ _ 149 7992 _ _ _ [zV (r_returns (sN xs (i + 1)) (sN xs (i + 2)) V), zV (r_returns (sN xs (i + 1)) (sN xs (i + 2)) V)] _
          refine x_same (tgt := 859) ho d_LAW_808 (by decide) ?_
          refine x_iinc (L' := [(3, zV (i + 4)), (2, .ref (z0 + 138)), (1, .ref (z0 + 1)), (0, .ref b)]) ho 0 d_LAW_859 rfl rfl (by decide) rfl ?_
          refine x_goto (tgt := 18) ho d_LAW_862 (by decide) ?_
          exact ih_18 (i + 4) V H_359 k_360 hW_361 (by omega) (by omega)
        ·
          refine x_tabIn (tgt := 813) (off := 781) ho 27 d_LAW_32 sw_32 (by decide) (by decide) rfl (by decide) ?_
          refine x_aload_n ho 2 d_LAW_813 rfl ?_
          refine x_aload_n ho 3 d_LAW_814 rfl ?_
          refine x_iload_n ho 0 d_LAW_815 rfl ?_
          refine x_iconst ho d_LAW_816 ?_
          refine x_iadd ho d_LAW_817 ?_
          refine x_sld ho hX hb hbA d_LAW_818 (by omega) (by omega) hN ?_
          have sr_362 := sN_r xs (i + 1)
          refine x_callV (rest := []) ho d_LAW_819 yv_MW_row g_741 g_742 g_740 (c_MW_row M.2.1 D (z0 + 1) V (sN xs (i + 1)) (by omega)) rfl rfl ⟨Nat.le_of_ble_eq_true rfl, Nat.le_of_ble_eq_true rfl⟩ ⟨Nat.le_of_ble_eq_true rfl, Nat.le_of_ble_eq_true rfl⟩ rfl rfl (Nat.le_of_ble_eq_true rfl) l_x.o rfl rfl l_x (rA_sub (by omega) (by omega)) (fun v_363 H_365 hv_363 f_364 => ?_)
          have k_366 := l_m.kept (fun q g1 g2 => f_364.2 q (by have := l_m.lt; omega) (rA_no (by omega)))
          obtain ⟨rfl, hW_367⟩ := hv_363
          show X _ _ _ _ 149 7992 _ _ _ [zV (r_row (sN xs (i + 1)) V)] _
          refine x_aload_n ho 1 d_LAW_822 rfl ?_
          refine x_aload_n ho 3 d_LAW_823 rfl ?_
          refine x_iload_n ho 0 d_LAW_824 rfl ?_
          refine x_iconst ho d_LAW_825 ?_
          refine x_iadd ho d_LAW_826 ?_
          refine x_sld ho hX hb hbA d_LAW_827 (by omega) (by omega) hN ?_
          have sr_368 := sN_r xs (i + 1)
          refine x_callV (rest := [zV (r_row (sN xs (i + 1)) V)]) ho d_LAW_828 yv_MO_row g_1022 g_1023 g_1021 (c_MO_row M.2.1 D (z0 + 138) V (sN xs (i + 1)) (by omega)) rfl rfl ⟨Nat.le_of_ble_eq_true rfl, Nat.le_of_ble_eq_true rfl⟩ ⟨Nat.le_of_ble_eq_true rfl, Nat.le_of_ble_eq_true rfl⟩ rfl rfl (Nat.le_of_ble_eq_true rfl) ((isO.o k_366).choose_spec) rfl rfl k_366 (rA_sub (by omega) (by omega)) (fun v_369 H_371 hv_369 f_370 => ?_)
          have k_372 := hW_367.kept (fun q g1 g2 => f_370.2 q (by have := hW_367.lt; omega) (rA_no (by omega)))
          obtain ⟨rfl, hW_373⟩ := hv_369
          show X _ _ _ _ 149 7992 _ _ _ [zV (r_row (sN xs (i + 1)) V), zV (r_row (sN xs (i + 1)) V)] _
          refine x_same (tgt := 859) ho d_LAW_831 (by decide) ?_
          refine x_iinc (L' := [(3, zV (i + 4)), (2, .ref (z0 + 138)), (1, .ref (z0 + 1)), (0, .ref b)]) ho 0 d_LAW_859 rfl rfl (by decide) rfl ?_
          refine x_goto (tgt := 18) ho d_LAW_862 (by decide) ?_
          exact ih_18 (i + 4) V H_371 k_372 hW_373 (by omega) (by omega)
        ·
          refine x_tabIn (tgt := 836) (off := 804) ho 28 d_LAW_32 sw_32 (by decide) (by decide) rfl (by decide) ?_
          refine x_aload_n ho 2 d_LAW_836 rfl ?_
          refine x_aload_n ho 3 d_LAW_837 rfl ?_
          refine x_iload_n ho 0 d_LAW_838 rfl ?_
          refine x_iconst ho d_LAW_839 ?_
          refine x_iadd ho d_LAW_840 ?_
          refine x_sld ho hX hb hbA d_LAW_841 (by omega) (by omega) hN ?_
          have sr_374 := sN_r xs (i + 1)
          refine x_callV (rest := []) ho d_LAW_842 yv_MW_count g_745 g_746 g_744 (c_MW_count M.2.1 D (z0 + 1) V (sN xs (i + 1)) (by omega)) rfl rfl ⟨Nat.le_of_ble_eq_true rfl, Nat.le_of_ble_eq_true rfl⟩ ⟨Nat.le_of_ble_eq_true rfl, Nat.le_of_ble_eq_true rfl⟩ rfl rfl (Nat.le_of_ble_eq_true rfl) l_x.o rfl rfl l_x (rA_sub (by omega) (by omega)) (fun v_375 H_377 hv_375 f_376 => ?_)
          have k_378 := l_m.kept (fun q g1 g2 => f_376.2 q (by have := l_m.lt; omega) (rA_no (by omega)))
          obtain ⟨rfl, hW_379⟩ := hv_375
          show X _ _ _ _ 149 7992 _ _ _ [zV (r_count (sN xs (i + 1)) V)] _
          refine x_aload_n ho 1 d_LAW_845 rfl ?_
          refine x_aload_n ho 3 d_LAW_846 rfl ?_
          refine x_iload_n ho 0 d_LAW_847 rfl ?_
          refine x_iconst ho d_LAW_848 ?_
          refine x_iadd ho d_LAW_849 ?_
          refine x_sld ho hX hb hbA d_LAW_850 (by omega) (by omega) hN ?_
          have sr_380 := sN_r xs (i + 1)
          refine x_callV (rest := [zV (r_count (sN xs (i + 1)) V)]) ho d_LAW_851 yv_MO_count g_1026 g_1027 g_1025 (c_MO_count M.2.1 D (z0 + 138) V (sN xs (i + 1)) (by omega)) rfl rfl ⟨Nat.le_of_ble_eq_true rfl, Nat.le_of_ble_eq_true rfl⟩ ⟨Nat.le_of_ble_eq_true rfl, Nat.le_of_ble_eq_true rfl⟩ rfl rfl (Nat.le_of_ble_eq_true rfl) ((isO.o k_378).choose_spec) rfl rfl k_378 (rA_sub (by omega) (by omega)) (fun v_381 H_383 hv_381 f_382 => ?_)
          have k_384 := hW_379.kept (fun q g1 g2 => f_382.2 q (by have := hW_379.lt; omega) (rA_no (by omega)))
          obtain ⟨rfl, hW_385⟩ := hv_381
          show X _ _ _ _ 149 7992 _ _ _ [zV (r_count (sN xs (i + 1)) V), zV (r_count (sN xs (i + 1)) V)] _
          refine x_same (tgt := 859) ho d_LAW_854 (by decide) ?_
          refine x_iinc (L' := [(3, zV (i + 4)), (2, .ref (z0 + 138)), (1, .ref (z0 + 1)), (0, .ref b)]) ho 0 d_LAW_859 rfl rfl (by decide) rfl ?_
          refine x_goto (tgt := 18) ho d_LAW_862 (by decide) ?_
          exact ih_18 (i + 4) V H_383 k_384 hW_385 (by omega) (by omega)
  exact loop_18 _ 0 wv0 H_19 k_20 hW_22 (by omega) (Nat.lt_succ_self _)
