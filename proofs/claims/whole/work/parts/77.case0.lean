/-! THE LAW: cases 0 to 5 (printed by wip/whole/law.py) -/
theorem dL_law_220 : decode code 220 = .ok (.aload_n 1, 1) := by decide +kernel
theorem dL_law_221 : decode code 221 = .ok (.aload_n 0, 1) := by decide +kernel
theorem dL_law_222 : decode code 222 = .ok (.iload_n 3, 1) := by decide +kernel
theorem dL_law_223 : decode code 223 = .ok (.iconst 1, 1) := by decide +kernel
theorem dL_law_224 : decode code 224 = .ok (.iadd, 1) := by decide +kernel
theorem dL_law_225 : decode code 225 = .ok (.iaload, 1) := by decide +kernel
theorem dL_law_226 : decode code 226 = .ok (.aload_n 0, 1) := by decide +kernel
theorem dL_law_227 : decode code 227 = .ok (.iload_n 3, 1) := by decide +kernel
theorem dL_law_228 : decode code 228 = .ok (.iconst 2, 1) := by decide +kernel
theorem dL_law_229 : decode code 229 = .ok (.iadd, 1) := by decide +kernel
theorem dL_law_230 : decode code 230 = .ok (.iaload, 1) := by decide +kernel
theorem dL_law_231 : decode code 231 = .ok (.aload_n 0, 1) := by decide +kernel
theorem dL_law_232 : decode code 232 = .ok (.iload_n 3, 1) := by decide +kernel
theorem dL_law_233 : decode code 233 = .ok (.iconst 3, 1) := by decide +kernel
theorem dL_law_234 : decode code 234 = .ok (.iadd, 1) := by decide +kernel
theorem dL_law_235 : decode code 235 = .ok (.iaload, 1) := by decide +kernel
theorem dL_law_236 : decode code 236 = .ok (.invokevirtual 13, 3) := by decide +kernel
theorem dL_law_239 : decode code 239 = .ok (.aload_n 2, 1) := by decide +kernel
theorem dL_law_240 : decode code 240 = .ok (.aload_n 0, 1) := by decide +kernel
theorem dL_law_241 : decode code 241 = .ok (.iload_n 3, 1) := by decide +kernel
theorem dL_law_242 : decode code 242 = .ok (.iconst 1, 1) := by decide +kernel
theorem dL_law_243 : decode code 243 = .ok (.iadd, 1) := by decide +kernel
theorem dL_law_244 : decode code 244 = .ok (.iaload, 1) := by decide +kernel
theorem dL_law_245 : decode code 245 = .ok (.aload_n 0, 1) := by decide +kernel
theorem dL_law_246 : decode code 246 = .ok (.iload_n 3, 1) := by decide +kernel
theorem dL_law_247 : decode code 247 = .ok (.iconst 2, 1) := by decide +kernel
theorem dL_law_248 : decode code 248 = .ok (.iadd, 1) := by decide +kernel
theorem dL_law_249 : decode code 249 = .ok (.iaload, 1) := by decide +kernel
theorem dL_law_250 : decode code 250 = .ok (.aload_n 0, 1) := by decide +kernel
theorem dL_law_251 : decode code 251 = .ok (.iload_n 3, 1) := by decide +kernel
theorem dL_law_252 : decode code 252 = .ok (.iconst 3, 1) := by decide +kernel
theorem dL_law_253 : decode code 253 = .ok (.iadd, 1) := by decide +kernel
theorem dL_law_254 : decode code 254 = .ok (.iaload, 1) := by decide +kernel
theorem dL_law_255 : decode code 255 = .ok (.invokevirtual 17, 3) := by decide +kernel
theorem dL_law_258 : decode code 258 = .ok (.if_icmp .eq 1120, 3) := by decide +kernel
theorem dL_law_263 : decode code 263 = .ok (.aload_n 1, 1) := by decide +kernel
theorem dL_law_264 : decode code 264 = .ok (.aload_n 0, 1) := by decide +kernel
theorem dL_law_265 : decode code 265 = .ok (.iload_n 3, 1) := by decide +kernel
theorem dL_law_266 : decode code 266 = .ok (.iconst 1, 1) := by decide +kernel
theorem dL_law_267 : decode code 267 = .ok (.iadd, 1) := by decide +kernel
theorem dL_law_268 : decode code 268 = .ok (.iaload, 1) := by decide +kernel
theorem dL_law_269 : decode code 269 = .ok (.aload_n 0, 1) := by decide +kernel
theorem dL_law_270 : decode code 270 = .ok (.iload_n 3, 1) := by decide +kernel
theorem dL_law_271 : decode code 271 = .ok (.iconst 2, 1) := by decide +kernel
theorem dL_law_272 : decode code 272 = .ok (.iadd, 1) := by decide +kernel
theorem dL_law_273 : decode code 273 = .ok (.iaload, 1) := by decide +kernel
theorem dL_law_274 : decode code 274 = .ok (.invokevirtual 18, 3) := by decide +kernel
theorem dL_law_277 : decode code 277 = .ok (.aload_n 2, 1) := by decide +kernel
theorem dL_law_278 : decode code 278 = .ok (.aload_n 0, 1) := by decide +kernel
theorem dL_law_279 : decode code 279 = .ok (.iload_n 3, 1) := by decide +kernel
theorem dL_law_280 : decode code 280 = .ok (.iconst 1, 1) := by decide +kernel
theorem dL_law_281 : decode code 281 = .ok (.iadd, 1) := by decide +kernel
theorem dL_law_282 : decode code 282 = .ok (.iaload, 1) := by decide +kernel
theorem dL_law_283 : decode code 283 = .ok (.aload_n 0, 1) := by decide +kernel
theorem dL_law_284 : decode code 284 = .ok (.iload_n 3, 1) := by decide +kernel
theorem dL_law_285 : decode code 285 = .ok (.iconst 2, 1) := by decide +kernel
theorem dL_law_286 : decode code 286 = .ok (.iadd, 1) := by decide +kernel
theorem dL_law_287 : decode code 287 = .ok (.iaload, 1) := by decide +kernel
theorem dL_law_288 : decode code 288 = .ok (.invokevirtual 22, 3) := by decide +kernel
theorem dL_law_291 : decode code 291 = .ok (.if_icmp .eq 1087, 3) := by decide +kernel
theorem dL_law_296 : decode code 296 = .ok (.aload_n 1, 1) := by decide +kernel
theorem dL_law_297 : decode code 297 = .ok (.aload_n 0, 1) := by decide +kernel
theorem dL_law_298 : decode code 298 = .ok (.iload_n 3, 1) := by decide +kernel
theorem dL_law_299 : decode code 299 = .ok (.iconst 1, 1) := by decide +kernel
theorem dL_law_300 : decode code 300 = .ok (.iadd, 1) := by decide +kernel
theorem dL_law_301 : decode code 301 = .ok (.iaload, 1) := by decide +kernel
theorem dL_law_302 : decode code 302 = .ok (.aload_n 0, 1) := by decide +kernel
theorem dL_law_303 : decode code 303 = .ok (.iload_n 3, 1) := by decide +kernel
theorem dL_law_304 : decode code 304 = .ok (.iconst 2, 1) := by decide +kernel
theorem dL_law_305 : decode code 305 = .ok (.iadd, 1) := by decide +kernel
theorem dL_law_306 : decode code 306 = .ok (.iaload, 1) := by decide +kernel
theorem dL_law_307 : decode code 307 = .ok (.aload_n 0, 1) := by decide +kernel
theorem dL_law_308 : decode code 308 = .ok (.iload_n 3, 1) := by decide +kernel
theorem dL_law_309 : decode code 309 = .ok (.iconst 3, 1) := by decide +kernel
theorem dL_law_310 : decode code 310 = .ok (.iadd, 1) := by decide +kernel
theorem dL_law_311 : decode code 311 = .ok (.iaload, 1) := by decide +kernel
theorem dL_law_312 : decode code 312 = .ok (.invokevirtual 23, 3) := by decide +kernel
theorem dL_law_315 : decode code 315 = .ok (.aload_n 2, 1) := by decide +kernel
theorem dL_law_316 : decode code 316 = .ok (.aload_n 0, 1) := by decide +kernel
theorem dL_law_317 : decode code 317 = .ok (.iload_n 3, 1) := by decide +kernel
theorem dL_law_318 : decode code 318 = .ok (.iconst 1, 1) := by decide +kernel
theorem dL_law_319 : decode code 319 = .ok (.iadd, 1) := by decide +kernel
theorem dL_law_320 : decode code 320 = .ok (.iaload, 1) := by decide +kernel
theorem dL_law_321 : decode code 321 = .ok (.aload_n 0, 1) := by decide +kernel
theorem dL_law_322 : decode code 322 = .ok (.iload_n 3, 1) := by decide +kernel
theorem dL_law_323 : decode code 323 = .ok (.iconst 2, 1) := by decide +kernel
theorem dL_law_324 : decode code 324 = .ok (.iadd, 1) := by decide +kernel
theorem dL_law_325 : decode code 325 = .ok (.iaload, 1) := by decide +kernel
theorem dL_law_326 : decode code 326 = .ok (.aload_n 0, 1) := by decide +kernel
theorem dL_law_327 : decode code 327 = .ok (.iload_n 3, 1) := by decide +kernel
theorem dL_law_328 : decode code 328 = .ok (.iconst 3, 1) := by decide +kernel
theorem dL_law_329 : decode code 329 = .ok (.iadd, 1) := by decide +kernel
theorem dL_law_330 : decode code 330 = .ok (.iaload, 1) := by decide +kernel
theorem dL_law_331 : decode code 331 = .ok (.invokevirtual 26, 3) := by decide +kernel
theorem dL_law_334 : decode code 334 = .ok (.if_icmp .eq 1044, 3) := by decide +kernel
theorem dL_law_339 : decode code 339 = .ok (.aload_n 1, 1) := by decide +kernel
theorem dL_law_340 : decode code 340 = .ok (.aload_n 0, 1) := by decide +kernel
theorem dL_law_341 : decode code 341 = .ok (.iload_n 3, 1) := by decide +kernel
theorem dL_law_342 : decode code 342 = .ok (.iconst 1, 1) := by decide +kernel
theorem dL_law_343 : decode code 343 = .ok (.iadd, 1) := by decide +kernel
theorem dL_law_344 : decode code 344 = .ok (.iaload, 1) := by decide +kernel
theorem dL_law_345 : decode code 345 = .ok (.aload_n 0, 1) := by decide +kernel
theorem dL_law_346 : decode code 346 = .ok (.iload_n 3, 1) := by decide +kernel
theorem dL_law_347 : decode code 347 = .ok (.iconst 2, 1) := by decide +kernel
theorem dL_law_348 : decode code 348 = .ok (.iadd, 1) := by decide +kernel
theorem dL_law_349 : decode code 349 = .ok (.iaload, 1) := by decide +kernel
theorem dL_law_350 : decode code 350 = .ok (.aload_n 0, 1) := by decide +kernel
theorem dL_law_351 : decode code 351 = .ok (.iload_n 3, 1) := by decide +kernel
theorem dL_law_352 : decode code 352 = .ok (.iconst 3, 1) := by decide +kernel
theorem dL_law_353 : decode code 353 = .ok (.iadd, 1) := by decide +kernel
theorem dL_law_354 : decode code 354 = .ok (.iaload, 1) := by decide +kernel
theorem dL_law_355 : decode code 355 = .ok (.aload_n 0, 1) := by decide +kernel
theorem dL_law_356 : decode code 356 = .ok (.iload_n 3, 1) := by decide +kernel
theorem dL_law_357 : decode code 357 = .ok (.iconst 4, 1) := by decide +kernel
theorem dL_law_358 : decode code 358 = .ok (.iadd, 1) := by decide +kernel
theorem dL_law_359 : decode code 359 = .ok (.iaload, 1) := by decide +kernel
theorem dL_law_360 : decode code 360 = .ok (.invokevirtual 27, 3) := by decide +kernel
theorem dL_law_363 : decode code 363 = .ok (.aload_n 2, 1) := by decide +kernel
theorem dL_law_364 : decode code 364 = .ok (.aload_n 0, 1) := by decide +kernel
theorem dL_law_365 : decode code 365 = .ok (.iload_n 3, 1) := by decide +kernel
theorem dL_law_366 : decode code 366 = .ok (.iconst 1, 1) := by decide +kernel
theorem dL_law_367 : decode code 367 = .ok (.iadd, 1) := by decide +kernel
theorem dL_law_368 : decode code 368 = .ok (.iaload, 1) := by decide +kernel
theorem dL_law_369 : decode code 369 = .ok (.aload_n 0, 1) := by decide +kernel
theorem dL_law_370 : decode code 370 = .ok (.iload_n 3, 1) := by decide +kernel
theorem dL_law_371 : decode code 371 = .ok (.iconst 2, 1) := by decide +kernel
theorem dL_law_372 : decode code 372 = .ok (.iadd, 1) := by decide +kernel
theorem dL_law_373 : decode code 373 = .ok (.iaload, 1) := by decide +kernel
theorem dL_law_374 : decode code 374 = .ok (.aload_n 0, 1) := by decide +kernel
theorem dL_law_375 : decode code 375 = .ok (.iload_n 3, 1) := by decide +kernel
theorem dL_law_376 : decode code 376 = .ok (.iconst 3, 1) := by decide +kernel
theorem dL_law_377 : decode code 377 = .ok (.iadd, 1) := by decide +kernel
theorem dL_law_378 : decode code 378 = .ok (.iaload, 1) := by decide +kernel
theorem dL_law_379 : decode code 379 = .ok (.aload_n 0, 1) := by decide +kernel
theorem dL_law_380 : decode code 380 = .ok (.iload_n 3, 1) := by decide +kernel
theorem dL_law_381 : decode code 381 = .ok (.iconst 4, 1) := by decide +kernel
theorem dL_law_382 : decode code 382 = .ok (.iadd, 1) := by decide +kernel
theorem dL_law_383 : decode code 383 = .ok (.iaload, 1) := by decide +kernel
theorem dL_law_384 : decode code 384 = .ok (.invokevirtual 31, 3) := by decide +kernel
theorem dL_law_387 : decode code 387 = .ok (.if_icmp .eq 991, 3) := by decide +kernel
theorem dL_law_392 : decode code 392 = .ok (.aload_n 1, 1) := by decide +kernel
theorem dL_law_393 : decode code 393 = .ok (.aload_n 0, 1) := by decide +kernel
theorem dL_law_394 : decode code 394 = .ok (.iload_n 3, 1) := by decide +kernel
theorem dL_law_395 : decode code 395 = .ok (.iconst 1, 1) := by decide +kernel
theorem dL_law_396 : decode code 396 = .ok (.iadd, 1) := by decide +kernel
theorem dL_law_397 : decode code 397 = .ok (.iaload, 1) := by decide +kernel
theorem dL_law_398 : decode code 398 = .ok (.aload_n 0, 1) := by decide +kernel
theorem dL_law_399 : decode code 399 = .ok (.iload_n 3, 1) := by decide +kernel
theorem dL_law_400 : decode code 400 = .ok (.iconst 2, 1) := by decide +kernel
theorem dL_law_401 : decode code 401 = .ok (.iadd, 1) := by decide +kernel
theorem dL_law_402 : decode code 402 = .ok (.iaload, 1) := by decide +kernel
theorem dL_law_403 : decode code 403 = .ok (.aload_n 0, 1) := by decide +kernel
theorem dL_law_404 : decode code 404 = .ok (.iload_n 3, 1) := by decide +kernel
theorem dL_law_405 : decode code 405 = .ok (.iconst 3, 1) := by decide +kernel
theorem dL_law_406 : decode code 406 = .ok (.iadd, 1) := by decide +kernel
theorem dL_law_407 : decode code 407 = .ok (.iaload, 1) := by decide +kernel
theorem dL_law_408 : decode code 408 = .ok (.invokevirtual 32, 3) := by decide +kernel
theorem dL_law_411 : decode code 411 = .ok (.aload_n 2, 1) := by decide +kernel
theorem dL_law_412 : decode code 412 = .ok (.aload_n 0, 1) := by decide +kernel
theorem dL_law_413 : decode code 413 = .ok (.iload_n 3, 1) := by decide +kernel
theorem dL_law_414 : decode code 414 = .ok (.iconst 1, 1) := by decide +kernel
theorem dL_law_415 : decode code 415 = .ok (.iadd, 1) := by decide +kernel
theorem dL_law_416 : decode code 416 = .ok (.iaload, 1) := by decide +kernel
theorem dL_law_417 : decode code 417 = .ok (.aload_n 0, 1) := by decide +kernel
theorem dL_law_418 : decode code 418 = .ok (.iload_n 3, 1) := by decide +kernel
theorem dL_law_419 : decode code 419 = .ok (.iconst 2, 1) := by decide +kernel
theorem dL_law_420 : decode code 420 = .ok (.iadd, 1) := by decide +kernel
theorem dL_law_421 : decode code 421 = .ok (.iaload, 1) := by decide +kernel
theorem dL_law_422 : decode code 422 = .ok (.aload_n 0, 1) := by decide +kernel
theorem dL_law_423 : decode code 423 = .ok (.iload_n 3, 1) := by decide +kernel
theorem dL_law_424 : decode code 424 = .ok (.iconst 3, 1) := by decide +kernel
theorem dL_law_425 : decode code 425 = .ok (.iadd, 1) := by decide +kernel
theorem dL_law_426 : decode code 426 = .ok (.iaload, 1) := by decide +kernel
theorem dL_law_427 : decode code 427 = .ok (.invokevirtual 35, 3) := by decide +kernel
theorem dL_law_430 : decode code 430 = .ok (.if_icmp .eq 948, 3) := by decide +kernel
theorem dL_law_435 : decode code 435 = .ok (.aload_n 1, 1) := by decide +kernel
theorem dL_law_436 : decode code 436 = .ok (.aload_n 0, 1) := by decide +kernel
theorem dL_law_437 : decode code 437 = .ok (.iload_n 3, 1) := by decide +kernel
theorem dL_law_438 : decode code 438 = .ok (.iconst 1, 1) := by decide +kernel
theorem dL_law_439 : decode code 439 = .ok (.iadd, 1) := by decide +kernel
theorem dL_law_440 : decode code 440 = .ok (.iaload, 1) := by decide +kernel
theorem dL_law_441 : decode code 441 = .ok (.aload_n 0, 1) := by decide +kernel
theorem dL_law_442 : decode code 442 = .ok (.iload_n 3, 1) := by decide +kernel
theorem dL_law_443 : decode code 443 = .ok (.iconst 2, 1) := by decide +kernel
theorem dL_law_444 : decode code 444 = .ok (.iadd, 1) := by decide +kernel
theorem dL_law_445 : decode code 445 = .ok (.iaload, 1) := by decide +kernel
theorem dL_law_446 : decode code 446 = .ok (.aload_n 0, 1) := by decide +kernel
theorem dL_law_447 : decode code 447 = .ok (.iload_n 3, 1) := by decide +kernel
theorem dL_law_448 : decode code 448 = .ok (.iconst 3, 1) := by decide +kernel
theorem dL_law_449 : decode code 449 = .ok (.iadd, 1) := by decide +kernel
theorem dL_law_450 : decode code 450 = .ok (.iaload, 1) := by decide +kernel
theorem dL_law_451 : decode code 451 = .ok (.invokevirtual 36, 3) := by decide +kernel
theorem dL_law_454 : decode code 454 = .ok (.aload_n 2, 1) := by decide +kernel
theorem dL_law_455 : decode code 455 = .ok (.aload_n 0, 1) := by decide +kernel
theorem dL_law_456 : decode code 456 = .ok (.iload_n 3, 1) := by decide +kernel
theorem dL_law_457 : decode code 457 = .ok (.iconst 1, 1) := by decide +kernel
theorem dL_law_458 : decode code 458 = .ok (.iadd, 1) := by decide +kernel
theorem dL_law_459 : decode code 459 = .ok (.iaload, 1) := by decide +kernel
theorem dL_law_460 : decode code 460 = .ok (.aload_n 0, 1) := by decide +kernel
theorem dL_law_461 : decode code 461 = .ok (.iload_n 3, 1) := by decide +kernel
theorem dL_law_462 : decode code 462 = .ok (.iconst 2, 1) := by decide +kernel
theorem dL_law_463 : decode code 463 = .ok (.iadd, 1) := by decide +kernel
theorem dL_law_464 : decode code 464 = .ok (.iaload, 1) := by decide +kernel
theorem dL_law_465 : decode code 465 = .ok (.aload_n 0, 1) := by decide +kernel
theorem dL_law_466 : decode code 466 = .ok (.iload_n 3, 1) := by decide +kernel
theorem dL_law_467 : decode code 467 = .ok (.iconst 3, 1) := by decide +kernel
theorem dL_law_468 : decode code 468 = .ok (.iadd, 1) := by decide +kernel
theorem dL_law_469 : decode code 469 = .ok (.iaload, 1) := by decide +kernel
theorem dL_law_470 : decode code 470 = .ok (.invokevirtual 39, 3) := by decide +kernel
theorem dL_law_473 : decode code 473 = .ok (.if_icmp .eq 905, 3) := by decide +kernel
theorem twl_0 : Cond.methodLink R_law 13 yX6_stone ∈ Tg := tg_tab (List.mem_of_getElem? (i := 219) (by decide +kernel)) (by decide +kernel)
theorem twl_1 : Cond.code yX6_stone cX6_stone 4 (some .int) ∈ Tg := tg_tab (List.mem_of_getElem? (i := 222) (by decide +kernel)) (by decide +kernel)
theorem twl_2 : Cond.instanceMethod yX6_stone ∈ Tg := tg_tab (List.mem_of_getElem? (i := 220) (by decide +kernel)) (by decide +kernel)
theorem twl_3 : Cond.selects RX6 yX6_stone yX6_stone ∈ Tg := tg_tab (List.mem_of_getElem? (i := 221) (by decide +kernel)) (by decide +kernel)
theorem twl_4 : Cond.methodLink R_law 17 yX7_stone ∈ Tg := tg_tab (List.mem_of_getElem? (i := 873) (by decide +kernel)) (by decide +kernel)
theorem twl_5 : Cond.code yX7_stone cX7_stone 4 (some .int) ∈ Tg := tg_tab (List.mem_of_getElem? (i := 876) (by decide +kernel)) (by decide +kernel)
theorem twl_6 : Cond.instanceMethod yX7_stone ∈ Tg := tg_tab (List.mem_of_getElem? (i := 874) (by decide +kernel)) (by decide +kernel)
theorem twl_7 : Cond.selects RX7 yX7_stone yX7_stone ∈ Tg := tg_tab (List.mem_of_getElem? (i := 875) (by decide +kernel)) (by decide +kernel)
theorem twl_8 : Cond.methodLink R_law 18 yX6_wallOf ∈ Tg := tg_tab (List.mem_of_getElem? (i := 248) (by decide +kernel)) (by decide +kernel)
theorem twl_9 : Cond.code yX6_wallOf cX6_wallOf 3 (some .int) ∈ Tg := tg_tab (List.mem_of_getElem? (i := 251) (by decide +kernel)) (by decide +kernel)
theorem twl_10 : Cond.instanceMethod yX6_wallOf ∈ Tg := tg_tab (List.mem_of_getElem? (i := 249) (by decide +kernel)) (by decide +kernel)
theorem twl_11 : Cond.selects RX6 yX6_wallOf yX6_wallOf ∈ Tg := tg_tab (List.mem_of_getElem? (i := 250) (by decide +kernel)) (by decide +kernel)
theorem twl_12 : Cond.methodLink R_law 22 yX7_wallOf ∈ Tg := tg_tab (List.mem_of_getElem? (i := 903) (by decide +kernel)) (by decide +kernel)
theorem twl_13 : Cond.code yX7_wallOf cX7_wallOf 3 (some .int) ∈ Tg := tg_tab (List.mem_of_getElem? (i := 906) (by decide +kernel)) (by decide +kernel)
theorem twl_14 : Cond.instanceMethod yX7_wallOf ∈ Tg := tg_tab (List.mem_of_getElem? (i := 904) (by decide +kernel)) (by decide +kernel)
theorem twl_15 : Cond.selects RX7 yX7_wallOf yX7_wallOf ∈ Tg := tg_tab (List.mem_of_getElem? (i := 905) (by decide +kernel)) (by decide +kernel)
theorem twl_16 : Cond.methodLink R_law 23 yX6_of ∈ Tg := tg_tab (List.mem_of_getElem? (i := 271) (by decide +kernel)) (by decide +kernel)
theorem twl_17 : Cond.code yX6_of cX6_of 5 (some .int) ∈ Tg := tg_tab (List.mem_of_getElem? (i := 274) (by decide +kernel)) (by decide +kernel)
theorem twl_18 : Cond.instanceMethod yX6_of ∈ Tg := tg_tab (List.mem_of_getElem? (i := 272) (by decide +kernel)) (by decide +kernel)
theorem twl_19 : Cond.selects RX6 yX6_of yX6_of ∈ Tg := tg_tab (List.mem_of_getElem? (i := 273) (by decide +kernel)) (by decide +kernel)
theorem twl_20 : Cond.methodLink R_law 26 yX7_of ∈ Tg := tg_tab (List.mem_of_getElem? (i := 923) (by decide +kernel)) (by decide +kernel)
theorem twl_21 : Cond.code yX7_of cX7_of 4 (some .int) ∈ Tg := tg_tab (List.mem_of_getElem? (i := 926) (by decide +kernel)) (by decide +kernel)
theorem twl_22 : Cond.instanceMethod yX7_of ∈ Tg := tg_tab (List.mem_of_getElem? (i := 924) (by decide +kernel)) (by decide +kernel)
theorem twl_23 : Cond.selects RX7 yX7_of yX7_of ∈ Tg := tg_tab (List.mem_of_getElem? (i := 925) (by decide +kernel)) (by decide +kernel)
theorem twl_24 : Cond.methodLink R_law 27 yX6_set ∈ Tg := tg_tab (List.mem_of_getElem? (i := 317) (by decide +kernel)) (by decide +kernel)
theorem twl_25 : Cond.code yX6_set cX6_set 7 (some .int) ∈ Tg := tg_tab (List.mem_of_getElem? (i := 320) (by decide +kernel)) (by decide +kernel)
theorem twl_26 : Cond.instanceMethod yX6_set ∈ Tg := tg_tab (List.mem_of_getElem? (i := 318) (by decide +kernel)) (by decide +kernel)
theorem twl_27 : Cond.selects RX6 yX6_set yX6_set ∈ Tg := tg_tab (List.mem_of_getElem? (i := 319) (by decide +kernel)) (by decide +kernel)
theorem twl_28 : Cond.methodLink R_law 31 yX7_set ∈ Tg := tg_tab (List.mem_of_getElem? (i := 942) (by decide +kernel)) (by decide +kernel)
theorem twl_29 : Cond.code yX7_set cX7_set 7 (some .int) ∈ Tg := tg_tab (List.mem_of_getElem? (i := 945) (by decide +kernel)) (by decide +kernel)
theorem twl_30 : Cond.instanceMethod yX7_set ∈ Tg := tg_tab (List.mem_of_getElem? (i := 943) (by decide +kernel)) (by decide +kernel)
theorem twl_31 : Cond.selects RX7 yX7_set yX7_set ∈ Tg := tg_tab (List.mem_of_getElem? (i := 944) (by decide +kernel)) (by decide +kernel)
theorem twl_32 : Cond.methodLink R_law 32 yX6_turn ∈ Tg := tg_tab (List.mem_of_getElem? (i := 321) (by decide +kernel)) (by decide +kernel)
theorem twl_33 : Cond.code yX6_turn cX6_turn 6 (some .int) ∈ Tg := tg_tab (List.mem_of_getElem? (i := 324) (by decide +kernel)) (by decide +kernel)
theorem twl_34 : Cond.instanceMethod yX6_turn ∈ Tg := tg_tab (List.mem_of_getElem? (i := 322) (by decide +kernel)) (by decide +kernel)
theorem twl_35 : Cond.selects RX6 yX6_turn yX6_turn ∈ Tg := tg_tab (List.mem_of_getElem? (i := 323) (by decide +kernel)) (by decide +kernel)
theorem twl_36 : Cond.methodLink R_law 35 yX7_turn ∈ Tg := tg_tab (List.mem_of_getElem? (i := 946) (by decide +kernel)) (by decide +kernel)
theorem twl_37 : Cond.code yX7_turn cX7_turn 5 (some .int) ∈ Tg := tg_tab (List.mem_of_getElem? (i := 949) (by decide +kernel)) (by decide +kernel)
theorem twl_38 : Cond.instanceMethod yX7_turn ∈ Tg := tg_tab (List.mem_of_getElem? (i := 947) (by decide +kernel)) (by decide +kernel)
theorem twl_39 : Cond.selects RX7 yX7_turn yX7_turn ∈ Tg := tg_tab (List.mem_of_getElem? (i := 948) (by decide +kernel)) (by decide +kernel)
theorem twl_40 : Cond.methodLink R_law 36 yX6_as ∈ Tg := tg_tab (List.mem_of_getElem? (i := 325) (by decide +kernel)) (by decide +kernel)
theorem twl_41 : Cond.code yX6_as cX6_as 5 (some .int) ∈ Tg := tg_tab (List.mem_of_getElem? (i := 328) (by decide +kernel)) (by decide +kernel)
theorem twl_42 : Cond.instanceMethod yX6_as ∈ Tg := tg_tab (List.mem_of_getElem? (i := 326) (by decide +kernel)) (by decide +kernel)
theorem twl_43 : Cond.selects RX6 yX6_as yX6_as ∈ Tg := tg_tab (List.mem_of_getElem? (i := 327) (by decide +kernel)) (by decide +kernel)
theorem twl_44 : Cond.methodLink R_law 39 yX7_as ∈ Tg := tg_tab (List.mem_of_getElem? (i := 950) (by decide +kernel)) (by decide +kernel)
theorem twl_45 : Cond.code yX7_as cX7_as 4 (some .int) ∈ Tg := tg_tab (List.mem_of_getElem? (i := 953) (by decide +kernel)) (by decide +kernel)
theorem twl_46 : Cond.instanceMethod yX7_as ∈ Tg := tg_tab (List.mem_of_getElem? (i := 951) (by decide +kernel)) (by decide +kernel)
theorem twl_47 : Cond.selects RX7 yX7_as yX7_as ∈ Tg := tg_tab (List.mem_of_getElem? (i := 952) (by decide +kernel)) (by decide +kernel)
theorem lc_0 {L : Nat} {xs : Nat → Int32} {i : Nat} (hL : L ≤ 3072) (hi : i + 6 ≤ L) {σ : St} (I : Inv σ) (nxt : ∀ σ2, Inv σ2 → Lw L xs 1378 (lsL i) [] σ2) : Lw L xs 220 (lsL i) [] σ := by
  refine L_aload_n dL_law_220 rfl (by decide) ?_
  refine L_arg (k := 1) dL_law_221 dL_law_222 dL_law_223 dL_law_224 dL_law_225 (by decide) hL (by omega) ?_
  refine L_arg (k := 2) dL_law_226 dL_law_227 dL_law_228 dL_law_229 dL_law_230 (by decide) hL (by omega) ?_
  refine L_arg (k := 3) dL_law_231 dL_law_232 dL_law_233 dL_law_234 dL_law_235 (by decide) hL (by omega) ?_
  refine L_callV (n := 3) (k := 0) (ci := 6) (rest := []) (R' := rmX6_stone) dL_law_236 ⟨twl_0, tw_141, twl_1, by decide +kernel, by decide +kernel, by decide +kernel⟩ twl_2 (by decide) (by decide) rfl twl_3 ⟨rfl, rfl, Nat.le_of_ble_eq_true rfl, Nat.le_of_ble_eq_true rfl⟩ rfl rfl (Nat.le_of_ble_eq_true rfl) (mt_X6_stone _ _ _ σ _ (pp_stone I _ _ _)) (fun r σ1 q => ?_)
  obtain ⟨x, rfl, q⟩ := q
  refine L_aload_n dL_law_239 rfl (by decide) ?_
  refine L_arg (k := 1) dL_law_240 dL_law_241 dL_law_242 dL_law_243 dL_law_244 (by decide) hL (by omega) ?_
  refine L_arg (k := 2) dL_law_245 dL_law_246 dL_law_247 dL_law_248 dL_law_249 (by decide) hL (by omega) ?_
  refine L_arg (k := 3) dL_law_250 dL_law_251 dL_law_252 dL_law_253 dL_law_254 (by decide) hL (by omega) ?_
  refine L_callV (n := 3) (k := 49) (ci := 7) (rest := [.int x]) (R' := rmX7_stone) dL_law_255 ⟨twl_4, tw_454, twl_5, by decide +kernel, by decide +kernel, by decide +kernel⟩ twl_6 (by decide) (by decide) rfl twl_7 ⟨rfl, rfl, Nat.le_of_ble_eq_true rfl, Nat.le_of_ble_eq_true rfl⟩ rfl rfl (Nat.le_of_ble_eq_true rfl) (mt_X7_stone _ _ _ σ1 _ q) (fun r σ2 q => ?_)
  obtain ⟨y, rfl, q, J⟩ := q
  exact L_icmp_eq 1378 dL_law_258 (by decide) (fun _ => nxt σ2 J) (fun z => absurd q z)
theorem lc_1 {L : Nat} {xs : Nat → Int32} {i : Nat} (hL : L ≤ 3072) (hi : i + 6 ≤ L) {σ : St} (I : Inv σ) (nxt : ∀ σ2, Inv σ2 → Lw L xs 1378 (lsL i) [] σ2) : Lw L xs 263 (lsL i) [] σ := by
  refine L_aload_n dL_law_263 rfl (by decide) ?_
  refine L_arg (k := 1) dL_law_264 dL_law_265 dL_law_266 dL_law_267 dL_law_268 (by decide) hL (by omega) ?_
  refine L_arg (k := 2) dL_law_269 dL_law_270 dL_law_271 dL_law_272 dL_law_273 (by decide) hL (by omega) ?_
  refine L_callV (n := 2) (k := 0) (ci := 6) (rest := []) (R' := rmX6_wallOf) dL_law_274 ⟨twl_8, tw_141, twl_9, by decide +kernel, by decide +kernel, by decide +kernel⟩ twl_10 (by decide) (by decide) rfl twl_11 ⟨rfl, rfl, Nat.le_of_ble_eq_true rfl, Nat.le_of_ble_eq_true rfl⟩ rfl rfl (Nat.le_of_ble_eq_true rfl) (mt_X6_wallOf _ _ σ _ (pp_wallOf I _ _)) (fun r σ1 q => ?_)
  obtain ⟨x, rfl, q⟩ := q
  refine L_aload_n dL_law_277 rfl (by decide) ?_
  refine L_arg (k := 1) dL_law_278 dL_law_279 dL_law_280 dL_law_281 dL_law_282 (by decide) hL (by omega) ?_
  refine L_arg (k := 2) dL_law_283 dL_law_284 dL_law_285 dL_law_286 dL_law_287 (by decide) hL (by omega) ?_
  refine L_callV (n := 2) (k := 49) (ci := 7) (rest := [.int x]) (R' := rmX7_wallOf) dL_law_288 ⟨twl_12, tw_454, twl_13, by decide +kernel, by decide +kernel, by decide +kernel⟩ twl_14 (by decide) (by decide) rfl twl_15 ⟨rfl, rfl, Nat.le_of_ble_eq_true rfl, Nat.le_of_ble_eq_true rfl⟩ rfl rfl (Nat.le_of_ble_eq_true rfl) (mt_X7_wallOf _ _ σ1 _ q) (fun r σ2 q => ?_)
  obtain ⟨y, rfl, q, J⟩ := q
  exact L_icmp_eq 1378 dL_law_291 (by decide) (fun _ => nxt σ2 J) (fun z => absurd q z)
theorem lc_2 {L : Nat} {xs : Nat → Int32} {i : Nat} (hL : L ≤ 3072) (hi : i + 6 ≤ L) {σ : St} (I : Inv σ) (nxt : ∀ σ2, Inv σ2 → Lw L xs 1378 (lsL i) [] σ2) : Lw L xs 296 (lsL i) [] σ := by
  refine L_aload_n dL_law_296 rfl (by decide) ?_
  refine L_arg (k := 1) dL_law_297 dL_law_298 dL_law_299 dL_law_300 dL_law_301 (by decide) hL (by omega) ?_
  refine L_arg (k := 2) dL_law_302 dL_law_303 dL_law_304 dL_law_305 dL_law_306 (by decide) hL (by omega) ?_
  refine L_arg (k := 3) dL_law_307 dL_law_308 dL_law_309 dL_law_310 dL_law_311 (by decide) hL (by omega) ?_
  refine L_callV (n := 3) (k := 0) (ci := 6) (rest := []) (R' := rmX6_of) dL_law_312 ⟨twl_16, tw_141, twl_17, by decide +kernel, by decide +kernel, by decide +kernel⟩ twl_18 (by decide) (by decide) rfl twl_19 ⟨rfl, rfl, Nat.le_of_ble_eq_true rfl, Nat.le_of_ble_eq_true rfl⟩ rfl rfl (Nat.le_of_ble_eq_true rfl) (mt_X6_of _ _ _ σ _ (pp_of I _ _ _)) (fun r σ1 q => ?_)
  obtain ⟨x, rfl, q⟩ := q
  refine L_aload_n dL_law_315 rfl (by decide) ?_
  refine L_arg (k := 1) dL_law_316 dL_law_317 dL_law_318 dL_law_319 dL_law_320 (by decide) hL (by omega) ?_
  refine L_arg (k := 2) dL_law_321 dL_law_322 dL_law_323 dL_law_324 dL_law_325 (by decide) hL (by omega) ?_
  refine L_arg (k := 3) dL_law_326 dL_law_327 dL_law_328 dL_law_329 dL_law_330 (by decide) hL (by omega) ?_
  refine L_callV (n := 3) (k := 49) (ci := 7) (rest := [.int x]) (R' := rmX7_of) dL_law_331 ⟨twl_20, tw_454, twl_21, by decide +kernel, by decide +kernel, by decide +kernel⟩ twl_22 (by decide) (by decide) rfl twl_23 ⟨rfl, rfl, Nat.le_of_ble_eq_true rfl, Nat.le_of_ble_eq_true rfl⟩ rfl rfl (Nat.le_of_ble_eq_true rfl) (mt_X7_of _ _ _ σ1 _ q) (fun r σ2 q => ?_)
  obtain ⟨y, rfl, q, J⟩ := q
  exact L_icmp_eq 1378 dL_law_334 (by decide) (fun _ => nxt σ2 J) (fun z => absurd q z)
theorem lc_3 {L : Nat} {xs : Nat → Int32} {i : Nat} (hL : L ≤ 3072) (hi : i + 6 ≤ L) {σ : St} (I : Inv σ) (nxt : ∀ σ2, Inv σ2 → Lw L xs 1378 (lsL i) [] σ2) : Lw L xs 339 (lsL i) [] σ := by
  refine L_aload_n dL_law_339 rfl (by decide) ?_
  refine L_arg (k := 1) dL_law_340 dL_law_341 dL_law_342 dL_law_343 dL_law_344 (by decide) hL (by omega) ?_
  refine L_arg (k := 2) dL_law_345 dL_law_346 dL_law_347 dL_law_348 dL_law_349 (by decide) hL (by omega) ?_
  refine L_arg (k := 3) dL_law_350 dL_law_351 dL_law_352 dL_law_353 dL_law_354 (by decide) hL (by omega) ?_
  refine L_arg (k := 4) dL_law_355 dL_law_356 dL_law_357 dL_law_358 dL_law_359 (by decide) hL (by omega) ?_
  refine L_callV (n := 4) (k := 0) (ci := 6) (rest := []) (R' := rmX6_set) dL_law_360 ⟨twl_24, tw_141, twl_25, by decide +kernel, by decide +kernel, by decide +kernel⟩ twl_26 (by decide) (by decide) rfl twl_27 ⟨rfl, rfl, Nat.le_of_ble_eq_true rfl, Nat.le_of_ble_eq_true rfl⟩ rfl rfl (Nat.le_of_ble_eq_true rfl) (mt_X6_set _ _ _ _ σ _ (pp_set I _ _ _ _)) (fun r σ1 q => ?_)
  obtain ⟨x, rfl, q⟩ := q
  refine L_aload_n dL_law_363 rfl (by decide) ?_
  refine L_arg (k := 1) dL_law_364 dL_law_365 dL_law_366 dL_law_367 dL_law_368 (by decide) hL (by omega) ?_
  refine L_arg (k := 2) dL_law_369 dL_law_370 dL_law_371 dL_law_372 dL_law_373 (by decide) hL (by omega) ?_
  refine L_arg (k := 3) dL_law_374 dL_law_375 dL_law_376 dL_law_377 dL_law_378 (by decide) hL (by omega) ?_
  refine L_arg (k := 4) dL_law_379 dL_law_380 dL_law_381 dL_law_382 dL_law_383 (by decide) hL (by omega) ?_
  refine L_callV (n := 4) (k := 49) (ci := 7) (rest := [.int x]) (R' := rmX7_set) dL_law_384 ⟨twl_28, tw_454, twl_29, by decide +kernel, by decide +kernel, by decide +kernel⟩ twl_30 (by decide) (by decide) rfl twl_31 ⟨rfl, rfl, Nat.le_of_ble_eq_true rfl, Nat.le_of_ble_eq_true rfl⟩ rfl rfl (Nat.le_of_ble_eq_true rfl) (mt_X7_set _ _ _ _ σ1 _ q) (fun r σ2 q => ?_)
  obtain ⟨y, rfl, q, J⟩ := q
  exact L_icmp_eq 1378 dL_law_387 (by decide) (fun _ => nxt σ2 J) (fun z => absurd q z)
theorem lc_4 {L : Nat} {xs : Nat → Int32} {i : Nat} (hL : L ≤ 3072) (hi : i + 6 ≤ L) {σ : St} (I : Inv σ) (nxt : ∀ σ2, Inv σ2 → Lw L xs 1378 (lsL i) [] σ2) : Lw L xs 392 (lsL i) [] σ := by
  refine L_aload_n dL_law_392 rfl (by decide) ?_
  refine L_arg (k := 1) dL_law_393 dL_law_394 dL_law_395 dL_law_396 dL_law_397 (by decide) hL (by omega) ?_
  refine L_arg (k := 2) dL_law_398 dL_law_399 dL_law_400 dL_law_401 dL_law_402 (by decide) hL (by omega) ?_
  refine L_arg (k := 3) dL_law_403 dL_law_404 dL_law_405 dL_law_406 dL_law_407 (by decide) hL (by omega) ?_
  refine L_callV (n := 3) (k := 0) (ci := 6) (rest := []) (R' := rmX6_turn) dL_law_408 ⟨twl_32, tw_141, twl_33, by decide +kernel, by decide +kernel, by decide +kernel⟩ twl_34 (by decide) (by decide) rfl twl_35 ⟨rfl, rfl, Nat.le_of_ble_eq_true rfl, Nat.le_of_ble_eq_true rfl⟩ rfl rfl (Nat.le_of_ble_eq_true rfl) (mt_X6_turn _ _ _ σ _ (pp_turn I _ _ _)) (fun r σ1 q => ?_)
  obtain ⟨x, rfl, q⟩ := q
  refine L_aload_n dL_law_411 rfl (by decide) ?_
  refine L_arg (k := 1) dL_law_412 dL_law_413 dL_law_414 dL_law_415 dL_law_416 (by decide) hL (by omega) ?_
  refine L_arg (k := 2) dL_law_417 dL_law_418 dL_law_419 dL_law_420 dL_law_421 (by decide) hL (by omega) ?_
  refine L_arg (k := 3) dL_law_422 dL_law_423 dL_law_424 dL_law_425 dL_law_426 (by decide) hL (by omega) ?_
  refine L_callV (n := 3) (k := 49) (ci := 7) (rest := [.int x]) (R' := rmX7_turn) dL_law_427 ⟨twl_36, tw_454, twl_37, by decide +kernel, by decide +kernel, by decide +kernel⟩ twl_38 (by decide) (by decide) rfl twl_39 ⟨rfl, rfl, Nat.le_of_ble_eq_true rfl, Nat.le_of_ble_eq_true rfl⟩ rfl rfl (Nat.le_of_ble_eq_true rfl) (mt_X7_turn _ _ _ σ1 _ q) (fun r σ2 q => ?_)
  obtain ⟨y, rfl, q, J⟩ := q
  exact L_icmp_eq 1378 dL_law_430 (by decide) (fun _ => nxt σ2 J) (fun z => absurd q z)
theorem lc_5 {L : Nat} {xs : Nat → Int32} {i : Nat} (hL : L ≤ 3072) (hi : i + 6 ≤ L) {σ : St} (I : Inv σ) (nxt : ∀ σ2, Inv σ2 → Lw L xs 1378 (lsL i) [] σ2) : Lw L xs 435 (lsL i) [] σ := by
  refine L_aload_n dL_law_435 rfl (by decide) ?_
  refine L_arg (k := 1) dL_law_436 dL_law_437 dL_law_438 dL_law_439 dL_law_440 (by decide) hL (by omega) ?_
  refine L_arg (k := 2) dL_law_441 dL_law_442 dL_law_443 dL_law_444 dL_law_445 (by decide) hL (by omega) ?_
  refine L_arg (k := 3) dL_law_446 dL_law_447 dL_law_448 dL_law_449 dL_law_450 (by decide) hL (by omega) ?_
  refine L_callV (n := 3) (k := 0) (ci := 6) (rest := []) (R' := rmX6_as) dL_law_451 ⟨twl_40, tw_141, twl_41, by decide +kernel, by decide +kernel, by decide +kernel⟩ twl_42 (by decide) (by decide) rfl twl_43 ⟨rfl, rfl, Nat.le_of_ble_eq_true rfl, Nat.le_of_ble_eq_true rfl⟩ rfl rfl (Nat.le_of_ble_eq_true rfl) (mt_X6_as _ _ _ σ _ (pp_as I _ _ _)) (fun r σ1 q => ?_)
  obtain ⟨x, rfl, q⟩ := q
  refine L_aload_n dL_law_454 rfl (by decide) ?_
  refine L_arg (k := 1) dL_law_455 dL_law_456 dL_law_457 dL_law_458 dL_law_459 (by decide) hL (by omega) ?_
  refine L_arg (k := 2) dL_law_460 dL_law_461 dL_law_462 dL_law_463 dL_law_464 (by decide) hL (by omega) ?_
  refine L_arg (k := 3) dL_law_465 dL_law_466 dL_law_467 dL_law_468 dL_law_469 (by decide) hL (by omega) ?_
  refine L_callV (n := 3) (k := 49) (ci := 7) (rest := [.int x]) (R' := rmX7_as) dL_law_470 ⟨twl_44, tw_454, twl_45, by decide +kernel, by decide +kernel, by decide +kernel⟩ twl_46 (by decide) (by decide) rfl twl_47 ⟨rfl, rfl, Nat.le_of_ble_eq_true rfl, Nat.le_of_ble_eq_true rfl⟩ rfl rfl (Nat.le_of_ble_eq_true rfl) (mt_X7_as _ _ _ σ1 _ q) (fun r σ2 q => ?_)
  obtain ⟨y, rfl, q, J⟩ := q
  exact L_icmp_eq 1378 dL_law_473 (by decide) (fun _ => nxt σ2 J) (fun z => absurd q z)
