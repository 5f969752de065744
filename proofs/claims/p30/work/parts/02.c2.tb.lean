theorem tb_306 : (.methodLink RX5 264 yX1_canJoin : Cond) ∈ TB := List.mem_filter.mpr ⟨by decide +kernel, by decide +kernel⟩
theorem tb_307 : (.instanceMethod yX1_canJoin : Cond) ∈ TB := List.mem_filter.mpr ⟨by decide +kernel, by decide +kernel⟩
theorem tb_308 : (.selects RX1 yX1_canJoin yX1_canJoin : Cond) ∈ TB := List.mem_filter.mpr ⟨by decide +kernel, by decide +kernel⟩
set_option maxRecDepth 100000 in
theorem tb_309 : (.code yX1_canJoin cX1_canJoin 4 (some .boolean) : Cond) ∈ TB := List.mem_filter.mpr ⟨List.mem_of_getElem? (i := 401) rfl, by decide +kernel⟩
theorem tb_310 : (.methodLink RX1 56 yX1_roadsAt : Cond) ∈ TB := List.mem_filter.mpr ⟨by decide +kernel, by decide +kernel⟩
theorem tb_311 : (.instanceMethod yX1_roadsAt : Cond) ∈ TB := List.mem_filter.mpr ⟨by decide +kernel, by decide +kernel⟩
theorem tb_312 : (.selects RX1 yX1_roadsAt yX1_roadsAt : Cond) ∈ TB := List.mem_filter.mpr ⟨by decide +kernel, by decide +kernel⟩
set_option maxRecDepth 100000 in
theorem tb_313 : (.code yX1_roadsAt cX1_roadsAt 4 (some .int) : Cond) ∈ TB := List.mem_filter.mpr ⟨List.mem_of_getElem? (i := 409) rfl, by decide +kernel⟩
theorem tb_314 : (.methodLink RX1 60 yX1_roadCount : Cond) ∈ TB := List.mem_filter.mpr ⟨by decide +kernel, by decide +kernel⟩
theorem tb_315 : (.methodLink RX5 135 yX1_join : Cond) ∈ TB := List.mem_filter.mpr ⟨by decide +kernel, by decide +kernel⟩
theorem tb_316 : (.instanceMethod yX1_join : Cond) ∈ TB := List.mem_filter.mpr ⟨by decide +kernel, by decide +kernel⟩
theorem tb_317 : (.selects RX1 yX1_join yX1_join : Cond) ∈ TB := List.mem_filter.mpr ⟨by decide +kernel, by decide +kernel⟩
set_option maxRecDepth 100000 in
theorem tb_318 : (.code yX1_join cX1_join 4 (some .boolean) : Cond) ∈ TB := List.mem_filter.mpr ⟨List.mem_of_getElem? (i := 397) rfl, by decide +kernel⟩
theorem tb_319 : (.methodLink RX1 64 yX1_canJoin : Cond) ∈ TB := List.mem_filter.mpr ⟨by decide +kernel, by decide +kernel⟩
theorem tb_320 : (.methodLink RX1 68 yX1_setRoad : Cond) ∈ TB := List.mem_filter.mpr ⟨by decide +kernel, by decide +kernel⟩
theorem tb_321 : (.instanceMethod yX1_setRoad : Cond) ∈ TB := List.mem_filter.mpr ⟨by decide +kernel, by decide +kernel⟩
theorem tb_322 : (.selects RX1 yX1_setRoad yX1_setRoad : Cond) ∈ TB := List.mem_filter.mpr ⟨by decide +kernel, by decide +kernel⟩
set_option maxRecDepth 100000 in
theorem tb_323 : (.code yX1_setRoad cX1_setRoad 4 none : Cond) ∈ TB := List.mem_filter.mpr ⟨List.mem_of_getElem? (i := 417) rfl, by decide +kernel⟩
theorem tb_324 : (.methodLink RL 122 yL_tryTear : Cond) ∈ TB := List.mem_filter.mpr ⟨by decide +kernel, by decide +kernel⟩
theorem tb_325 : (.static yL_tryTear : Cond) ∈ TB := List.mem_filter.mpr ⟨by decide +kernel, by decide +kernel⟩
theorem tb_326 : (.codeWith yL_tryTear cL_tryTear 4 (some .int) [(0, 6, 7, 13), (0, 6, 11, 35)] : Cond) ∈ TB := List.mem_filter.mpr ⟨by decide +kernel, by decide +kernel⟩
theorem tb_327 : (.methodLink RL 56 yX5_tear : Cond) ∈ TB := List.mem_filter.mpr ⟨by decide +kernel, by decide +kernel⟩
theorem tb_328 : (.instanceMethod yX5_tear : Cond) ∈ TB := List.mem_filter.mpr ⟨by decide +kernel, by decide +kernel⟩
theorem tb_329 : (.selects RX5 yX5_tear yX5_tear : Cond) ∈ TB := List.mem_filter.mpr ⟨by decide +kernel, by decide +kernel⟩
set_option maxRecDepth 100000 in
theorem tb_330 : (.code yX5_tear cX5_tear 3 (some .int) : Cond) ∈ TB := List.mem_filter.mpr ⟨List.mem_of_getElem? (i := 604) rfl, by decide +kernel⟩
theorem tb_331 : (.methodLink RX5 141 yX1_cut : Cond) ∈ TB := List.mem_filter.mpr ⟨by decide +kernel, by decide +kernel⟩
theorem tb_332 : (.instanceMethod yX1_cut : Cond) ∈ TB := List.mem_filter.mpr ⟨by decide +kernel, by decide +kernel⟩
theorem tb_333 : (.selects RX1 yX1_cut yX1_cut : Cond) ∈ TB := List.mem_filter.mpr ⟨by decide +kernel, by decide +kernel⟩
set_option maxRecDepth 100000 in
theorem tb_334 : (.code yX1_cut cX1_cut 4 (some .int) : Cond) ∈ TB := List.mem_filter.mpr ⟨List.mem_of_getElem? (i := 421) rfl, by decide +kernel⟩
theorem tb_335 : (.methodLink RL 125 yL_trySeeAll : Cond) ∈ TB := List.mem_filter.mpr ⟨by decide +kernel, by decide +kernel⟩
theorem tb_336 : (.static yL_trySeeAll : Cond) ∈ TB := List.mem_filter.mpr ⟨by decide +kernel, by decide +kernel⟩
theorem tb_337 : (.codeWith yL_trySeeAll cL_trySeeAll 2 (some .int) [(0, 4, 5, 35)] : Cond) ∈ TB := List.mem_filter.mpr ⟨by decide +kernel, by decide +kernel⟩
theorem tb_338 : (.methodLink RL 59 yX5_seeAll : Cond) ∈ TB := List.mem_filter.mpr ⟨by decide +kernel, by decide +kernel⟩
theorem tb_339 : (.instanceMethod yX5_seeAll : Cond) ∈ TB := List.mem_filter.mpr ⟨by decide +kernel, by decide +kernel⟩
theorem tb_340 : (.selects RX5 yX5_seeAll yX5_seeAll : Cond) ∈ TB := List.mem_filter.mpr ⟨by decide +kernel, by decide +kernel⟩
set_option maxRecDepth 100000 in
theorem tb_341 : (.code yX5_seeAll cX5_seeAll 1 (some .int) : Cond) ∈ TB := List.mem_filter.mpr ⟨List.mem_of_getElem? (i := 613) rfl, by decide +kernel⟩
theorem tb_342 : (.methodLink RX5 77 yX4_firstError : Cond) ∈ TB := List.mem_filter.mpr ⟨by decide +kernel, by decide +kernel⟩
theorem tb_343 : (.instanceMethod yX4_firstError : Cond) ∈ TB := List.mem_filter.mpr ⟨by decide +kernel, by decide +kernel⟩
theorem tb_344 : (.selects RX4 yX4_firstError yX4_firstError : Cond) ∈ TB := List.mem_filter.mpr ⟨by decide +kernel, by decide +kernel⟩
set_option maxRecDepth 100000 in
theorem tb_345 : (.code yX4_firstError cX4_firstError 3 (some .int) : Cond) ∈ TB := List.mem_filter.mpr ⟨List.mem_of_getElem? (i := 617) rfl, by decide +kernel⟩
theorem tb_346 : (.methodLink RX4 19 yX4_signAt : Cond) ∈ TB := List.mem_filter.mpr ⟨by decide +kernel, by decide +kernel⟩
theorem tb_347 : (.instanceMethod yX4_signAt : Cond) ∈ TB := List.mem_filter.mpr ⟨by decide +kernel, by decide +kernel⟩
theorem tb_348 : (.selects RX4 yX4_signAt yX4_signAt : Cond) ∈ TB := List.mem_filter.mpr ⟨by decide +kernel, by decide +kernel⟩
set_option maxRecDepth 100000 in
theorem tb_349 : (.code yX4_signAt cX4_signAt 2 (some .int) : Cond) ∈ TB := List.mem_filter.mpr ⟨List.mem_of_getElem? (i := 621) rfl, by decide +kernel⟩
theorem tb_350 : (.methodLink RX4 23 yX4_awaitedBehind : Cond) ∈ TB := List.mem_filter.mpr ⟨by decide +kernel, by decide +kernel⟩
theorem tb_351 : (.static yX4_awaitedBehind : Cond) ∈ TB := List.mem_filter.mpr ⟨by decide +kernel, by decide +kernel⟩
set_option maxRecDepth 100000 in
theorem tb_352 : (.code yX4_awaitedBehind cX4_awaitedBehind 3 (some .int) : Cond) ∈ TB := List.mem_filter.mpr ⟨List.mem_of_getElem? (i := 624) rfl, by decide +kernel⟩
theorem tb_353 : (.methodLink RX5 156 yX4_noteIn : Cond) ∈ TB := List.mem_filter.mpr ⟨by decide +kernel, by decide +kernel⟩
theorem tb_354 : (.instanceMethod yX4_noteIn : Cond) ∈ TB := List.mem_filter.mpr ⟨by decide +kernel, by decide +kernel⟩
theorem tb_355 : (.selects RX4 yX4_noteIn yX4_noteIn : Cond) ∈ TB := List.mem_filter.mpr ⟨by decide +kernel, by decide +kernel⟩
set_option maxRecDepth 100000 in
theorem tb_356 : (.code yX4_noteIn cX4_noteIn 8 (some .int) : Cond) ∈ TB := List.mem_filter.mpr ⟨List.mem_of_getElem? (i := 630) rfl, by decide +kernel⟩
theorem tb_357 : (.methodLink RX4 31 yX1_note : Cond) ∈ TB := List.mem_filter.mpr ⟨by decide +kernel, by decide +kernel⟩
theorem tb_358 : (.instanceMethod yX1_note : Cond) ∈ TB := List.mem_filter.mpr ⟨by decide +kernel, by decide +kernel⟩
theorem tb_359 : (.selects RX1 yX1_note yX1_note : Cond) ∈ TB := List.mem_filter.mpr ⟨by decide +kernel, by decide +kernel⟩
set_option maxRecDepth 100000 in
theorem tb_360 : (.code yX1_note cX1_note 8 (some .int) : Cond) ∈ TB := List.mem_filter.mpr ⟨List.mem_of_getElem? (i := 303) rfl, by decide +kernel⟩
theorem tb_361 : (.static yX5_isYear : Cond) ∈ TB := List.mem_filter.mpr ⟨by decide +kernel, by decide +kernel⟩
set_option maxRecDepth 100000 in
theorem tb_362 : (.code yX5_isYear cX5_isYear 1 (some .boolean) : Cond) ∈ TB := List.mem_filter.mpr ⟨List.mem_of_getElem? (i := 306) rfl, by decide +kernel⟩
theorem tb_363 : (.methodLink RL 128 yL_tryForget : Cond) ∈ TB := List.mem_filter.mpr ⟨by decide +kernel, by decide +kernel⟩
theorem tb_364 : (.static yL_tryForget : Cond) ∈ TB := List.mem_filter.mpr ⟨by decide +kernel, by decide +kernel⟩
theorem tb_365 : (.codeWith yL_tryForget cL_tryForget 4 (some .int) [(0, 6, 7, 13), (0, 6, 11, 16)] : Cond) ∈ TB := List.mem_filter.mpr ⟨by decide +kernel, by decide +kernel⟩
theorem tb_366 : (.methodLink RL 62 yX5_forget : Cond) ∈ TB := List.mem_filter.mpr ⟨by decide +kernel, by decide +kernel⟩
theorem tb_367 : (.instanceMethod yX5_forget : Cond) ∈ TB := List.mem_filter.mpr ⟨by decide +kernel, by decide +kernel⟩
theorem tb_368 : (.selects RX5 yX5_forget yX5_forget : Cond) ∈ TB := List.mem_filter.mpr ⟨by decide +kernel, by decide +kernel⟩
set_option maxRecDepth 100000 in
theorem tb_369 : (.code yX5_forget cX5_forget 3 (some .int) : Cond) ∈ TB := List.mem_filter.mpr ⟨List.mem_of_getElem? (i := 638) rfl, by decide +kernel⟩
theorem tb_370 : (.methodLink RX5 115 yX5_needTrait : Cond) ∈ TB := List.mem_filter.mpr ⟨by decide +kernel, by decide +kernel⟩
theorem tb_371 : (.static yX5_needTrait : Cond) ∈ TB := List.mem_filter.mpr ⟨by decide +kernel, by decide +kernel⟩
set_option maxRecDepth 100000 in
theorem tb_372 : (.code yX5_needTrait cX5_needTrait 1 none : Cond) ∈ TB := List.mem_filter.mpr ⟨List.mem_of_getElem? (i := 641) rfl, by decide +kernel⟩
theorem tb_373 : (.methodLink RX5 269 yX5_isTrait : Cond) ∈ TB := List.mem_filter.mpr ⟨by decide +kernel, by decide +kernel⟩
theorem tb_374 : (.methodLink RX5 159 yX1_drop : Cond) ∈ TB := List.mem_filter.mpr ⟨by decide +kernel, by decide +kernel⟩
theorem tb_375 : (.instanceMethod yX1_drop : Cond) ∈ TB := List.mem_filter.mpr ⟨by decide +kernel, by decide +kernel⟩
theorem tb_376 : (.selects RX1 yX1_drop yX1_drop : Cond) ∈ TB := List.mem_filter.mpr ⟨by decide +kernel, by decide +kernel⟩
set_option maxRecDepth 100000 in
theorem tb_377 : (.code yX1_drop cX1_drop 4 (some .int) : Cond) ∈ TB := List.mem_filter.mpr ⟨List.mem_of_getElem? (i := 298) rfl, by decide +kernel⟩
theorem tb_378 : (.methodLink RL 131 yL_tryUndo : Cond) ∈ TB := List.mem_filter.mpr ⟨by decide +kernel, by decide +kernel⟩
theorem tb_379 : (.static yL_tryUndo : Cond) ∈ TB := List.mem_filter.mpr ⟨by decide +kernel, by decide +kernel⟩
theorem tb_380 : (.codeWith yL_tryUndo cL_tryUndo 2 (some .int) [(0, 4, 5, 35)] : Cond) ∈ TB := List.mem_filter.mpr ⟨by decide +kernel, by decide +kernel⟩
theorem tb_381 : (.methodLink RL 65 yX5_undo : Cond) ∈ TB := List.mem_filter.mpr ⟨by decide +kernel, by decide +kernel⟩
theorem tb_382 : (.instanceMethod yX5_undo : Cond) ∈ TB := List.mem_filter.mpr ⟨by decide +kernel, by decide +kernel⟩
theorem tb_383 : (.selects RX5 yX5_undo yX5_undo : Cond) ∈ TB := List.mem_filter.mpr ⟨by decide +kernel, by decide +kernel⟩
set_option maxRecDepth 100000 in
theorem tb_384 : (.code yX5_undo cX5_undo 1 (some .int) : Cond) ∈ TB := List.mem_filter.mpr ⟨List.mem_of_getElem? (i := 651) rfl, by decide +kernel⟩
theorem tb_385 : (.methodLink RX5 162 yX2_isEmpty : Cond) ∈ TB := List.mem_filter.mpr ⟨by decide +kernel, by decide +kernel⟩
theorem tb_386 : (.instanceMethod yX2_isEmpty : Cond) ∈ TB := List.mem_filter.mpr ⟨by decide +kernel, by decide +kernel⟩
theorem tb_387 : (.selects RX2 yX2_isEmpty yX2_isEmpty : Cond) ∈ TB := List.mem_filter.mpr ⟨by decide +kernel, by decide +kernel⟩
set_option maxRecDepth 100000 in
theorem tb_388 : (.code yX2_isEmpty cX2_isEmpty 1 (some .boolean) : Cond) ∈ TB := List.mem_filter.mpr ⟨List.mem_of_getElem? (i := 655) rfl, by decide +kernel⟩
theorem tb_389 : (.methodLink RX5 167 yX2_takeBack : Cond) ∈ TB := List.mem_filter.mpr ⟨by decide +kernel, by decide +kernel⟩
theorem tb_390 : (.instanceMethod yX2_takeBack : Cond) ∈ TB := List.mem_filter.mpr ⟨by decide +kernel, by decide +kernel⟩
theorem tb_391 : (.selects RX2 yX2_takeBack yX2_takeBack : Cond) ∈ TB := List.mem_filter.mpr ⟨by decide +kernel, by decide +kernel⟩
set_option maxRecDepth 100000 in
theorem tb_392 : (.code yX2_takeBack cX2_takeBack 2 (some .int) : Cond) ∈ TB := List.mem_filter.mpr ⟨List.mem_of_getElem? (i := 660) rfl, by decide +kernel⟩
theorem tb_393 : (.methodLink RX2 27 yX1_readFrom : Cond) ∈ TB := List.mem_filter.mpr ⟨by decide +kernel, by decide +kernel⟩
theorem tb_394 : (.instanceMethod yX1_readFrom : Cond) ∈ TB := List.mem_filter.mpr ⟨by decide +kernel, by decide +kernel⟩
theorem tb_395 : (.selects RX1 yX1_readFrom yX1_readFrom : Cond) ∈ TB := List.mem_filter.mpr ⟨by decide +kernel, by decide +kernel⟩
set_option maxRecDepth 100000 in
theorem tb_396 : (.code yX1_readFrom cX1_readFrom 2 none : Cond) ∈ TB := List.mem_filter.mpr ⟨List.mem_of_getElem? (i := 664) rfl, by decide +kernel⟩
theorem tb_397 : (.methodLink RL 134 yL_tryInventions : Cond) ∈ TB := List.mem_filter.mpr ⟨by decide +kernel, by decide +kernel⟩
theorem tb_398 : (.static yL_tryInventions : Cond) ∈ TB := List.mem_filter.mpr ⟨by decide +kernel, by decide +kernel⟩
theorem tb_399 : (.codeWith yL_tryInventions cL_tryInventions 3 (some .int) [(0, 5, 6, 16)] : Cond) ∈ TB := List.mem_filter.mpr ⟨by decide +kernel, by decide +kernel⟩
theorem tb_400 : (.methodLink RL 68 yX5_inventions : Cond) ∈ TB := List.mem_filter.mpr ⟨by decide +kernel, by decide +kernel⟩
theorem tb_401 : (.instanceMethod yX5_inventions : Cond) ∈ TB := List.mem_filter.mpr ⟨by decide +kernel, by decide +kernel⟩
theorem tb_402 : (.selects RX5 yX5_inventions yX5_inventions : Cond) ∈ TB := List.mem_filter.mpr ⟨by decide +kernel, by decide +kernel⟩
set_option maxRecDepth 100000 in
theorem tb_403 : (.code yX5_inventions cX5_inventions 2 (some .int) : Cond) ∈ TB := List.mem_filter.mpr ⟨List.mem_of_getElem? (i := 671) rfl, by decide +kernel⟩
theorem tb_404 : (.methodLink RX5 170 yX0_study : Cond) ∈ TB := List.mem_filter.mpr ⟨by decide +kernel, by decide +kernel⟩
theorem tb_405 : (.methodLink RL 137 yL_tryInvented : Cond) ∈ TB := List.mem_filter.mpr ⟨by decide +kernel, by decide +kernel⟩
theorem tb_406 : (.static yL_tryInvented : Cond) ∈ TB := List.mem_filter.mpr ⟨by decide +kernel, by decide +kernel⟩
theorem tb_407 : (.codeWith yL_tryInvented cL_tryInvented 4 (some .int) [(0, 6, 7, 16)] : Cond) ∈ TB := List.mem_filter.mpr ⟨by decide +kernel, by decide +kernel⟩
theorem tb_408 : (.methodLink RL 71 yX5_invented : Cond) ∈ TB := List.mem_filter.mpr ⟨by decide +kernel, by decide +kernel⟩
theorem tb_409 : (.instanceMethod yX5_invented : Cond) ∈ TB := List.mem_filter.mpr ⟨by decide +kernel, by decide +kernel⟩
theorem tb_410 : (.selects RX5 yX5_invented yX5_invented : Cond) ∈ TB := List.mem_filter.mpr ⟨by decide +kernel, by decide +kernel⟩
set_option maxRecDepth 100000 in
theorem tb_411 : (.code yX5_invented cX5_invented 3 (some .int) : Cond) ∈ TB := List.mem_filter.mpr ⟨List.mem_of_getElem? (i := 679) rfl, by decide +kernel⟩
theorem tb_412 : (.methodLink RL 140 yL_tryChoices : Cond) ∈ TB := List.mem_filter.mpr ⟨by decide +kernel, by decide +kernel⟩
theorem tb_413 : (.static yL_tryChoices : Cond) ∈ TB := List.mem_filter.mpr ⟨by decide +kernel, by decide +kernel⟩
theorem tb_414 : (.codeWith yL_tryChoices cL_tryChoices 3 (some .int) [(0, 5, 6, 16)] : Cond) ∈ TB := List.mem_filter.mpr ⟨by decide +kernel, by decide +kernel⟩
theorem tb_415 : (.methodLink RL 74 yX5_choices : Cond) ∈ TB := List.mem_filter.mpr ⟨by decide +kernel, by decide +kernel⟩
theorem tb_416 : (.instanceMethod yX5_choices : Cond) ∈ TB := List.mem_filter.mpr ⟨by decide +kernel, by decide +kernel⟩
theorem tb_417 : (.selects RX5 yX5_choices yX5_choices : Cond) ∈ TB := List.mem_filter.mpr ⟨by decide +kernel, by decide +kernel⟩
set_option maxRecDepth 100000 in
theorem tb_418 : (.code yX5_choices cX5_choices 2 (some .int) : Cond) ∈ TB := List.mem_filter.mpr ⟨List.mem_of_getElem? (i := 687) rfl, by decide +kernel⟩
theorem tb_419 : (.methodLink RL 143 yL_trySince : Cond) ∈ TB := List.mem_filter.mpr ⟨by decide +kernel, by decide +kernel⟩
theorem tb_420 : (.static yL_trySince : Cond) ∈ TB := List.mem_filter.mpr ⟨by decide +kernel, by decide +kernel⟩
theorem tb_421 : (.codeWith yL_trySince cL_trySince 4 (some .int) [(0, 6, 7, 13), (0, 6, 11, 16)] : Cond) ∈ TB := List.mem_filter.mpr ⟨by decide +kernel, by decide +kernel⟩
theorem tb_422 : (.methodLink RL 77 yX5_since : Cond) ∈ TB := List.mem_filter.mpr ⟨by decide +kernel, by decide +kernel⟩
theorem tb_423 : (.instanceMethod yX5_since : Cond) ∈ TB := List.mem_filter.mpr ⟨by decide +kernel, by decide +kernel⟩
theorem tb_424 : (.selects RX5 yX5_since yX5_since : Cond) ∈ TB := List.mem_filter.mpr ⟨by decide +kernel, by decide +kernel⟩
set_option maxRecDepth 100000 in
theorem tb_425 : (.code yX5_since cX5_since 3 (some .int) : Cond) ∈ TB := List.mem_filter.mpr ⟨List.mem_of_getElem? (i := 694) rfl, by decide +kernel⟩
theorem tb_426 : (.methodLink RX5 189 yX0_sinceWhen : Cond) ∈ TB := List.mem_filter.mpr ⟨by decide +kernel, by decide +kernel⟩
theorem tb_427 : (.instanceMethod yX0_sinceWhen : Cond) ∈ TB := List.mem_filter.mpr ⟨by decide +kernel, by decide +kernel⟩
theorem tb_428 : (.selects RX0 yX0_sinceWhen yX0_sinceWhen : Cond) ∈ TB := List.mem_filter.mpr ⟨by decide +kernel, by decide +kernel⟩
set_option maxRecDepth 100000 in
theorem tb_429 : (.code yX0_sinceWhen cX0_sinceWhen 4 (some .int) : Cond) ∈ TB := List.mem_filter.mpr ⟨List.mem_of_getElem? (i := 436) rfl, by decide +kernel⟩
theorem tb_430 : (.methodLink RL 146 yL_tryReached : Cond) ∈ TB := List.mem_filter.mpr ⟨by decide +kernel, by decide +kernel⟩
theorem tb_431 : (.static yL_tryReached : Cond) ∈ TB := List.mem_filter.mpr ⟨by decide +kernel, by decide +kernel⟩
theorem tb_432 : (.codeWith yL_tryReached cL_tryReached 4 (some .int) [(0, 6, 7, 16)] : Cond) ∈ TB := List.mem_filter.mpr ⟨by decide +kernel, by decide +kernel⟩
theorem tb_433 : (.methodLink RL 80 yX5_reached : Cond) ∈ TB := List.mem_filter.mpr ⟨by decide +kernel, by decide +kernel⟩
theorem tb_434 : (.instanceMethod yX5_reached : Cond) ∈ TB := List.mem_filter.mpr ⟨by decide +kernel, by decide +kernel⟩
theorem tb_435 : (.selects RX5 yX5_reached yX5_reached : Cond) ∈ TB := List.mem_filter.mpr ⟨by decide +kernel, by decide +kernel⟩
set_option maxRecDepth 100000 in
theorem tb_436 : (.code yX5_reached cX5_reached 3 (some .int) : Cond) ∈ TB := List.mem_filter.mpr ⟨List.mem_of_getElem? (i := 702) rfl, by decide +kernel⟩
theorem tb_437 : (.methodLink RX5 193 yX0_townInOrder : Cond) ∈ TB := List.mem_filter.mpr ⟨by decide +kernel, by decide +kernel⟩
theorem tb_438 : (.instanceMethod yX0_townInOrder : Cond) ∈ TB := List.mem_filter.mpr ⟨by decide +kernel, by decide +kernel⟩
theorem tb_439 : (.selects RX0 yX0_townInOrder yX0_townInOrder : Cond) ∈ TB := List.mem_filter.mpr ⟨by decide +kernel, by decide +kernel⟩
set_option maxRecDepth 100000 in
theorem tb_440 : (.code yX0_townInOrder cX0_townInOrder 5 (some .int) : Cond) ∈ TB := List.mem_filter.mpr ⟨List.mem_of_getElem? (i := 706) rfl, by decide +kernel⟩
theorem tb_441 : (.methodLink RX0 124 yX0_townsBefore : Cond) ∈ TB := List.mem_filter.mpr ⟨by decide +kernel, by decide +kernel⟩
theorem tb_442 : (.instanceMethod yX0_townsBefore : Cond) ∈ TB := List.mem_filter.mpr ⟨by decide +kernel, by decide +kernel⟩
theorem tb_443 : (.selects RX0 yX0_townsBefore yX0_townsBefore : Cond) ∈ TB := List.mem_filter.mpr ⟨by decide +kernel, by decide +kernel⟩
set_option maxRecDepth 100000 in
theorem tb_444 : (.code yX0_townsBefore cX0_townsBefore 4 (some .int) : Cond) ∈ TB := List.mem_filter.mpr ⟨List.mem_of_getElem? (i := 710) rfl, by decide +kernel⟩
theorem tb_445 : (.methodLink RL 149 yL_tryPassed : Cond) ∈ TB := List.mem_filter.mpr ⟨by decide +kernel, by decide +kernel⟩
theorem tb_446 : (.static yL_tryPassed : Cond) ∈ TB := List.mem_filter.mpr ⟨by decide +kernel, by decide +kernel⟩
theorem tb_447 : (.codeWith yL_tryPassed cL_tryPassed 5 (some .int) [(0, 7, 8, 13), (0, 7, 13, 16)] : Cond) ∈ TB := List.mem_filter.mpr ⟨by decide +kernel, by decide +kernel⟩
theorem tb_448 : (.methodLink RL 83 yX5_passed : Cond) ∈ TB := List.mem_filter.mpr ⟨by decide +kernel, by decide +kernel⟩
theorem tb_449 : (.instanceMethod yX5_passed : Cond) ∈ TB := List.mem_filter.mpr ⟨by decide +kernel, by decide +kernel⟩
theorem tb_450 : (.selects RX5 yX5_passed yX5_passed : Cond) ∈ TB := List.mem_filter.mpr ⟨by decide +kernel, by decide +kernel⟩
set_option maxRecDepth 100000 in
theorem tb_451 : (.code yX5_passed cX5_passed 4 (some .int) : Cond) ∈ TB := List.mem_filter.mpr ⟨List.mem_of_getElem? (i := 717) rfl, by decide +kernel⟩
theorem tb_452 : (.methodLink RX5 196 yX0_canHavePassed : Cond) ∈ TB := List.mem_filter.mpr ⟨by decide +kernel, by decide +kernel⟩
theorem tb_453 : (.instanceMethod yX0_canHavePassed : Cond) ∈ TB := List.mem_filter.mpr ⟨by decide +kernel, by decide +kernel⟩
theorem tb_454 : (.selects RX0 yX0_canHavePassed yX0_canHavePassed : Cond) ∈ TB := List.mem_filter.mpr ⟨by decide +kernel, by decide +kernel⟩
set_option maxRecDepth 100000 in
theorem tb_455 : (.code yX0_canHavePassed cX0_canHavePassed 9 (some .boolean) : Cond) ∈ TB := List.mem_filter.mpr ⟨List.mem_of_getElem? (i := 721) rfl, by decide +kernel⟩
theorem tb_456 : (.methodLink RX0 127 yX0_explainsByRoad : Cond) ∈ TB := List.mem_filter.mpr ⟨by decide +kernel, by decide +kernel⟩
theorem tb_457 : (.instanceMethod yX0_explainsByRoad : Cond) ∈ TB := List.mem_filter.mpr ⟨by decide +kernel, by decide +kernel⟩
theorem tb_458 : (.selects RX0 yX0_explainsByRoad yX0_explainsByRoad : Cond) ∈ TB := List.mem_filter.mpr ⟨by decide +kernel, by decide +kernel⟩
set_option maxRecDepth 100000 in
theorem tb_459 : (.code yX0_explainsByRoad cX0_explainsByRoad 7 (some .boolean) : Cond) ∈ TB := List.mem_filter.mpr ⟨List.mem_of_getElem? (i := 725) rfl, by decide +kernel⟩
theorem tb_460 : (.methodLink RL 152 yL_tryIfLaid : Cond) ∈ TB := List.mem_filter.mpr ⟨by decide +kernel, by decide +kernel⟩
theorem tb_461 : (.static yL_tryIfLaid : Cond) ∈ TB := List.mem_filter.mpr ⟨by decide +kernel, by decide +kernel⟩
theorem tb_462 : (.codeWith yL_tryIfLaid cL_tryIfLaid 5 (some .int) [(0, 7, 8, 13), (0, 7, 13, 16), (0, 7, 18, 35)] : Cond) ∈ TB := List.mem_filter.mpr ⟨by decide +kernel, by decide +kernel⟩
theorem tb_463 : (.methodLink RL 86 yX5_ifLaid : Cond) ∈ TB := List.mem_filter.mpr ⟨by decide +kernel, by decide +kernel⟩
theorem tb_464 : (.instanceMethod yX5_ifLaid : Cond) ∈ TB := List.mem_filter.mpr ⟨by decide +kernel, by decide +kernel⟩
theorem tb_465 : (.selects RX5 yX5_ifLaid yX5_ifLaid : Cond) ∈ TB := List.mem_filter.mpr ⟨by decide +kernel, by decide +kernel⟩
set_option maxRecDepth 100000 in
theorem tb_466 : (.code yX5_ifLaid cX5_ifLaid 4 (some .int) : Cond) ∈ TB := List.mem_filter.mpr ⟨List.mem_of_getElem? (i := 732) rfl, by decide +kernel⟩
theorem tb_467 : (.methodLink RX5 200 yX3_begin : Cond) ∈ TB := List.mem_filter.mpr ⟨by decide +kernel, by decide +kernel⟩
theorem tb_468 : (.instanceMethod yX3_begin : Cond) ∈ TB := List.mem_filter.mpr ⟨by decide +kernel, by decide +kernel⟩
theorem tb_469 : (.selects RX3 yX3_begin yX3_begin : Cond) ∈ TB := List.mem_filter.mpr ⟨by decide +kernel, by decide +kernel⟩
set_option maxRecDepth 100000 in
theorem tb_470 : (.code yX3_begin cX3_begin 2 none : Cond) ∈ TB := List.mem_filter.mpr ⟨List.mem_of_getElem? (i := 197) rfl, by decide +kernel⟩
theorem tb_471 : (.methodLink RX3 25 yX1_takeOver : Cond) ∈ TB := List.mem_filter.mpr ⟨by decide +kernel, by decide +kernel⟩
theorem tb_472 : (.instanceMethod yX1_takeOver : Cond) ∈ TB := List.mem_filter.mpr ⟨by decide +kernel, by decide +kernel⟩
theorem tb_473 : (.selects RX1 yX1_takeOver yX1_takeOver : Cond) ∈ TB := List.mem_filter.mpr ⟨by decide +kernel, by decide +kernel⟩
set_option maxRecDepth 100000 in
theorem tb_474 : (.code yX1_takeOver cX1_takeOver 2 none : Cond) ∈ TB := List.mem_filter.mpr ⟨List.mem_of_getElem? (i := 201) rfl, by decide +kernel⟩
theorem tb_475 : (.methodLink RX1 27 yX1_writeTo : Cond) ∈ TB := List.mem_filter.mpr ⟨by decide +kernel, by decide +kernel⟩
theorem tb_476 : (.methodLink RX5 203 yX3_inventionsWithRoad : Cond) ∈ TB := List.mem_filter.mpr ⟨by decide +kernel, by decide +kernel⟩
theorem tb_477 : (.instanceMethod yX3_inventionsWithRoad : Cond) ∈ TB := List.mem_filter.mpr ⟨by decide +kernel, by decide +kernel⟩
theorem tb_478 : (.selects RX3 yX3_inventionsWithRoad yX3_inventionsWithRoad : Cond) ∈ TB := List.mem_filter.mpr ⟨by decide +kernel, by decide +kernel⟩
set_option maxRecDepth 100000 in
theorem tb_479 : (.code yX3_inventionsWithRoad cX3_inventionsWithRoad 4 (some .int) : Cond) ∈ TB := List.mem_filter.mpr ⟨List.mem_of_getElem? (i := 736) rfl, by decide +kernel⟩
theorem tb_480 : (.methodLink RX3 29 yX1_join : Cond) ∈ TB := List.mem_filter.mpr ⟨by decide +kernel, by decide +kernel⟩
theorem tb_481 : (.methodLink RX3 33 yX0_allInventions : Cond) ∈ TB := List.mem_filter.mpr ⟨by decide +kernel, by decide +kernel⟩
theorem tb_482 : (.methodLink RL 155 yL_tryBestRoad : Cond) ∈ TB := List.mem_filter.mpr ⟨by decide +kernel, by decide +kernel⟩
theorem tb_483 : (.static yL_tryBestRoad : Cond) ∈ TB := List.mem_filter.mpr ⟨by decide +kernel, by decide +kernel⟩
theorem tb_484 : (.codeWith yL_tryBestRoad cL_tryBestRoad 3 (some .int) [(0, 5, 6, 16)] : Cond) ∈ TB := List.mem_filter.mpr ⟨by decide +kernel, by decide +kernel⟩
theorem tb_485 : (.methodLink RL 89 yX5_bestRoad : Cond) ∈ TB := List.mem_filter.mpr ⟨by decide +kernel, by decide +kernel⟩
theorem tb_486 : (.instanceMethod yX5_bestRoad : Cond) ∈ TB := List.mem_filter.mpr ⟨by decide +kernel, by decide +kernel⟩
theorem tb_487 : (.selects RX5 yX5_bestRoad yX5_bestRoad : Cond) ∈ TB := List.mem_filter.mpr ⟨by decide +kernel, by decide +kernel⟩
set_option maxRecDepth 100000 in
theorem tb_488 : (.code yX5_bestRoad cX5_bestRoad 2 (some .int) : Cond) ∈ TB := List.mem_filter.mpr ⟨List.mem_of_getElem? (i := 743) rfl, by decide +kernel⟩
theorem tb_489 : (.methodLink RX5 212 yX3_newRoad : Cond) ∈ TB := List.mem_filter.mpr ⟨by decide +kernel, by decide +kernel⟩
theorem tb_490 : (.instanceMethod yX3_newRoad : Cond) ∈ TB := List.mem_filter.mpr ⟨by decide +kernel, by decide +kernel⟩
theorem tb_491 : (.selects RX3 yX3_newRoad yX3_newRoad : Cond) ∈ TB := List.mem_filter.mpr ⟨by decide +kernel, by decide +kernel⟩
set_option maxRecDepth 100000 in
theorem tb_492 : (.code yX3_newRoad cX3_newRoad 7 (some .int) : Cond) ∈ TB := List.mem_filter.mpr ⟨List.mem_of_getElem? (i := 748) rfl, by decide +kernel⟩
theorem tb_493 : (.methodLink RX3 37 yX1_townCount : Cond) ∈ TB := List.mem_filter.mpr ⟨by decide +kernel, by decide +kernel⟩
theorem tb_494 : (.methodLink RX3 41 yX1_roadLength : Cond) ∈ TB := List.mem_filter.mpr ⟨by decide +kernel, by decide +kernel⟩
theorem tb_495 : (.methodLink RX3 45 yX1_cut : Cond) ∈ TB := List.mem_filter.mpr ⟨by decide +kernel, by decide +kernel⟩
theorem tb_496 : (.methodLink RL 158 yL_tryKeep : Cond) ∈ TB := List.mem_filter.mpr ⟨by decide +kernel, by decide +kernel⟩
theorem tb_497 : (.static yL_tryKeep : Cond) ∈ TB := List.mem_filter.mpr ⟨by decide +kernel, by decide +kernel⟩
theorem tb_498 : (.codeWith yL_tryKeep cL_tryKeep 3 (some .int) [(0, 5, 6, 13)] : Cond) ∈ TB := List.mem_filter.mpr ⟨by decide +kernel, by decide +kernel⟩
theorem tb_499 : (.methodLink RL 92 yX5_save : Cond) ∈ TB := List.mem_filter.mpr ⟨by decide +kernel, by decide +kernel⟩
theorem tb_500 : (.instanceMethod yX5_save : Cond) ∈ TB := List.mem_filter.mpr ⟨by decide +kernel, by decide +kernel⟩
theorem tb_501 : (.selects RX5 yX5_save yX5_save : Cond) ∈ TB := List.mem_filter.mpr ⟨by decide +kernel, by decide +kernel⟩
set_option maxRecDepth 100000 in
theorem tb_502 : (.code yX5_save cX5_save 2 (some .int) : Cond) ∈ TB := List.mem_filter.mpr ⟨List.mem_of_getElem? (i := 756) rfl, by decide +kernel⟩
theorem tb_503 : (.methodLink RX5 239 yX5_needSlot : Cond) ∈ TB := List.mem_filter.mpr ⟨by decide +kernel, by decide +kernel⟩
theorem tb_504 : (.static yX5_needSlot : Cond) ∈ TB := List.mem_filter.mpr ⟨by decide +kernel, by decide +kernel⟩
set_option maxRecDepth 100000 in
theorem tb_505 : (.code yX5_needSlot cX5_needSlot 1 none : Cond) ∈ TB := List.mem_filter.mpr ⟨List.mem_of_getElem? (i := 759) rfl, by decide +kernel⟩
theorem tb_506 : (.methodLink RX5 242 yX1_writeTo : Cond) ∈ TB := List.mem_filter.mpr ⟨by decide +kernel, by decide +kernel⟩
theorem tb_507 : (.methodLink RL 161 yL_tryBack : Cond) ∈ TB := List.mem_filter.mpr ⟨by decide +kernel, by decide +kernel⟩
theorem tb_508 : (.static yL_tryBack : Cond) ∈ TB := List.mem_filter.mpr ⟨by decide +kernel, by decide +kernel⟩
theorem tb_509 : (.codeWith yL_tryBack cL_tryBack 3 (some .int) [(0, 5, 6, 13), (0, 5, 10, 35)] : Cond) ∈ TB := List.mem_filter.mpr ⟨by decide +kernel, by decide +kernel⟩
theorem tb_510 : (.methodLink RL 95 yX5_restore : Cond) ∈ TB := List.mem_filter.mpr ⟨by decide +kernel, by decide +kernel⟩
theorem tb_511 : (.instanceMethod yX5_restore : Cond) ∈ TB := List.mem_filter.mpr ⟨by decide +kernel, by decide +kernel⟩
theorem tb_512 : (.selects RX5 yX5_restore yX5_restore : Cond) ∈ TB := List.mem_filter.mpr ⟨by decide +kernel, by decide +kernel⟩
set_option maxRecDepth 100000 in
theorem tb_513 : (.code yX5_restore cX5_restore 2 (some .int) : Cond) ∈ TB := List.mem_filter.mpr ⟨List.mem_of_getElem? (i := 768) rfl, by decide +kernel⟩
theorem tb_514 : (.methodLink RX5 248 yX1_readFrom : Cond) ∈ TB := List.mem_filter.mpr ⟨by decide +kernel, by decide +kernel⟩
theorem tb_515 : (.methodLink RX5 251 yX2_clear : Cond) ∈ TB := List.mem_filter.mpr ⟨by decide +kernel, by decide +kernel⟩
theorem tb_516 : (.instanceMethod yX2_clear : Cond) ∈ TB := List.mem_filter.mpr ⟨by decide +kernel, by decide +kernel⟩
theorem tb_517 : (.selects RX2 yX2_clear yX2_clear : Cond) ∈ TB := List.mem_filter.mpr ⟨by decide +kernel, by decide +kernel⟩
set_option maxRecDepth 100000 in
theorem tb_518 : (.code yX2_clear cX2_clear 1 none : Cond) ∈ TB := List.mem_filter.mpr ⟨List.mem_of_getElem? (i := 774) rfl, by decide +kernel⟩
theorem tb_519 : (.methodLink RL 170 yL_tryReport : Cond) ∈ TB := List.mem_filter.mpr ⟨by decide +kernel, by decide +kernel⟩
theorem tb_520 : (.static yL_tryReport : Cond) ∈ TB := List.mem_filter.mpr ⟨by decide +kernel, by decide +kernel⟩
theorem tb_521 : (.codeWith yL_tryReport cL_tryReport 5 (some .int) [(0, 7, 8, 13), (0, 7, 13, 16)] : Cond) ∈ TB := List.mem_filter.mpr ⟨by decide +kernel, by decide +kernel⟩
theorem tb_522 : (.methodLink RL 7 yX5_report : Cond) ∈ TB := List.mem_filter.mpr ⟨by decide +kernel, by decide +kernel⟩
theorem tb_523 : (.instanceMethod yX5_report : Cond) ∈ TB := List.mem_filter.mpr ⟨by decide +kernel, by decide +kernel⟩
theorem tb_524 : (.selects RX5 yX5_report yX5_report : Cond) ∈ TB := List.mem_filter.mpr ⟨by decide +kernel, by decide +kernel⟩
set_option maxRecDepth 100000 in
theorem tb_525 : (.code yX5_report cX5_report 4 (some .int) : Cond) ∈ TB := List.mem_filter.mpr ⟨List.mem_of_getElem? (i := 789) rfl, by decide +kernel⟩
theorem tb_526 : (.methodLink RX5 118 yX1_reportedYear : Cond) ∈ TB := List.mem_filter.mpr ⟨by decide +kernel, by decide +kernel⟩
theorem tb_527 : (.methodLink RL 174 yL_trySee : Cond) ∈ TB := List.mem_filter.mpr ⟨by decide +kernel, by decide +kernel⟩
theorem tb_528 : (.static yL_trySee : Cond) ∈ TB := List.mem_filter.mpr ⟨by decide +kernel, by decide +kernel⟩
theorem tb_529 : (.codeWith yL_trySee cL_trySee 6 (some .int) [(0, 9, 10, 13), (0, 9, 15, 16)] : Cond) ∈ TB := List.mem_filter.mpr ⟨by decide +kernel, by decide +kernel⟩
theorem tb_530 : (.methodLink RL 19 yX5_see : Cond) ∈ TB := List.mem_filter.mpr ⟨by decide +kernel, by decide +kernel⟩
theorem tb_531 : (.instanceMethod yX5_see : Cond) ∈ TB := List.mem_filter.mpr ⟨by decide +kernel, by decide +kernel⟩
theorem tb_532 : (.selects RX5 yX5_see yX5_see : Cond) ∈ TB := List.mem_filter.mpr ⟨by decide +kernel, by decide +kernel⟩
set_option maxRecDepth 100000 in
theorem tb_533 : (.code yX5_see cX5_see 5 (some .int) : Cond) ∈ TB := List.mem_filter.mpr ⟨List.mem_of_getElem? (i := 797) rfl, by decide +kernel⟩
theorem tb_534 : (.methodLink RX5 144 yX5_isYear : Cond) ∈ TB := List.mem_filter.mpr ⟨by decide +kernel, by decide +kernel⟩
theorem tb_535 : (.methodLink RX5 150 yX1_note : Cond) ∈ TB := List.mem_filter.mpr ⟨by decide +kernel, by decide +kernel⟩
theorem tb_536 : (.methodLink RL 178 yL_tryScript : Cond) ∈ TB := List.mem_filter.mpr ⟨by decide +kernel, by decide +kernel⟩
theorem tb_537 : (.static yL_tryScript : Cond) ∈ TB := List.mem_filter.mpr ⟨by decide +kernel, by decide +kernel⟩
theorem tb_538 : (.codeWith yL_tryScript cL_tryScript 5 (some .int) [(0, 6, 7, 16)] : Cond) ∈ TB := List.mem_filter.mpr ⟨by decide +kernel, by decide +kernel⟩
theorem tb_539 : (.methodLink RL 23 yX5_runScript : Cond) ∈ TB := List.mem_filter.mpr ⟨by decide +kernel, by decide +kernel⟩
theorem tb_540 : (.instanceMethod yX5_runScript : Cond) ∈ TB := List.mem_filter.mpr ⟨by decide +kernel, by decide +kernel⟩
theorem tb_541 : (.selects RX5 yX5_runScript yX5_runScript : Cond) ∈ TB := List.mem_filter.mpr ⟨by decide +kernel, by decide +kernel⟩
set_option maxRecDepth 100000 in
theorem tb_542 : (.code yX5_runScript cX5_runScript 7 (some .int) : Cond) ∈ TB := List.mem_filter.mpr ⟨List.mem_of_getElem? (i := 314) rfl, by decide +kernel⟩
theorem tb_543 : (.constantLong RX5 220 (1000000) : Cond) ∈ TB := List.mem_filter.mpr ⟨by decide +kernel, by decide +kernel⟩
theorem tb_544 : (.methodLink RX5 224 yX3_obeys : Cond) ∈ TB := List.mem_filter.mpr ⟨by decide +kernel, by decide +kernel⟩
theorem tb_545 : (.instanceMethod yX3_obeys : Cond) ∈ TB := List.mem_filter.mpr ⟨by decide +kernel, by decide +kernel⟩
theorem tb_546 : (.selects RX3 yX3_obeys yX3_obeys : Cond) ∈ TB := List.mem_filter.mpr ⟨by decide +kernel, by decide +kernel⟩
set_option maxRecDepth 100000 in
theorem tb_547 : (.code yX3_obeys cX3_obeys 5 (some .boolean) : Cond) ∈ TB := List.mem_filter.mpr ⟨List.mem_of_getElem? (i := 388) rfl, by decide +kernel⟩
theorem tb_548 : (.constant RX3 75 (100000) : Cond) ∈ TB := List.mem_filter.mpr ⟨by decide +kernel, by decide +kernel⟩
theorem tb_549 : (.methodLink RX3 76 yX1_addTown : Cond) ∈ TB := List.mem_filter.mpr ⟨by decide +kernel, by decide +kernel⟩
theorem tb_550 : (.methodLink RX3 71 yX1_note : Cond) ∈ TB := List.mem_filter.mpr ⟨by decide +kernel, by decide +kernel⟩
theorem tb_551 : (.methodLink RX3 68 yX1_drop : Cond) ∈ TB := List.mem_filter.mpr ⟨by decide +kernel, by decide +kernel⟩
theorem tb_552 : (.methodLink RX3 59 yX0_study : Cond) ∈ TB := List.mem_filter.mpr ⟨by decide +kernel, by decide +kernel⟩
theorem tb_553 : (.methodLink RX3 83 yX3_isUpTo : Cond) ∈ TB := List.mem_filter.mpr ⟨by decide +kernel, by decide +kernel⟩
theorem tb_554 : (.static yX3_isUpTo : Cond) ∈ TB := List.mem_filter.mpr ⟨by decide +kernel, by decide +kernel⟩
set_option maxRecDepth 100000 in
theorem tb_555 : (.code yX3_isUpTo cX3_isUpTo 2 (some .boolean) : Cond) ∈ TB := List.mem_filter.mpr ⟨List.mem_of_getElem? (i := 425) rfl, by decide +kernel⟩
theorem tb_556 : (.methodLink RX3 86 yX1_isTown : Cond) ∈ TB := List.mem_filter.mpr ⟨by decide +kernel, by decide +kernel⟩
theorem tb_557 : (.methodLink RX3 89 yX0_sinceWhen : Cond) ∈ TB := List.mem_filter.mpr ⟨by decide +kernel, by decide +kernel⟩
theorem tb_558 : (.methodLink RL 186 yL_trySimulate : Cond) ∈ TB := List.mem_filter.mpr ⟨by decide +kernel, by decide +kernel⟩
theorem tb_559 : (.static yL_trySimulate : Cond) ∈ TB := List.mem_filter.mpr ⟨by decide +kernel, by decide +kernel⟩
theorem tb_560 : (.codeWith yL_trySimulate cL_trySimulate 5 (some .int) [(0, 6, 7, 16)] : Cond) ∈ TB := List.mem_filter.mpr ⟨by decide +kernel, by decide +kernel⟩
theorem tb_561 : (.methodLink RL 27 yX5_simulate : Cond) ∈ TB := List.mem_filter.mpr ⟨by decide +kernel, by decide +kernel⟩
theorem tb_562 : (.instanceMethod yX5_simulate : Cond) ∈ TB := List.mem_filter.mpr ⟨by decide +kernel, by decide +kernel⟩
theorem tb_563 : (.selects RX5 yX5_simulate yX5_simulate : Cond) ∈ TB := List.mem_filter.mpr ⟨by decide +kernel, by decide +kernel⟩
set_option maxRecDepth 100000 in
theorem tb_564 : (.code yX5_simulate cX5_simulate 7 (some .int) : Cond) ∈ TB := List.mem_filter.mpr ⟨List.mem_of_getElem? (i := 444) rfl, by decide +kernel⟩
theorem tb_565 : (.constantLong RX5 229 (6364136223846793005) : Cond) ∈ TB := List.mem_filter.mpr ⟨by decide +kernel, by decide +kernel⟩
theorem tb_566 : (.constantLong RX5 231 (1442695040888963407) : Cond) ∈ TB := List.mem_filter.mpr ⟨by decide +kernel, by decide +kernel⟩
theorem tb_567 : (.methodLink RX5 233 yX3_turn : Cond) ∈ TB := List.mem_filter.mpr ⟨by decide +kernel, by decide +kernel⟩
theorem tb_568 : (.instanceMethod yX3_turn : Cond) ∈ TB := List.mem_filter.mpr ⟨by decide +kernel, by decide +kernel⟩
theorem tb_569 : (.selects RX3 yX3_turn yX3_turn : Cond) ∈ TB := List.mem_filter.mpr ⟨by decide +kernel, by decide +kernel⟩
set_option maxRecDepth 100000 in
theorem tb_570 : (.code yX3_turn cX3_turn 6 none : Cond) ∈ TB := List.mem_filter.mpr ⟨List.mem_of_getElem? (i := 451) rfl, by decide +kernel⟩
theorem tb_571 : (.methodLink RX5 236 yX3_summary : Cond) ∈ TB := List.mem_filter.mpr ⟨by decide +kernel, by decide +kernel⟩
theorem tb_572 : (.instanceMethod yX3_summary : Cond) ∈ TB := List.mem_filter.mpr ⟨by decide +kernel, by decide +kernel⟩
theorem tb_573 : (.selects RX3 yX3_summary yX3_summary : Cond) ∈ TB := List.mem_filter.mpr ⟨by decide +kernel, by decide +kernel⟩
set_option maxRecDepth 100000 in
theorem tb_574 : (.code yX3_summary cX3_summary 1 (some .int) : Cond) ∈ TB := List.mem_filter.mpr ⟨List.mem_of_getElem? (i := 455) rfl, by decide +kernel⟩
theorem tb_575 : (.methodLink RX3 93 yX1_contradictions : Cond) ∈ TB := List.mem_filter.mpr ⟨by decide +kernel, by decide +kernel⟩
theorem tb_576 : (.methodLink RX3 96 yX1_roadCount : Cond) ∈ TB := List.mem_filter.mpr ⟨by decide +kernel, by decide +kernel⟩
theorem tb_577 : (.methodLink RL 190 yX5_errorPosition : Cond) ∈ TB := List.mem_filter.mpr ⟨by decide +kernel, by decide +kernel⟩
theorem tb_578 : (.instanceMethod yX5_errorPosition : Cond) ∈ TB := List.mem_filter.mpr ⟨by decide +kernel, by decide +kernel⟩
theorem tb_579 : (.selects RX5 yX5_errorPosition yX5_errorPosition : Cond) ∈ TB := List.mem_filter.mpr ⟨by decide +kernel, by decide +kernel⟩
set_option maxRecDepth 100000 in
theorem tb_580 : (.code yX5_errorPosition cX5_errorPosition 1 (some .int) : Cond) ∈ TB := List.mem_filter.mpr ⟨List.mem_of_getElem? (i := 806) rfl, by decide +kernel⟩
theorem tb_581 : (.methodLink RL 205 yL_act : Cond) ∈ TB := List.mem_filter.mpr ⟨by decide +kernel, by decide +kernel⟩
theorem tb_582 : (.static yL_act : Cond) ∈ TB := List.mem_filter.mpr ⟨by decide +kernel, by decide +kernel⟩
set_option maxRecDepth 100000 in
theorem tb_583 : (.code yL_act cL_act 6 (some .int) : Cond) ∈ TB := List.mem_filter.mpr ⟨List.mem_of_getElem? (i := 815) rfl, by decide +kernel⟩
theorem tb_584 : (.methodLink RL 193 yX5_clearText : Cond) ∈ TB := List.mem_filter.mpr ⟨by decide +kernel, by decide +kernel⟩
theorem tb_585 : (.instanceMethod yX5_clearText : Cond) ∈ TB := List.mem_filter.mpr ⟨by decide +kernel, by decide +kernel⟩
theorem tb_586 : (.selects RX5 yX5_clearText yX5_clearText : Cond) ∈ TB := List.mem_filter.mpr ⟨by decide +kernel, by decide +kernel⟩
set_option maxRecDepth 100000 in
theorem tb_587 : (.code yX5_clearText cX5_clearText 1 (some .int) : Cond) ∈ TB := List.mem_filter.mpr ⟨List.mem_of_getElem? (i := 819) rfl, by decide +kernel⟩
theorem tb_588 : (.methodLink RX5 73 yX4_empty : Cond) ∈ TB := List.mem_filter.mpr ⟨by decide +kernel, by decide +kernel⟩
theorem tb_589 : (.instanceMethod yX4_empty : Cond) ∈ TB := List.mem_filter.mpr ⟨by decide +kernel, by decide +kernel⟩
theorem tb_590 : (.selects RX4 yX4_empty yX4_empty : Cond) ∈ TB := List.mem_filter.mpr ⟨by decide +kernel, by decide +kernel⟩
set_option maxRecDepth 100000 in
theorem tb_591 : (.code yX4_empty cX4_empty 2 (some .int) : Cond) ∈ TB := List.mem_filter.mpr ⟨List.mem_of_getElem? (i := 823) rfl, by decide +kernel⟩
theorem tb_592 : (.methodLink RL 208 yL_alike : Cond) ∈ TB := List.mem_filter.mpr ⟨by decide +kernel, by decide +kernel⟩
theorem tb_593 : (.static yL_alike : Cond) ∈ TB := List.mem_filter.mpr ⟨by decide +kernel, by decide +kernel⟩
set_option maxRecDepth 100000 in
theorem tb_594 : (.code yL_alike cL_alike 6 (some .boolean) : Cond) ∈ TB := List.mem_filter.mpr ⟨List.mem_of_getElem? (i := 809) rfl, by decide +kernel⟩
theorem tb_595 : (.methodLink RL 212 yL_holds : Cond) ∈ TB := List.mem_filter.mpr ⟨by decide +kernel, by decide +kernel⟩
theorem tb_596 : (.static yL_holds : Cond) ∈ TB := List.mem_filter.mpr ⟨by decide +kernel, by decide +kernel⟩
set_option maxRecDepth 100000 in
theorem tb_597 : (.code yL_holds cL_holds 19 (some .boolean) : Cond) ∈ TB := List.mem_filter.mpr ⟨List.mem_of_getElem? (i := 812) rfl, by decide +kernel⟩
theorem tb_598 : (.methodLink RL 221 yX5_dearest : Cond) ∈ TB := List.mem_filter.mpr ⟨by decide +kernel, by decide +kernel⟩
theorem tb_599 : (.instanceMethod yX5_dearest : Cond) ∈ TB := List.mem_filter.mpr ⟨by decide +kernel, by decide +kernel⟩
theorem tb_600 : (.selects RX5 yX5_dearest yX5_dearest : Cond) ∈ TB := List.mem_filter.mpr ⟨by decide +kernel, by decide +kernel⟩
set_option maxRecDepth 100000 in
theorem tb_601 : (.code yX5_dearest cX5_dearest 1 (some .int) : Cond) ∈ TB := List.mem_filter.mpr ⟨List.mem_of_getElem? (i := 193) rfl, by decide +kernel⟩
theorem tb_602 : (.methodLink RX5 215 yX3_costliestReport : Cond) ∈ TB := List.mem_filter.mpr ⟨by decide +kernel, by decide +kernel⟩
theorem tb_603 : (.instanceMethod yX3_costliestReport : Cond) ∈ TB := List.mem_filter.mpr ⟨by decide +kernel, by decide +kernel⟩
theorem tb_604 : (.selects RX3 yX3_costliestReport yX3_costliestReport : Cond) ∈ TB := List.mem_filter.mpr ⟨by decide +kernel, by decide +kernel⟩
set_option maxRecDepth 100000 in
theorem tb_605 : (.code yX3_costliestReport cX3_costliestReport 6 (some .int) : Cond) ∈ TB := List.mem_filter.mpr ⟨List.mem_of_getElem? (i := 212) rfl, by decide +kernel⟩
theorem tb_606 : (.methodLink RX3 48 yX1_isReported : Cond) ∈ TB := List.mem_filter.mpr ⟨by decide +kernel, by decide +kernel⟩
theorem tb_607 : (.methodLink RX3 52 yX3_costOfReport : Cond) ∈ TB := List.mem_filter.mpr ⟨by decide +kernel, by decide +kernel⟩
theorem tb_608 : (.instanceMethod yX3_costOfReport : Cond) ∈ TB := List.mem_filter.mpr ⟨by decide +kernel, by decide +kernel⟩
theorem tb_609 : (.selects RX3 yX3_costOfReport yX3_costOfReport : Cond) ∈ TB := List.mem_filter.mpr ⟨by decide +kernel, by decide +kernel⟩
set_option maxRecDepth 100000 in
theorem tb_610 : (.code yX3_costOfReport cX3_costOfReport 7 (some .int) : Cond) ∈ TB := List.mem_filter.mpr ⟨List.mem_of_getElem? (i := 235) rfl, by decide +kernel⟩
theorem tb_611 : (.methodLink RX3 63 Lib.Math.max.name : Cond) ∈ TB := List.mem_filter.mpr ⟨by decide +kernel, by decide +kernel⟩
theorem tb_612 : (.methodLink RX3 55 yX1_reportedYear : Cond) ∈ TB := List.mem_filter.mpr ⟨by decide +kernel, by decide +kernel⟩
theorem inT_X0 : ∀ w ∈ u_ws RX0 TX0 16, w ∈ TB := by decide +kernel
theorem inT_X1 : ∀ w ∈ u_ws RX1 TX1 1, w ∈ TB := by decide +kernel
theorem inT_X2 : ∀ w ∈ u_ws RX2 TX2 3, w ∈ TB := by decide +kernel
theorem inT_X3 : ∀ w ∈ u_ws RX3 TX3 2, w ∈ TB := by decide +kernel
theorem inT_X4 : ∀ w ∈ u_ws RX4 TX4 2, w ∈ TB := by decide +kernel
theorem inT_X5 : ∀ w ∈ u_ws RX5 TX5 7, w ∈ TB := by decide +kernel
theorem inT_X6 : ∀ w ∈ u_ws RX6 TX6 0, w ∈ TB := by decide +kernel
def wsX0_init : List Cond := .code yX0_init cX0_init 1 none :: TB
def wsX0_allInventions : List Cond := .code yX0_allInventions cX0_allInventions 4 (some .int) :: TB
def wsX0_inventedTraits : List Cond := .code yX0_inventedTraits cX0_inventedTraits 4 (some .int) :: TB
def wsX0_study : List Cond := .code yX0_study cX0_study 3 (some .int) :: TB
def wsX0_takeReports : List Cond := .code yX0_takeReports cX0_takeReports 5 (some .boolean) :: TB
def wsX0_takeRoads : List Cond := .code yX0_takeRoads cX0_takeRoads 5 none :: TB
def wsX0_explainAlone : List Cond := .code yX0_explainAlone cX0_explainAlone 2 none :: TB
def wsX0_weighSets : List Cond := .code yX0_weighSets cX0_weighSets 4 none :: TB
def wsX0_weigh : List Cond := .code yX0_weigh cX0_weigh 3 none :: TB
def wsX0_inventIn : List Cond := .code yX0_inventIn cX0_inventIn 3 none :: TB
def wsX0_spread : List Cond := .code yX0_spread cX0_spread 6 none :: TB
def wsX0_passOn : List Cond := .code yX0_passOn cX0_passOn 5 (some .boolean) :: TB
def wsX0_knownInTime : List Cond := .code yX0_knownInTime cX0_knownInTime 3 (some .int) :: TB
def wsX0_sinceWhen : List Cond := .code yX0_sinceWhen cX0_sinceWhen 4 (some .int) :: TB
def wsX0_townInOrder : List Cond := .code yX0_townInOrder cX0_townInOrder 5 (some .int) :: TB
def wsX0_townsBefore : List Cond := .code yX0_townsBefore cX0_townsBefore 4 (some .int) :: TB
def wsX0_canHavePassed : List Cond := .code yX0_canHavePassed cX0_canHavePassed 9 (some .boolean) :: TB
def wsX0_explainsByRoad : List Cond := .code yX0_explainsByRoad cX0_explainsByRoad 7 (some .boolean) :: TB
def wsX1_init : List Cond := .code yX1_init cX1_init 1 none :: TB
def wsX1_writeTo : List Cond := .code yX1_writeTo cX1_writeTo 2 none :: TB
def wsX1_readFrom : List Cond := .code yX1_readFrom cX1_readFrom 2 none :: TB
def wsX1_takeOver : List Cond := .code yX1_takeOver cX1_takeOver 2 none :: TB
def wsX1_townCount : List Cond := .code yX1_townCount cX1_townCount 1 (some .int) :: TB
def wsX1_isTown : List Cond := .code yX1_isTown cX1_isTown 2 (some .boolean) :: TB
def wsX1_roadLength : List Cond := .code yX1_roadLength cX1_roadLength 3 (some .int) :: TB
def wsX1_roadCount : List Cond := .code yX1_roadCount cX1_roadCount 4 (some .int) :: TB
def wsX1_roadsAt : List Cond := .code yX1_roadsAt cX1_roadsAt 4 (some .int) :: TB
def wsX1_townBeside : List Cond := .code yX1_townBeside cX1_townBeside 5 (some .int) :: TB
def wsX1_reportedYear : List Cond := .code yX1_reportedYear cX1_reportedYear 4 (some .int) :: TB
def wsX1_isReported : List Cond := .code yX1_isReported cX1_isReported 3 (some .boolean) :: TB
def wsX1_isContradicted : List Cond := .code yX1_isContradicted cX1_isContradicted 4 (some .boolean) :: TB
def wsX1_reportedPairs : List Cond := .code yX1_reportedPairs cX1_reportedPairs 4 (some .int) :: TB
def wsX1_contradictions : List Cond := .code yX1_contradictions cX1_contradictions 4 (some .int) :: TB
def wsX1_canJoin : List Cond := .code yX1_canJoin cX1_canJoin 4 (some .boolean) :: TB
def wsX1_addTown : List Cond := .code yX1_addTown cX1_addTown 2 (some .int) :: TB
def wsX1_join : List Cond := .code yX1_join cX1_join 4 (some .boolean) :: TB
def wsX1_cut : List Cond := .code yX1_cut cX1_cut 4 (some .int) :: TB
def wsX1_setRoad : List Cond := .code yX1_setRoad cX1_setRoad 4 none :: TB
def wsX1_note : List Cond := .code yX1_note cX1_note 8 (some .int) :: TB
def wsX1_drop : List Cond := .code yX1_drop cX1_drop 4 (some .int) :: TB
def wsX2_init : List Cond := .code yX2_init cX2_init 1 none :: TB
def wsX2_isEmpty : List Cond := .code yX2_isEmpty cX2_isEmpty 1 (some .boolean) :: TB
def wsX2_clear : List Cond := .code yX2_clear cX2_clear 1 none :: TB
def wsX2_remember : List Cond := .code yX2_remember cX2_remember 2 none :: TB
def wsX2_takeBack : List Cond := .code yX2_takeBack cX2_takeBack 2 (some .int) :: TB
def wsX3_init : List Cond := .code yX3_init cX3_init 1 none :: TB
def wsX3_begin : List Cond := .code yX3_begin cX3_begin 2 none :: TB
def wsX3_inventionsWithRoad : List Cond := .code yX3_inventionsWithRoad cX3_inventionsWithRoad 4 (some .int) :: TB
def wsX3_newRoad : List Cond := .code yX3_newRoad cX3_newRoad 7 (some .int) :: TB
def wsX3_costliestReport : List Cond := .code yX3_costliestReport cX3_costliestReport 6 (some .int) :: TB
def wsX3_costOfReport : List Cond := .code yX3_costOfReport cX3_costOfReport 7 (some .int) :: TB
def wsX3_obeys : List Cond := .code yX3_obeys cX3_obeys 5 (some .boolean) :: TB
def wsX3_isUpTo : List Cond := .code yX3_isUpTo cX3_isUpTo 2 (some .boolean) :: TB
def wsX3_turn : List Cond := .code yX3_turn cX3_turn 6 none :: TB
def wsX3_summary : List Cond := .code yX3_summary cX3_summary 1 (some .int) :: TB
def wsX4_init : List Cond := .code yX4_init cX4_init 1 none :: TB
def wsX4_isFull : List Cond := .code yX4_isFull cX4_isFull 1 (some .boolean) :: TB
def wsX4_add : List Cond := .code yX4_add cX4_add 2 (some .int) :: TB
def wsX4_empty : List Cond := .code yX4_empty cX4_empty 2 (some .int) :: TB
def wsX4_firstError : List Cond := .code yX4_firstError cX4_firstError 3 (some .int) :: TB
def wsX4_awaitedBehind : List Cond := .code yX4_awaitedBehind cX4_awaitedBehind 3 (some .int) :: TB
def wsX4_noteIn : List Cond := .code yX4_noteIn cX4_noteIn 8 (some .int) :: TB
def wsX4_signAt : List Cond := .code yX4_signAt cX4_signAt 2 (some .int) :: TB
def wsX5_init : List Cond := .code yX5_init cX5_init 1 none :: TB
def wsX5_append : List Cond := .code yX5_append cX5_append 2 (some .int) :: TB
def wsX5_clearText : List Cond := .code yX5_clearText cX5_clearText 1 (some .int) :: TB
def wsX5_errorPosition : List Cond := .code yX5_errorPosition cX5_errorPosition 1 (some .int) :: TB
def wsX5_about : List Cond := .code yX5_about cX5_about 2 (some .int) :: TB
def wsX5_road : List Cond := .code yX5_road cX5_road 3 (some .int) :: TB
def wsX5_neighbor : List Cond := .code yX5_neighbor cX5_neighbor 3 (some .int) :: TB
def wsX5_report : List Cond := .code yX5_report cX5_report 4 (some .int) :: TB
def wsX5_found : List Cond := .code yX5_found cX5_found 1 (some .int) :: TB
def wsX5_lay : List Cond := .code yX5_lay cX5_lay 4 (some .int) :: TB
def wsX5_tear : List Cond := .code yX5_tear cX5_tear 3 (some .int) :: TB
def wsX5_see : List Cond := .code yX5_see cX5_see 5 (some .int) :: TB
def wsX5_seeAll : List Cond := .code yX5_seeAll cX5_seeAll 1 (some .int) :: TB
def wsX5_forget : List Cond := .code yX5_forget cX5_forget 3 (some .int) :: TB
def wsX5_undo : List Cond := .code yX5_undo cX5_undo 1 (some .int) :: TB
def wsX5_inventions : List Cond := .code yX5_inventions cX5_inventions 2 (some .int) :: TB
def wsX5_invented : List Cond := .code yX5_invented cX5_invented 3 (some .int) :: TB
def wsX5_choices : List Cond := .code yX5_choices cX5_choices 2 (some .int) :: TB
def wsX5_since : List Cond := .code yX5_since cX5_since 3 (some .int) :: TB
def wsX5_reached : List Cond := .code yX5_reached cX5_reached 3 (some .int) :: TB
def wsX5_passed : List Cond := .code yX5_passed cX5_passed 4 (some .int) :: TB
def wsX5_ifLaid : List Cond := .code yX5_ifLaid cX5_ifLaid 4 (some .int) :: TB
def wsX5_bestRoad : List Cond := .code yX5_bestRoad cX5_bestRoad 2 (some .int) :: TB
def wsX5_dearest : List Cond := .code yX5_dearest cX5_dearest 1 (some .int) :: TB
def wsX5_runScript : List Cond := .code yX5_runScript cX5_runScript 7 (some .int) :: TB
def wsX5_simulate : List Cond := .code yX5_simulate cX5_simulate 7 (some .int) :: TB
def wsX5_save : List Cond := .code yX5_save cX5_save 2 (some .int) :: TB
def wsX5_restore : List Cond := .code yX5_restore cX5_restore 2 (some .int) :: TB
def wsX5_needTown : List Cond := .code yX5_needTown cX5_needTown 2 none :: TB
def wsX5_needPossibleRoad : List Cond := .code yX5_needPossibleRoad cX5_needPossibleRoad 4 none :: TB
def wsX5_needTrait : List Cond := .code yX5_needTrait cX5_needTrait 1 none :: TB
def wsX5_needCount : List Cond := .code yX5_needCount cX5_needCount 1 none :: TB
def wsX5_needSlot : List Cond := .code yX5_needSlot cX5_needSlot 1 none :: TB
def wsX5_isTrait : List Cond := .code yX5_isTrait cX5_isTrait 1 (some .boolean) :: TB
def wsX5_isYear : List Cond := .code yX5_isYear cX5_isYear 1 (some .boolean) :: TB
def wsX5_isLength : List Cond := .code yX5_isLength cX5_isLength 1 (some .boolean) :: TB
def wsJ6_bitCount_0f7a4 : List Cond := .code yJ6_bitCount_0f7a4 cJ6_bitCount_0f7a4 1 (some .int) :: TB
def wsJ9_max_7cf53 : List Cond := .code yJ9_max_7cf53 cJ9_max_7cf53 2 (some .int) :: TB
def wsJ9_min_7cf53 : List Cond := .code yJ9_min_7cf53 cJ9_min_7cf53 2 (some .int) :: TB
def wsJ7_fill_53178 : List Cond := .code yJ7_fill_53178 cJ7_fill_53178 4 none :: TB
def wsL_tryReport : List Cond := .codeWith yL_tryReport cL_tryReport 5 (some .int) [(0, 7, 8, 13), (0, 7, 13, 16)] :: TB
def wsL_trySee : List Cond := .codeWith yL_trySee cL_trySee 6 (some .int) [(0, 9, 10, 13), (0, 9, 15, 16)] :: TB
def wsL_tryScript : List Cond := .codeWith yL_tryScript cL_tryScript 5 (some .int) [(0, 6, 7, 16)] :: TB
def wsL_trySimulate : List Cond := .codeWith yL_trySimulate cL_trySimulate 5 (some .int) [(0, 6, 7, 16)] :: TB
def wsL_tryAppend : List Cond := .codeWith yL_tryAppend cL_tryAppend 3 (some .int) [(0, 5, 6, 16), (0, 5, 10, 35)] :: TB
def wsL_tryAbout : List Cond := .codeWith yL_tryAbout cL_tryAbout 3 (some .int) [(0, 5, 6, 16)] :: TB
def wsL_tryRoad : List Cond := .codeWith yL_tryRoad cL_tryRoad 4 (some .int) [(0, 6, 7, 13)] :: TB
def wsL_tryNeighbor : List Cond := .codeWith yL_tryNeighbor cL_tryNeighbor 4 (some .int) [(0, 6, 7, 13), (0, 6, 11, 16)] :: TB
def wsL_tryFound : List Cond := .codeWith yL_tryFound cL_tryFound 2 (some .int) [(0, 4, 5, 35)] :: TB
def wsL_tryLay : List Cond := .codeWith yL_tryLay cL_tryLay 5 (some .int) [(0, 7, 8, 13), (0, 7, 13, 16), (0, 7, 18, 35)] :: TB
def wsL_tryTear : List Cond := .codeWith yL_tryTear cL_tryTear 4 (some .int) [(0, 6, 7, 13), (0, 6, 11, 35)] :: TB
def wsL_trySeeAll : List Cond := .codeWith yL_trySeeAll cL_trySeeAll 2 (some .int) [(0, 4, 5, 35)] :: TB
def wsL_tryForget : List Cond := .codeWith yL_tryForget cL_tryForget 4 (some .int) [(0, 6, 7, 13), (0, 6, 11, 16)] :: TB
def wsL_tryUndo : List Cond := .codeWith yL_tryUndo cL_tryUndo 2 (some .int) [(0, 4, 5, 35)] :: TB
def wsL_tryInventions : List Cond := .codeWith yL_tryInventions cL_tryInventions 3 (some .int) [(0, 5, 6, 16)] :: TB
def wsL_tryInvented : List Cond := .codeWith yL_tryInvented cL_tryInvented 4 (some .int) [(0, 6, 7, 16)] :: TB
def wsL_tryChoices : List Cond := .codeWith yL_tryChoices cL_tryChoices 3 (some .int) [(0, 5, 6, 16)] :: TB
def wsL_trySince : List Cond := .codeWith yL_trySince cL_trySince 4 (some .int) [(0, 6, 7, 13), (0, 6, 11, 16)] :: TB
def wsL_tryReached : List Cond := .codeWith yL_tryReached cL_tryReached 4 (some .int) [(0, 6, 7, 16)] :: TB
def wsL_tryPassed : List Cond := .codeWith yL_tryPassed cL_tryPassed 5 (some .int) [(0, 7, 8, 13), (0, 7, 13, 16)] :: TB
def wsL_tryIfLaid : List Cond := .codeWith yL_tryIfLaid cL_tryIfLaid 5 (some .int) [(0, 7, 8, 13), (0, 7, 13, 16), (0, 7, 18, 35)] :: TB
def wsL_tryBestRoad : List Cond := .codeWith yL_tryBestRoad cL_tryBestRoad 3 (some .int) [(0, 5, 6, 16)] :: TB
def wsL_tryKeep : List Cond := .codeWith yL_tryKeep cL_tryKeep 3 (some .int) [(0, 5, 6, 13)] :: TB
def wsL_tryBack : List Cond := .codeWith yL_tryBack cL_tryBack 3 (some .int) [(0, 5, 6, 13), (0, 5, 10, 35)] :: TB
def wsL_call : List Cond := .code yL_call cL_call 5 (some .int) :: TB
def wsL_cell : List Cond := .code yL_cell cL_cell 2 (some .int) :: TB
def wsL_refuses : List Cond := .code yL_refuses cL_refuses 5 (some .boolean) :: TB
def wsL_alike : List Cond := .code yL_alike cL_alike 6 (some .boolean) :: TB
def wsL_holds : List Cond := .code yL_holds cL_holds 19 (some .boolean) :: TB
def wsL_act : List Cond := .code yL_act cL_act 6 (some .int) :: TB
