theorem gd_LA_law_338 : (decode code 338 = .ok (.iload_n 3, 1)) ∧ (decode code 339 = .ok (.iconst 1, 1)) ∧ (decode code 340 = .ok (.iadd, 1)) ∧ (decode code 341 = .ok (.iaload, 1)) ∧ (decode code 342 = .ok (.aload_n 0, 1)) ∧ (decode code 343 = .ok (.iload_n 3, 1)) ∧ (decode code 344 = .ok (.iconst 2, 1)) ∧ (decode code 345 = .ok (.iadd, 1)) ∧ (decode code 346 = .ok (.iaload, 1)) ∧ (decode code 347 = .ok (.ifCond .eq 7, 3)) := by decide +kernel
theorem d_LA_law_338 : decode code 338 = .ok (.iload_n 3, 1) := gd_LA_law_338.1
theorem d_LA_law_339 : decode code 339 = .ok (.iconst 1, 1) := gd_LA_law_338.2.1
theorem d_LA_law_340 : decode code 340 = .ok (.iadd, 1) := gd_LA_law_338.2.2.1
theorem d_LA_law_341 : decode code 341 = .ok (.iaload, 1) := gd_LA_law_338.2.2.2.1
theorem d_LA_law_342 : decode code 342 = .ok (.aload_n 0, 1) := gd_LA_law_338.2.2.2.2.1
theorem d_LA_law_343 : decode code 343 = .ok (.iload_n 3, 1) := gd_LA_law_338.2.2.2.2.2.1
theorem d_LA_law_344 : decode code 344 = .ok (.iconst 2, 1) := gd_LA_law_338.2.2.2.2.2.2.1
theorem d_LA_law_345 : decode code 345 = .ok (.iadd, 1) := gd_LA_law_338.2.2.2.2.2.2.2.1
theorem d_LA_law_346 : decode code 346 = .ok (.iaload, 1) := gd_LA_law_338.2.2.2.2.2.2.2.2.1
theorem d_LA_law_347 : decode code 347 = .ok (.ifCond .eq 7, 3) := gd_LA_law_338.2.2.2.2.2.2.2.2.2
theorem gd_LA_law_354 : (decode code 354 = .ok (.iconst 0, 1)) ∧ (decode code 355 = .ok (.invokevirtual 40, 3)) ∧ (decode code 358 = .ok (.pop, 1)) ∧ (decode code 359 = .ok (.goto 550, 3)) ∧ (decode code 327 = .ok (.iconst 1, 1)) ∧ (decode code 328 = .ok (.goto 4, 3)) ∧ (decode code 350 = .ok (.iconst 1, 1)) ∧ (decode code 351 = .ok (.goto 4, 3)) ∧ (decode code 362 = .ok (.aload_n 1, 1)) ∧ (decode code 363 = .ok (.aload_n 0, 1)) := by decide +kernel
theorem d_LA_law_354 : decode code 354 = .ok (.iconst 0, 1) := gd_LA_law_354.1
theorem d_LA_law_355 : decode code 355 = .ok (.invokevirtual 40, 3) := gd_LA_law_354.2.1
theorem d_LA_law_358 : decode code 358 = .ok (.pop, 1) := gd_LA_law_354.2.2.1
theorem d_LA_law_359 : decode code 359 = .ok (.goto 550, 3) := gd_LA_law_354.2.2.2.1
theorem d_LA_law_327 : decode code 327 = .ok (.iconst 1, 1) := gd_LA_law_354.2.2.2.2.1
theorem d_LA_law_328 : decode code 328 = .ok (.goto 4, 3) := gd_LA_law_354.2.2.2.2.2.1
theorem d_LA_law_350 : decode code 350 = .ok (.iconst 1, 1) := gd_LA_law_354.2.2.2.2.2.2.1
theorem d_LA_law_351 : decode code 351 = .ok (.goto 4, 3) := gd_LA_law_354.2.2.2.2.2.2.2.1
theorem d_LA_law_362 : decode code 362 = .ok (.aload_n 1, 1) := gd_LA_law_354.2.2.2.2.2.2.2.2.1
theorem d_LA_law_363 : decode code 363 = .ok (.aload_n 0, 1) := gd_LA_law_354.2.2.2.2.2.2.2.2.2
theorem gd_LA_law_364 : (decode code 364 = .ok (.iload_n 3, 1)) ∧ (decode code 365 = .ok (.iconst 1, 1)) ∧ (decode code 366 = .ok (.iadd, 1)) ∧ (decode code 367 = .ok (.iaload, 1)) ∧ (decode code 368 = .ok (.aload_n 0, 1)) ∧ (decode code 369 = .ok (.iload_n 3, 1)) ∧ (decode code 370 = .ok (.iconst 2, 1)) ∧ (decode code 371 = .ok (.iadd, 1)) ∧ (decode code 372 = .ok (.iaload, 1)) ∧ (decode code 373 = .ok (.aload_n 0, 1)) := by decide +kernel
theorem d_LA_law_364 : decode code 364 = .ok (.iload_n 3, 1) := gd_LA_law_364.1
theorem d_LA_law_365 : decode code 365 = .ok (.iconst 1, 1) := gd_LA_law_364.2.1
theorem d_LA_law_366 : decode code 366 = .ok (.iadd, 1) := gd_LA_law_364.2.2.1
theorem d_LA_law_367 : decode code 367 = .ok (.iaload, 1) := gd_LA_law_364.2.2.2.1
theorem d_LA_law_368 : decode code 368 = .ok (.aload_n 0, 1) := gd_LA_law_364.2.2.2.2.1
theorem d_LA_law_369 : decode code 369 = .ok (.iload_n 3, 1) := gd_LA_law_364.2.2.2.2.2.1
theorem d_LA_law_370 : decode code 370 = .ok (.iconst 2, 1) := gd_LA_law_364.2.2.2.2.2.2.1
theorem d_LA_law_371 : decode code 371 = .ok (.iadd, 1) := gd_LA_law_364.2.2.2.2.2.2.2.1
theorem d_LA_law_372 : decode code 372 = .ok (.iaload, 1) := gd_LA_law_364.2.2.2.2.2.2.2.2.1
theorem d_LA_law_373 : decode code 373 = .ok (.aload_n 0, 1) := gd_LA_law_364.2.2.2.2.2.2.2.2.2
theorem gd_LA_law_374 : (decode code 374 = .ok (.iload_n 3, 1)) ∧ (decode code 375 = .ok (.iconst 3, 1)) ∧ (decode code 376 = .ok (.iadd, 1)) ∧ (decode code 377 = .ok (.iaload, 1)) ∧ (decode code 378 = .ok (.invokevirtual 41, 3)) ∧ (decode code 381 = .ok (.pop, 1)) ∧ (decode code 382 = .ok (.aload_n 2, 1)) ∧ (decode code 383 = .ok (.aload_n 0, 1)) ∧ (decode code 384 = .ok (.iload_n 3, 1)) ∧ (decode code 385 = .ok (.iconst 1, 1)) := by decide +kernel
theorem d_LA_law_374 : decode code 374 = .ok (.iload_n 3, 1) := gd_LA_law_374.1
theorem d_LA_law_375 : decode code 375 = .ok (.iconst 3, 1) := gd_LA_law_374.2.1
theorem d_LA_law_376 : decode code 376 = .ok (.iadd, 1) := gd_LA_law_374.2.2.1
theorem d_LA_law_377 : decode code 377 = .ok (.iaload, 1) := gd_LA_law_374.2.2.2.1
theorem d_LA_law_378 : decode code 378 = .ok (.invokevirtual 41, 3) := gd_LA_law_374.2.2.2.2.1
theorem d_LA_law_381 : decode code 381 = .ok (.pop, 1) := gd_LA_law_374.2.2.2.2.2.1
theorem d_LA_law_382 : decode code 382 = .ok (.aload_n 2, 1) := gd_LA_law_374.2.2.2.2.2.2.1
theorem d_LA_law_383 : decode code 383 = .ok (.aload_n 0, 1) := gd_LA_law_374.2.2.2.2.2.2.2.1
theorem d_LA_law_384 : decode code 384 = .ok (.iload_n 3, 1) := gd_LA_law_374.2.2.2.2.2.2.2.2.1
theorem d_LA_law_385 : decode code 385 = .ok (.iconst 1, 1) := gd_LA_law_374.2.2.2.2.2.2.2.2.2
theorem gd_LA_law_386 : (decode code 386 = .ok (.iadd, 1)) ∧ (decode code 387 = .ok (.iaload, 1)) ∧ (decode code 388 = .ok (.aload_n 0, 1)) ∧ (decode code 389 = .ok (.iload_n 3, 1)) ∧ (decode code 390 = .ok (.iconst 2, 1)) ∧ (decode code 391 = .ok (.iadd, 1)) ∧ (decode code 392 = .ok (.iaload, 1)) ∧ (decode code 393 = .ok (.aload_n 0, 1)) ∧ (decode code 394 = .ok (.iload_n 3, 1)) ∧ (decode code 395 = .ok (.iconst 3, 1)) := by decide +kernel
theorem d_LA_law_386 : decode code 386 = .ok (.iadd, 1) := gd_LA_law_386.1
theorem d_LA_law_387 : decode code 387 = .ok (.iaload, 1) := gd_LA_law_386.2.1
theorem d_LA_law_388 : decode code 388 = .ok (.aload_n 0, 1) := gd_LA_law_386.2.2.1
theorem d_LA_law_389 : decode code 389 = .ok (.iload_n 3, 1) := gd_LA_law_386.2.2.2.1
theorem d_LA_law_390 : decode code 390 = .ok (.iconst 2, 1) := gd_LA_law_386.2.2.2.2.1
theorem d_LA_law_391 : decode code 391 = .ok (.iadd, 1) := gd_LA_law_386.2.2.2.2.2.1
theorem d_LA_law_392 : decode code 392 = .ok (.iaload, 1) := gd_LA_law_386.2.2.2.2.2.2.1
theorem d_LA_law_393 : decode code 393 = .ok (.aload_n 0, 1) := gd_LA_law_386.2.2.2.2.2.2.2.1
theorem d_LA_law_394 : decode code 394 = .ok (.iload_n 3, 1) := gd_LA_law_386.2.2.2.2.2.2.2.2.1
theorem d_LA_law_395 : decode code 395 = .ok (.iconst 3, 1) := gd_LA_law_386.2.2.2.2.2.2.2.2.2
theorem gd_LA_law_396 : (decode code 396 = .ok (.iadd, 1)) ∧ (decode code 397 = .ok (.iaload, 1)) ∧ (decode code 398 = .ok (.invokevirtual 44, 3)) ∧ (decode code 401 = .ok (.pop, 1)) ∧ (decode code 402 = .ok (.goto 507, 3)) ∧ (decode code 405 = .ok (.aload_n 1, 1)) ∧ (decode code 406 = .ok (.aload_n 0, 1)) ∧ (decode code 407 = .ok (.iload_n 3, 1)) ∧ (decode code 408 = .ok (.iconst 1, 1)) ∧ (decode code 409 = .ok (.iadd, 1)) := by decide +kernel
theorem d_LA_law_396 : decode code 396 = .ok (.iadd, 1) := gd_LA_law_396.1
theorem d_LA_law_397 : decode code 397 = .ok (.iaload, 1) := gd_LA_law_396.2.1
theorem d_LA_law_398 : decode code 398 = .ok (.invokevirtual 44, 3) := gd_LA_law_396.2.2.1
theorem d_LA_law_401 : decode code 401 = .ok (.pop, 1) := gd_LA_law_396.2.2.2.1
theorem d_LA_law_402 : decode code 402 = .ok (.goto 507, 3) := gd_LA_law_396.2.2.2.2.1
theorem d_LA_law_405 : decode code 405 = .ok (.aload_n 1, 1) := gd_LA_law_396.2.2.2.2.2.1
theorem d_LA_law_406 : decode code 406 = .ok (.aload_n 0, 1) := gd_LA_law_396.2.2.2.2.2.2.1
theorem d_LA_law_407 : decode code 407 = .ok (.iload_n 3, 1) := gd_LA_law_396.2.2.2.2.2.2.2.1
theorem d_LA_law_408 : decode code 408 = .ok (.iconst 1, 1) := gd_LA_law_396.2.2.2.2.2.2.2.2.1
theorem d_LA_law_409 : decode code 409 = .ok (.iadd, 1) := gd_LA_law_396.2.2.2.2.2.2.2.2.2
theorem gd_LA_law_410 : (decode code 410 = .ok (.iaload, 1)) ∧ (decode code 411 = .ok (.invokevirtual 45, 3)) ∧ (decode code 414 = .ok (.pop, 1)) ∧ (decode code 415 = .ok (.aload_n 2, 1)) ∧ (decode code 416 = .ok (.aload_n 0, 1)) ∧ (decode code 417 = .ok (.iload_n 3, 1)) ∧ (decode code 418 = .ok (.iconst 1, 1)) ∧ (decode code 419 = .ok (.iadd, 1)) ∧ (decode code 420 = .ok (.iaload, 1)) ∧ (decode code 421 = .ok (.invokevirtual 48, 3)) := by decide +kernel
theorem d_LA_law_410 : decode code 410 = .ok (.iaload, 1) := gd_LA_law_410.1
theorem d_LA_law_411 : decode code 411 = .ok (.invokevirtual 45, 3) := gd_LA_law_410.2.1
theorem d_LA_law_414 : decode code 414 = .ok (.pop, 1) := gd_LA_law_410.2.2.1
theorem d_LA_law_415 : decode code 415 = .ok (.aload_n 2, 1) := gd_LA_law_410.2.2.2.1
theorem d_LA_law_416 : decode code 416 = .ok (.aload_n 0, 1) := gd_LA_law_410.2.2.2.2.1
theorem d_LA_law_417 : decode code 417 = .ok (.iload_n 3, 1) := gd_LA_law_410.2.2.2.2.2.1
theorem d_LA_law_418 : decode code 418 = .ok (.iconst 1, 1) := gd_LA_law_410.2.2.2.2.2.2.1
theorem d_LA_law_419 : decode code 419 = .ok (.iadd, 1) := gd_LA_law_410.2.2.2.2.2.2.2.1
theorem d_LA_law_420 : decode code 420 = .ok (.iaload, 1) := gd_LA_law_410.2.2.2.2.2.2.2.2.1
theorem d_LA_law_421 : decode code 421 = .ok (.invokevirtual 48, 3) := gd_LA_law_410.2.2.2.2.2.2.2.2.2
theorem gd_LA_law_424 : (decode code 424 = .ok (.pop, 1)) ∧ (decode code 425 = .ok (.goto 484, 3)) ∧ (decode code 428 = .ok (.aload_n 1, 1)) ∧ (decode code 429 = .ok (.aload_n 0, 1)) ∧ (decode code 430 = .ok (.iload_n 3, 1)) ∧ (decode code 431 = .ok (.iconst 1, 1)) ∧ (decode code 432 = .ok (.iadd, 1)) ∧ (decode code 433 = .ok (.iaload, 1)) ∧ (decode code 434 = .ok (.aload_n 0, 1)) ∧ (decode code 435 = .ok (.iload_n 3, 1)) := by decide +kernel
theorem d_LA_law_424 : decode code 424 = .ok (.pop, 1) := gd_LA_law_424.1
theorem d_LA_law_425 : decode code 425 = .ok (.goto 484, 3) := gd_LA_law_424.2.1
theorem d_LA_law_428 : decode code 428 = .ok (.aload_n 1, 1) := gd_LA_law_424.2.2.1
theorem d_LA_law_429 : decode code 429 = .ok (.aload_n 0, 1) := gd_LA_law_424.2.2.2.1
theorem d_LA_law_430 : decode code 430 = .ok (.iload_n 3, 1) := gd_LA_law_424.2.2.2.2.1
theorem d_LA_law_431 : decode code 431 = .ok (.iconst 1, 1) := gd_LA_law_424.2.2.2.2.2.1
theorem d_LA_law_432 : decode code 432 = .ok (.iadd, 1) := gd_LA_law_424.2.2.2.2.2.2.1
theorem d_LA_law_433 : decode code 433 = .ok (.iaload, 1) := gd_LA_law_424.2.2.2.2.2.2.2.1
theorem d_LA_law_434 : decode code 434 = .ok (.aload_n 0, 1) := gd_LA_law_424.2.2.2.2.2.2.2.2.1
theorem d_LA_law_435 : decode code 435 = .ok (.iload_n 3, 1) := gd_LA_law_424.2.2.2.2.2.2.2.2.2
theorem gd_LA_law_436 : (decode code 436 = .ok (.iconst 2, 1)) ∧ (decode code 437 = .ok (.iadd, 1)) ∧ (decode code 438 = .ok (.iaload, 1)) ∧ (decode code 439 = .ok (.aload_n 0, 1)) ∧ (decode code 440 = .ok (.iload_n 3, 1)) ∧ (decode code 441 = .ok (.iconst 3, 1)) ∧ (decode code 442 = .ok (.iadd, 1)) ∧ (decode code 443 = .ok (.iaload, 1)) ∧ (decode code 444 = .ok (.invokevirtual 49, 3)) ∧ (decode code 447 = .ok (.pop, 1)) := by decide +kernel
theorem d_LA_law_436 : decode code 436 = .ok (.iconst 2, 1) := gd_LA_law_436.1
theorem d_LA_law_437 : decode code 437 = .ok (.iadd, 1) := gd_LA_law_436.2.1
theorem d_LA_law_438 : decode code 438 = .ok (.iaload, 1) := gd_LA_law_436.2.2.1
theorem d_LA_law_439 : decode code 439 = .ok (.aload_n 0, 1) := gd_LA_law_436.2.2.2.1
theorem d_LA_law_440 : decode code 440 = .ok (.iload_n 3, 1) := gd_LA_law_436.2.2.2.2.1
theorem d_LA_law_441 : decode code 441 = .ok (.iconst 3, 1) := gd_LA_law_436.2.2.2.2.2.1
theorem d_LA_law_442 : decode code 442 = .ok (.iadd, 1) := gd_LA_law_436.2.2.2.2.2.2.1
theorem d_LA_law_443 : decode code 443 = .ok (.iaload, 1) := gd_LA_law_436.2.2.2.2.2.2.2.1
theorem d_LA_law_444 : decode code 444 = .ok (.invokevirtual 49, 3) := gd_LA_law_436.2.2.2.2.2.2.2.2.1
theorem d_LA_law_447 : decode code 447 = .ok (.pop, 1) := gd_LA_law_436.2.2.2.2.2.2.2.2.2
theorem gd_LA_law_448 : (decode code 448 = .ok (.aload_n 2, 1)) ∧ (decode code 449 = .ok (.aload_n 0, 1)) ∧ (decode code 450 = .ok (.iload_n 3, 1)) ∧ (decode code 451 = .ok (.iconst 1, 1)) ∧ (decode code 452 = .ok (.iadd, 1)) ∧ (decode code 453 = .ok (.iaload, 1)) ∧ (decode code 454 = .ok (.aload_n 0, 1)) ∧ (decode code 455 = .ok (.iload_n 3, 1)) ∧ (decode code 456 = .ok (.iconst 2, 1)) ∧ (decode code 457 = .ok (.iadd, 1)) := by decide +kernel
theorem d_LA_law_448 : decode code 448 = .ok (.aload_n 2, 1) := gd_LA_law_448.1
theorem d_LA_law_449 : decode code 449 = .ok (.aload_n 0, 1) := gd_LA_law_448.2.1
theorem d_LA_law_450 : decode code 450 = .ok (.iload_n 3, 1) := gd_LA_law_448.2.2.1
theorem d_LA_law_451 : decode code 451 = .ok (.iconst 1, 1) := gd_LA_law_448.2.2.2.1
theorem d_LA_law_452 : decode code 452 = .ok (.iadd, 1) := gd_LA_law_448.2.2.2.2.1
theorem d_LA_law_453 : decode code 453 = .ok (.iaload, 1) := gd_LA_law_448.2.2.2.2.2.1
theorem d_LA_law_454 : decode code 454 = .ok (.aload_n 0, 1) := gd_LA_law_448.2.2.2.2.2.2.1
theorem d_LA_law_455 : decode code 455 = .ok (.iload_n 3, 1) := gd_LA_law_448.2.2.2.2.2.2.2.1
theorem d_LA_law_456 : decode code 456 = .ok (.iconst 2, 1) := gd_LA_law_448.2.2.2.2.2.2.2.2.1
theorem d_LA_law_457 : decode code 457 = .ok (.iadd, 1) := gd_LA_law_448.2.2.2.2.2.2.2.2.2
theorem gd_LA_law_458 : (decode code 458 = .ok (.iaload, 1)) ∧ (decode code 459 = .ok (.aload_n 0, 1)) ∧ (decode code 460 = .ok (.iload_n 3, 1)) ∧ (decode code 461 = .ok (.iconst 3, 1)) ∧ (decode code 462 = .ok (.iadd, 1)) ∧ (decode code 463 = .ok (.iaload, 1)) ∧ (decode code 464 = .ok (.invokevirtual 52, 3)) ∧ (decode code 467 = .ok (.pop, 1)) ∧ (decode code 468 = .ok (.goto 441, 3)) ∧ (decode code 471 = .ok (.aload_n 1, 1)) := by decide +kernel
theorem d_LA_law_458 : decode code 458 = .ok (.iaload, 1) := gd_LA_law_458.1
theorem d_LA_law_459 : decode code 459 = .ok (.aload_n 0, 1) := gd_LA_law_458.2.1
theorem d_LA_law_460 : decode code 460 = .ok (.iload_n 3, 1) := gd_LA_law_458.2.2.1
theorem d_LA_law_461 : decode code 461 = .ok (.iconst 3, 1) := gd_LA_law_458.2.2.2.1
theorem d_LA_law_462 : decode code 462 = .ok (.iadd, 1) := gd_LA_law_458.2.2.2.2.1
theorem d_LA_law_463 : decode code 463 = .ok (.iaload, 1) := gd_LA_law_458.2.2.2.2.2.1
theorem d_LA_law_464 : decode code 464 = .ok (.invokevirtual 52, 3) := gd_LA_law_458.2.2.2.2.2.2.1
theorem d_LA_law_467 : decode code 467 = .ok (.pop, 1) := gd_LA_law_458.2.2.2.2.2.2.2.1
theorem d_LA_law_468 : decode code 468 = .ok (.goto 441, 3) := gd_LA_law_458.2.2.2.2.2.2.2.2.1
theorem d_LA_law_471 : decode code 471 = .ok (.aload_n 1, 1) := gd_LA_law_458.2.2.2.2.2.2.2.2.2
theorem gd_LA_law_472 : (decode code 472 = .ok (.aload_n 0, 1)) ∧ (decode code 473 = .ok (.iload_n 3, 1)) ∧ (decode code 474 = .ok (.iconst 1, 1)) ∧ (decode code 475 = .ok (.iadd, 1)) ∧ (decode code 476 = .ok (.iaload, 1)) ∧ (decode code 477 = .ok (.invokevirtual 53, 3)) ∧ (decode code 480 = .ok (.pop, 1)) ∧ (decode code 481 = .ok (.aload_n 2, 1)) ∧ (decode code 482 = .ok (.aload_n 0, 1)) ∧ (decode code 483 = .ok (.iload_n 3, 1)) := by decide +kernel
theorem d_LA_law_472 : decode code 472 = .ok (.aload_n 0, 1) := gd_LA_law_472.1
theorem d_LA_law_473 : decode code 473 = .ok (.iload_n 3, 1) := gd_LA_law_472.2.1
theorem d_LA_law_474 : decode code 474 = .ok (.iconst 1, 1) := gd_LA_law_472.2.2.1
theorem d_LA_law_475 : decode code 475 = .ok (.iadd, 1) := gd_LA_law_472.2.2.2.1
theorem d_LA_law_476 : decode code 476 = .ok (.iaload, 1) := gd_LA_law_472.2.2.2.2.1
theorem d_LA_law_477 : decode code 477 = .ok (.invokevirtual 53, 3) := gd_LA_law_472.2.2.2.2.2.1
theorem d_LA_law_480 : decode code 480 = .ok (.pop, 1) := gd_LA_law_472.2.2.2.2.2.2.1
theorem d_LA_law_481 : decode code 481 = .ok (.aload_n 2, 1) := gd_LA_law_472.2.2.2.2.2.2.2.1
theorem d_LA_law_482 : decode code 482 = .ok (.aload_n 0, 1) := gd_LA_law_472.2.2.2.2.2.2.2.2.1
theorem d_LA_law_483 : decode code 483 = .ok (.iload_n 3, 1) := gd_LA_law_472.2.2.2.2.2.2.2.2.2
theorem gd_LA_law_484 : (decode code 484 = .ok (.iconst 1, 1)) ∧ (decode code 485 = .ok (.iadd, 1)) ∧ (decode code 486 = .ok (.iaload, 1)) ∧ (decode code 487 = .ok (.invokevirtual 56, 3)) ∧ (decode code 490 = .ok (.pop, 1)) ∧ (decode code 491 = .ok (.goto 418, 3)) ∧ (decode code 494 = .ok (.aload_n 1, 1)) ∧ (decode code 495 = .ok (.aload_n 0, 1)) ∧ (decode code 496 = .ok (.iload_n 3, 1)) ∧ (decode code 497 = .ok (.iconst 1, 1)) := by decide +kernel
theorem d_LA_law_484 : decode code 484 = .ok (.iconst 1, 1) := gd_LA_law_484.1
theorem d_LA_law_485 : decode code 485 = .ok (.iadd, 1) := gd_LA_law_484.2.1
theorem d_LA_law_486 : decode code 486 = .ok (.iaload, 1) := gd_LA_law_484.2.2.1
theorem d_LA_law_487 : decode code 487 = .ok (.invokevirtual 56, 3) := gd_LA_law_484.2.2.2.1
theorem d_LA_law_490 : decode code 490 = .ok (.pop, 1) := gd_LA_law_484.2.2.2.2.1
theorem d_LA_law_491 : decode code 491 = .ok (.goto 418, 3) := gd_LA_law_484.2.2.2.2.2.1
theorem d_LA_law_494 : decode code 494 = .ok (.aload_n 1, 1) := gd_LA_law_484.2.2.2.2.2.2.1
theorem d_LA_law_495 : decode code 495 = .ok (.aload_n 0, 1) := gd_LA_law_484.2.2.2.2.2.2.2.1
theorem d_LA_law_496 : decode code 496 = .ok (.iload_n 3, 1) := gd_LA_law_484.2.2.2.2.2.2.2.2.1
theorem d_LA_law_497 : decode code 497 = .ok (.iconst 1, 1) := gd_LA_law_484.2.2.2.2.2.2.2.2.2
theorem gd_LA_law_498 : (decode code 498 = .ok (.iadd, 1)) ∧ (decode code 499 = .ok (.iaload, 1)) ∧ (decode code 500 = .ok (.invokevirtual 57, 3)) ∧ (decode code 503 = .ok (.pop, 1)) ∧ (decode code 504 = .ok (.aload_n 2, 1)) ∧ (decode code 505 = .ok (.aload_n 0, 1)) ∧ (decode code 506 = .ok (.iload_n 3, 1)) ∧ (decode code 507 = .ok (.iconst 1, 1)) ∧ (decode code 508 = .ok (.iadd, 1)) ∧ (decode code 509 = .ok (.iaload, 1)) := by decide +kernel
theorem d_LA_law_498 : decode code 498 = .ok (.iadd, 1) := gd_LA_law_498.1
theorem d_LA_law_499 : decode code 499 = .ok (.iaload, 1) := gd_LA_law_498.2.1
theorem d_LA_law_500 : decode code 500 = .ok (.invokevirtual 57, 3) := gd_LA_law_498.2.2.1
theorem d_LA_law_503 : decode code 503 = .ok (.pop, 1) := gd_LA_law_498.2.2.2.1
theorem d_LA_law_504 : decode code 504 = .ok (.aload_n 2, 1) := gd_LA_law_498.2.2.2.2.1
theorem d_LA_law_505 : decode code 505 = .ok (.aload_n 0, 1) := gd_LA_law_498.2.2.2.2.2.1
theorem d_LA_law_506 : decode code 506 = .ok (.iload_n 3, 1) := gd_LA_law_498.2.2.2.2.2.2.1
theorem d_LA_law_507 : decode code 507 = .ok (.iconst 1, 1) := gd_LA_law_498.2.2.2.2.2.2.2.1
theorem d_LA_law_508 : decode code 508 = .ok (.iadd, 1) := gd_LA_law_498.2.2.2.2.2.2.2.2.1
theorem d_LA_law_509 : decode code 509 = .ok (.iaload, 1) := gd_LA_law_498.2.2.2.2.2.2.2.2.2
theorem gd_LA_law_510 : (decode code 510 = .ok (.invokevirtual 60, 3)) ∧ (decode code 513 = .ok (.pop, 1)) ∧ (decode code 514 = .ok (.goto 395, 3)) ∧ (decode code 517 = .ok (.aload_n 1, 1)) ∧ (decode code 518 = .ok (.aload_n 0, 1)) ∧ (decode code 519 = .ok (.iload_n 3, 1)) ∧ (decode code 520 = .ok (.iconst 1, 1)) ∧ (decode code 521 = .ok (.iadd, 1)) ∧ (decode code 522 = .ok (.iaload, 1)) ∧ (decode code 523 = .ok (.aload_n 0, 1)) := by decide +kernel
theorem d_LA_law_510 : decode code 510 = .ok (.invokevirtual 60, 3) := gd_LA_law_510.1
theorem d_LA_law_513 : decode code 513 = .ok (.pop, 1) := gd_LA_law_510.2.1
theorem d_LA_law_514 : decode code 514 = .ok (.goto 395, 3) := gd_LA_law_510.2.2.1
theorem d_LA_law_517 : decode code 517 = .ok (.aload_n 1, 1) := gd_LA_law_510.2.2.2.1
theorem d_LA_law_518 : decode code 518 = .ok (.aload_n 0, 1) := gd_LA_law_510.2.2.2.2.1
theorem d_LA_law_519 : decode code 519 = .ok (.iload_n 3, 1) := gd_LA_law_510.2.2.2.2.2.1
theorem d_LA_law_520 : decode code 520 = .ok (.iconst 1, 1) := gd_LA_law_510.2.2.2.2.2.2.1
theorem d_LA_law_521 : decode code 521 = .ok (.iadd, 1) := gd_LA_law_510.2.2.2.2.2.2.2.1
theorem d_LA_law_522 : decode code 522 = .ok (.iaload, 1) := gd_LA_law_510.2.2.2.2.2.2.2.2.1
theorem d_LA_law_523 : decode code 523 = .ok (.aload_n 0, 1) := gd_LA_law_510.2.2.2.2.2.2.2.2.2
