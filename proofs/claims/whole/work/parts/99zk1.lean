/-! THE LAW: its instructions, printed -/
theorem lz_d_300 : decode code 300 = .ok (.iload_n 3, 1) := by decide +kernel
theorem lz_d_301 : decode code 301 = .ok (.iconst 2, 1) := by decide +kernel
theorem lz_d_302 : decode code 302 = .ok (.iadd, 1) := by decide +kernel
theorem lz_d_303 : decode code 303 = .ok (.iaload, 1) := by decide +kernel
theorem lz_d_304 : decode code 304 = .ok (.invokevirtual 30, 3) := by decide +kernel
theorem lz_d_307 : decode code 307 = .ok (.if_icmp .eq 522, 3) := by decide +kernel
theorem lz_d_310 : decode code 310 = .ok (.iconst 0, 1) := by decide +kernel
theorem lz_d_311 : decode code 311 = .ok (.ireturn, 1) := by decide +kernel
theorem lz_d_312 : decode code 312 = .ok (.aload_n 1, 1) := by decide +kernel
theorem lz_d_313 : decode code 313 = .ok (.aload_n 0, 1) := by decide +kernel
theorem lz_d_314 : decode code 314 = .ok (.iload_n 3, 1) := by decide +kernel
theorem lz_d_315 : decode code 315 = .ok (.iconst 1, 1) := by decide +kernel
theorem lz_d_316 : decode code 316 = .ok (.iadd, 1) := by decide +kernel
theorem lz_d_317 : decode code 317 = .ok (.iaload, 1) := by decide +kernel
theorem lz_d_318 : decode code 318 = .ok (.invokevirtual 31, 3) := by decide +kernel
theorem lz_d_321 : decode code 321 = .ok (.aload_n 2, 1) := by decide +kernel
theorem lz_d_322 : decode code 322 = .ok (.aload_n 0, 1) := by decide +kernel
theorem lz_d_323 : decode code 323 = .ok (.iload_n 3, 1) := by decide +kernel
theorem lz_d_324 : decode code 324 = .ok (.iconst 1, 1) := by decide +kernel
theorem lz_d_325 : decode code 325 = .ok (.iadd, 1) := by decide +kernel
theorem lz_d_326 : decode code 326 = .ok (.iaload, 1) := by decide +kernel
theorem lz_d_327 : decode code 327 = .ok (.invokevirtual 35, 3) := by decide +kernel
theorem lz_d_330 : decode code 330 = .ok (.if_icmp .eq 499, 3) := by decide +kernel
theorem lz_d_333 : decode code 333 = .ok (.iconst 0, 1) := by decide +kernel
theorem lz_d_334 : decode code 334 = .ok (.ireturn, 1) := by decide +kernel
theorem lz_d_335 : decode code 335 = .ok (.aload_n 1, 1) := by decide +kernel
theorem lz_d_336 : decode code 336 = .ok (.aload_n 0, 1) := by decide +kernel
theorem lz_d_337 : decode code 337 = .ok (.iload_n 3, 1) := by decide +kernel
theorem lz_d_338 : decode code 338 = .ok (.iconst 1, 1) := by decide +kernel
theorem lz_d_339 : decode code 339 = .ok (.iadd, 1) := by decide +kernel
theorem lz_d_340 : decode code 340 = .ok (.iaload, 1) := by decide +kernel
theorem lz_d_341 : decode code 341 = .ok (.invokevirtual 36, 3) := by decide +kernel
theorem lz_d_344 : decode code 344 = .ok (.aload_n 2, 1) := by decide +kernel
theorem lz_d_345 : decode code 345 = .ok (.aload_n 0, 1) := by decide +kernel
theorem lz_d_346 : decode code 346 = .ok (.iload_n 3, 1) := by decide +kernel
theorem lz_d_347 : decode code 347 = .ok (.iconst 1, 1) := by decide +kernel
theorem lz_d_348 : decode code 348 = .ok (.iadd, 1) := by decide +kernel
theorem lz_d_349 : decode code 349 = .ok (.iaload, 1) := by decide +kernel
theorem lz_d_350 : decode code 350 = .ok (.invokevirtual 39, 3) := by decide +kernel
theorem lz_d_353 : decode code 353 = .ok (.if_icmp .eq 476, 3) := by decide +kernel
theorem lz_d_356 : decode code 356 = .ok (.iconst 0, 1) := by decide +kernel
theorem lz_d_357 : decode code 357 = .ok (.ireturn, 1) := by decide +kernel
theorem lz_d_358 : decode code 358 = .ok (.aload_n 1, 1) := by decide +kernel
theorem lz_d_359 : decode code 359 = .ok (.aload_n 0, 1) := by decide +kernel
theorem lz_d_360 : decode code 360 = .ok (.iload_n 3, 1) := by decide +kernel
theorem lz_d_361 : decode code 361 = .ok (.iconst 1, 1) := by decide +kernel
theorem lz_d_362 : decode code 362 = .ok (.iadd, 1) := by decide +kernel
theorem lz_d_363 : decode code 363 = .ok (.iaload, 1) := by decide +kernel
theorem lz_d_364 : decode code 364 = .ok (.invokevirtual 40, 3) := by decide +kernel
theorem lz_d_367 : decode code 367 = .ok (.aload_n 2, 1) := by decide +kernel
theorem lz_d_368 : decode code 368 = .ok (.aload_n 0, 1) := by decide +kernel
theorem lz_d_369 : decode code 369 = .ok (.iload_n 3, 1) := by decide +kernel
theorem lz_d_370 : decode code 370 = .ok (.iconst 1, 1) := by decide +kernel
theorem lz_d_371 : decode code 371 = .ok (.iadd, 1) := by decide +kernel
theorem lz_d_372 : decode code 372 = .ok (.iaload, 1) := by decide +kernel
theorem lz_d_373 : decode code 373 = .ok (.invokevirtual 43, 3) := by decide +kernel
theorem lz_d_376 : decode code 376 = .ok (.if_icmp .eq 453, 3) := by decide +kernel
theorem lz_d_379 : decode code 379 = .ok (.iconst 0, 1) := by decide +kernel
theorem lz_d_380 : decode code 380 = .ok (.ireturn, 1) := by decide +kernel
theorem lz_d_381 : decode code 381 = .ok (.aload_n 1, 1) := by decide +kernel
theorem lz_d_382 : decode code 382 = .ok (.aload_n 0, 1) := by decide +kernel
theorem lz_d_383 : decode code 383 = .ok (.iload_n 3, 1) := by decide +kernel
theorem lz_d_384 : decode code 384 = .ok (.iconst 1, 1) := by decide +kernel
theorem lz_d_385 : decode code 385 = .ok (.iadd, 1) := by decide +kernel
theorem lz_d_386 : decode code 386 = .ok (.iaload, 1) := by decide +kernel
theorem lz_d_387 : decode code 387 = .ok (.invokevirtual 44, 3) := by decide +kernel
theorem lz_d_390 : decode code 390 = .ok (.aload_n 2, 1) := by decide +kernel
theorem lz_d_391 : decode code 391 = .ok (.aload_n 0, 1) := by decide +kernel
theorem lz_d_392 : decode code 392 = .ok (.iload_n 3, 1) := by decide +kernel
theorem lz_d_393 : decode code 393 = .ok (.iconst 1, 1) := by decide +kernel
theorem lz_d_394 : decode code 394 = .ok (.iadd, 1) := by decide +kernel
theorem lz_d_395 : decode code 395 = .ok (.iaload, 1) := by decide +kernel
theorem lz_d_396 : decode code 396 = .ok (.invokevirtual 47, 3) := by decide +kernel
theorem lz_d_399 : decode code 399 = .ok (.if_icmp .eq 430, 3) := by decide +kernel
theorem lz_d_402 : decode code 402 = .ok (.iconst 0, 1) := by decide +kernel
theorem lz_d_403 : decode code 403 = .ok (.ireturn, 1) := by decide +kernel
theorem lz_d_404 : decode code 404 = .ok (.aload_n 1, 1) := by decide +kernel
theorem lz_d_405 : decode code 405 = .ok (.aload_n 0, 1) := by decide +kernel
theorem lz_d_406 : decode code 406 = .ok (.iload_n 3, 1) := by decide +kernel
theorem lz_d_407 : decode code 407 = .ok (.iconst 1, 1) := by decide +kernel
theorem lz_d_408 : decode code 408 = .ok (.iadd, 1) := by decide +kernel
theorem lz_d_409 : decode code 409 = .ok (.iaload, 1) := by decide +kernel
theorem lz_d_410 : decode code 410 = .ok (.invokevirtual 48, 3) := by decide +kernel
theorem lz_d_413 : decode code 413 = .ok (.aload_n 2, 1) := by decide +kernel
theorem lz_d_414 : decode code 414 = .ok (.aload_n 0, 1) := by decide +kernel
theorem lz_d_415 : decode code 415 = .ok (.iload_n 3, 1) := by decide +kernel
theorem lz_d_416 : decode code 416 = .ok (.iconst 1, 1) := by decide +kernel
theorem lz_d_417 : decode code 417 = .ok (.iadd, 1) := by decide +kernel
theorem lz_d_418 : decode code 418 = .ok (.iaload, 1) := by decide +kernel
theorem lz_d_419 : decode code 419 = .ok (.invokevirtual 51, 3) := by decide +kernel
theorem lz_d_422 : decode code 422 = .ok (.if_icmp .eq 407, 3) := by decide +kernel
theorem lz_d_425 : decode code 425 = .ok (.iconst 0, 1) := by decide +kernel
theorem lz_d_426 : decode code 426 = .ok (.ireturn, 1) := by decide +kernel
theorem lz_d_427 : decode code 427 = .ok (.aload_n 1, 1) := by decide +kernel
theorem lz_d_428 : decode code 428 = .ok (.invokevirtual 52, 3) := by decide +kernel
theorem lz_d_431 : decode code 431 = .ok (.aload_n 2, 1) := by decide +kernel
theorem lz_d_432 : decode code 432 = .ok (.invokevirtual 56, 3) := by decide +kernel
theorem lz_d_435 : decode code 435 = .ok (.if_icmp .eq 394, 3) := by decide +kernel
theorem lz_d_438 : decode code 438 = .ok (.iconst 0, 1) := by decide +kernel
theorem lz_d_439 : decode code 439 = .ok (.ireturn, 1) := by decide +kernel
theorem lz_d_440 : decode code 440 = .ok (.aload_n 1, 1) := by decide +kernel
theorem lz_d_441 : decode code 441 = .ok (.invokevirtual 57, 3) := by decide +kernel
theorem lz_d_444 : decode code 444 = .ok (.aload_n 2, 1) := by decide +kernel
theorem lz_d_445 : decode code 445 = .ok (.invokevirtual 60, 3) := by decide +kernel
theorem lz_d_448 : decode code 448 = .ok (.if_icmp .eq 381, 3) := by decide +kernel
theorem lz_d_451 : decode code 451 = .ok (.iconst 0, 1) := by decide +kernel
theorem lz_d_452 : decode code 452 = .ok (.ireturn, 1) := by decide +kernel
theorem lz_d_453 : decode code 453 = .ok (.aload_n 1, 1) := by decide +kernel
theorem lz_d_454 : decode code 454 = .ok (.invokevirtual 61, 3) := by decide +kernel
theorem lz_d_457 : decode code 457 = .ok (.aload_n 2, 1) := by decide +kernel
theorem lz_d_458 : decode code 458 = .ok (.invokevirtual 64, 3) := by decide +kernel
theorem lz_d_461 : decode code 461 = .ok (.if_icmp .eq 368, 3) := by decide +kernel
theorem lz_d_464 : decode code 464 = .ok (.iconst 0, 1) := by decide +kernel
theorem lz_d_465 : decode code 465 = .ok (.ireturn, 1) := by decide +kernel
theorem lz_d_466 : decode code 466 = .ok (.aload_n 1, 1) := by decide +kernel
theorem lz_d_467 : decode code 467 = .ok (.invokevirtual 65, 3) := by decide +kernel
theorem lz_d_470 : decode code 470 = .ok (.aload_n 2, 1) := by decide +kernel
theorem lz_d_471 : decode code 471 = .ok (.invokevirtual 68, 3) := by decide +kernel
theorem lz_d_474 : decode code 474 = .ok (.if_icmp .eq 355, 3) := by decide +kernel
theorem lz_d_477 : decode code 477 = .ok (.iconst 0, 1) := by decide +kernel
theorem lz_d_478 : decode code 478 = .ok (.ireturn, 1) := by decide +kernel
theorem lz_d_479 : decode code 479 = .ok (.aload_n 1, 1) := by decide +kernel
theorem lz_d_480 : decode code 480 = .ok (.aload_n 0, 1) := by decide +kernel
theorem lz_d_481 : decode code 481 = .ok (.iload_n 3, 1) := by decide +kernel
theorem lz_d_482 : decode code 482 = .ok (.iconst 1, 1) := by decide +kernel
theorem lz_d_483 : decode code 483 = .ok (.iadd, 1) := by decide +kernel
theorem lz_d_484 : decode code 484 = .ok (.iaload, 1) := by decide +kernel
theorem lz_d_485 : decode code 485 = .ok (.i2c, 1) := by decide +kernel
theorem lz_d_486 : decode code 486 = .ok (.invokevirtual 69, 3) := by decide +kernel
theorem lz_d_489 : decode code 489 = .ok (.aload_n 2, 1) := by decide +kernel
