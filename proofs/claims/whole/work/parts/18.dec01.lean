theorem d_Law_law_332 : decode code 332 = .ok (.iload 4, 2) := by decide +kernel
theorem d_Law_law_334 : decode code 334 = .ok (.iconst 2, 1) := by decide +kernel
theorem d_Law_law_335 : decode code 335 = .ok (.iadd, 1) := by decide +kernel
theorem d_Law_law_336 : decode code 336 = .ok (.iaload, 1) := by decide +kernel
theorem d_Law_law_337 : decode code 337 = .ok (.aload_n 3, 1) := by decide +kernel
theorem d_Law_law_338 : decode code 338 = .ok (.invokestatic 55, 3) := by decide +kernel
theorem d_Law_law_341 : decode code 341 = .ok (.istore 5, 2) := by decide +kernel
theorem d_Law_law_343 : decode code 343 = .ok (.aload_n 2, 1) := by decide +kernel
theorem d_Law_law_344 : decode code 344 = .ok (.aload_n 0, 1) := by decide +kernel
theorem d_Law_law_345 : decode code 345 = .ok (.iload 4, 2) := by decide +kernel
theorem d_Law_law_347 : decode code 347 = .ok (.iconst 1, 1) := by decide +kernel
theorem d_Law_law_348 : decode code 348 = .ok (.iadd, 1) := by decide +kernel
theorem d_Law_law_349 : decode code 349 = .ok (.iaload, 1) := by decide +kernel
theorem d_Law_law_350 : decode code 350 = .ok (.aload_n 0, 1) := by decide +kernel
theorem d_Law_law_351 : decode code 351 = .ok (.iload 4, 2) := by decide +kernel
theorem d_Law_law_353 : decode code 353 = .ok (.iconst 2, 1) := by decide +kernel
theorem d_Law_law_354 : decode code 354 = .ok (.iadd, 1) := by decide +kernel
theorem d_Law_law_355 : decode code 355 = .ok (.iaload, 1) := by decide +kernel
theorem d_Law_law_356 : decode code 356 = .ok (.invokevirtual 60, 3) := by decide +kernel
theorem d_Law_law_359 : decode code 359 = .ok (.istore 6, 2) := by decide +kernel
theorem d_Law_law_361 : decode code 361 = .ok (.aload_n 2, 1) := by decide +kernel
theorem d_Law_law_362 : decode code 362 = .ok (.invokevirtual 61, 3) := by decide +kernel
theorem d_Law_law_365 : decode code 365 = .ok (.iload 5, 2) := by decide +kernel
theorem d_Law_law_367 : decode code 367 = .ok (.if_icmp .eq 5, 3) := by decide +kernel
theorem d_Law_law_370 : decode code 370 = .ok (.iconst 0, 1) := by decide +kernel
theorem d_Law_law_371 : decode code 371 = .ok (.ireturn, 1) := by decide +kernel
theorem d_Law_law_372 : decode code 372 = .ok (.iload 5, 2) := by decide +kernel
theorem d_Law_law_374 : decode code 374 = .ok (.ifCond .ne 15, 3) := by decide +kernel
theorem d_Law_law_377 : decode code 377 = .ok (.aload_n 3, 1) := by decide +kernel
theorem d_Law_law_378 : decode code 378 = .ok (.iconst 0, 1) := by decide +kernel
theorem d_Law_law_379 : decode code 379 = .ok (.laload, 1) := by decide +kernel
theorem d_Law_law_380 : decode code 380 = .ok (.iload 6, 2) := by decide +kernel
theorem d_Law_law_382 : decode code 382 = .ok (.i2l, 1) := by decide +kernel
theorem d_Law_law_383 : decode code 383 = .ok (.lcmp, 1) := by decide +kernel
theorem d_Law_law_384 : decode code 384 = .ok (.ifCond .eq 5, 3) := by decide +kernel
theorem d_Law_law_387 : decode code 387 = .ok (.iconst 0, 1) := by decide +kernel
theorem d_Law_law_388 : decode code 388 = .ok (.ireturn, 1) := by decide +kernel
theorem d_Law_law_389 : decode code 389 = .ok (.goto 992, 3) := by decide +kernel
theorem d_Law_law_392 : decode code 392 = .ok (.aload_n 1, 1) := by decide +kernel
theorem d_Law_law_393 : decode code 393 = .ok (.aload_n 0, 1) := by decide +kernel
theorem d_Law_law_394 : decode code 394 = .ok (.iload 4, 2) := by decide +kernel
theorem d_Law_law_396 : decode code 396 = .ok (.iconst 1, 1) := by decide +kernel
theorem d_Law_law_397 : decode code 397 = .ok (.iadd, 1) := by decide +kernel
theorem d_Law_law_398 : decode code 398 = .ok (.iaload, 1) := by decide +kernel
theorem d_Law_law_399 : decode code 399 = .ok (.aload_n 0, 1) := by decide +kernel
theorem d_Law_law_400 : decode code 400 = .ok (.iload 4, 2) := by decide +kernel
theorem d_Law_law_402 : decode code 402 = .ok (.iconst 2, 1) := by decide +kernel
theorem d_Law_law_403 : decode code 403 = .ok (.iadd, 1) := by decide +kernel
theorem d_Law_law_404 : decode code 404 = .ok (.iaload, 1) := by decide +kernel
theorem d_Law_law_405 : decode code 405 = .ok (.aload_n 3, 1) := by decide +kernel
theorem d_Law_law_406 : decode code 406 = .ok (.invokestatic 64, 3) := by decide +kernel
theorem d_Law_law_409 : decode code 409 = .ok (.istore 5, 2) := by decide +kernel
theorem d_Law_law_411 : decode code 411 = .ok (.aload_n 2, 1) := by decide +kernel
theorem d_Law_law_412 : decode code 412 = .ok (.aload_n 0, 1) := by decide +kernel
theorem d_Law_law_413 : decode code 413 = .ok (.iload 4, 2) := by decide +kernel
theorem d_Law_law_415 : decode code 415 = .ok (.iconst 1, 1) := by decide +kernel
theorem d_Law_law_416 : decode code 416 = .ok (.iadd, 1) := by decide +kernel
theorem d_Law_law_417 : decode code 417 = .ok (.iaload, 1) := by decide +kernel
theorem d_Law_law_418 : decode code 418 = .ok (.aload_n 0, 1) := by decide +kernel
theorem d_Law_law_419 : decode code 419 = .ok (.iload 4, 2) := by decide +kernel
theorem d_Law_law_421 : decode code 421 = .ok (.iconst 2, 1) := by decide +kernel
theorem d_Law_law_422 : decode code 422 = .ok (.iadd, 1) := by decide +kernel
theorem d_Law_law_423 : decode code 423 = .ok (.iaload, 1) := by decide +kernel
theorem d_Law_law_424 : decode code 424 = .ok (.invokevirtual 66, 3) := by decide +kernel
theorem d_Law_law_427 : decode code 427 = .ok (.istore 6, 2) := by decide +kernel
theorem d_Law_law_429 : decode code 429 = .ok (.aload_n 2, 1) := by decide +kernel
theorem d_Law_law_430 : decode code 430 = .ok (.invokevirtual 61, 3) := by decide +kernel
theorem d_Law_law_433 : decode code 433 = .ok (.iload 5, 2) := by decide +kernel
theorem d_Law_law_435 : decode code 435 = .ok (.if_icmp .eq 5, 3) := by decide +kernel
theorem d_Law_law_438 : decode code 438 = .ok (.iconst 0, 1) := by decide +kernel
theorem d_Law_law_439 : decode code 439 = .ok (.ireturn, 1) := by decide +kernel
theorem d_Law_law_440 : decode code 440 = .ok (.iload 5, 2) := by decide +kernel
theorem d_Law_law_442 : decode code 442 = .ok (.ifCond .ne 15, 3) := by decide +kernel
theorem d_Law_law_445 : decode code 445 = .ok (.aload_n 3, 1) := by decide +kernel
theorem d_Law_law_446 : decode code 446 = .ok (.iconst 0, 1) := by decide +kernel
theorem d_Law_law_447 : decode code 447 = .ok (.laload, 1) := by decide +kernel
theorem d_Law_law_448 : decode code 448 = .ok (.iload 6, 2) := by decide +kernel
theorem d_Law_law_450 : decode code 450 = .ok (.i2l, 1) := by decide +kernel
theorem d_Law_law_451 : decode code 451 = .ok (.lcmp, 1) := by decide +kernel
theorem d_Law_law_452 : decode code 452 = .ok (.ifCond .eq 5, 3) := by decide +kernel
theorem d_Law_law_455 : decode code 455 = .ok (.iconst 0, 1) := by decide +kernel
theorem d_Law_law_456 : decode code 456 = .ok (.ireturn, 1) := by decide +kernel
theorem d_Law_law_457 : decode code 457 = .ok (.goto 924, 3) := by decide +kernel
theorem d_Law_law_460 : decode code 460 = .ok (.aload_n 1, 1) := by decide +kernel
theorem d_Law_law_461 : decode code 461 = .ok (.aload_n 0, 1) := by decide +kernel
theorem d_Law_law_462 : decode code 462 = .ok (.iload 4, 2) := by decide +kernel
theorem d_Law_law_464 : decode code 464 = .ok (.iconst 1, 1) := by decide +kernel
theorem d_Law_law_465 : decode code 465 = .ok (.iadd, 1) := by decide +kernel
theorem d_Law_law_466 : decode code 466 = .ok (.iaload, 1) := by decide +kernel
theorem d_Law_law_467 : decode code 467 = .ok (.aload_n 0, 1) := by decide +kernel
theorem d_Law_law_468 : decode code 468 = .ok (.iload 4, 2) := by decide +kernel
theorem d_Law_law_470 : decode code 470 = .ok (.iconst 2, 1) := by decide +kernel
theorem d_Law_law_471 : decode code 471 = .ok (.iadd, 1) := by decide +kernel
theorem d_Law_law_472 : decode code 472 = .ok (.iaload, 1) := by decide +kernel
theorem d_Law_law_473 : decode code 473 = .ok (.aload_n 3, 1) := by decide +kernel
theorem d_Law_law_474 : decode code 474 = .ok (.invokestatic 67, 3) := by decide +kernel
theorem d_Law_law_477 : decode code 477 = .ok (.istore 5, 2) := by decide +kernel
theorem d_Law_law_479 : decode code 479 = .ok (.aload_n 2, 1) := by decide +kernel
theorem d_Law_law_480 : decode code 480 = .ok (.aload_n 0, 1) := by decide +kernel
theorem d_Law_law_481 : decode code 481 = .ok (.iload 4, 2) := by decide +kernel
theorem d_Law_law_483 : decode code 483 = .ok (.iconst 1, 1) := by decide +kernel
theorem d_Law_law_484 : decode code 484 = .ok (.iadd, 1) := by decide +kernel
theorem d_Law_law_485 : decode code 485 = .ok (.iaload, 1) := by decide +kernel
theorem d_Law_law_486 : decode code 486 = .ok (.aload_n 0, 1) := by decide +kernel
theorem d_Law_law_487 : decode code 487 = .ok (.iload 4, 2) := by decide +kernel
theorem d_Law_law_489 : decode code 489 = .ok (.iconst 2, 1) := by decide +kernel
theorem d_Law_law_490 : decode code 490 = .ok (.iadd, 1) := by decide +kernel
theorem d_Law_law_491 : decode code 491 = .ok (.iaload, 1) := by decide +kernel
theorem d_Law_law_492 : decode code 492 = .ok (.invokevirtual 69, 3) := by decide +kernel
theorem d_Law_law_495 : decode code 495 = .ok (.istore 6, 2) := by decide +kernel
theorem d_Law_law_497 : decode code 497 = .ok (.aload_n 2, 1) := by decide +kernel
theorem d_Law_law_498 : decode code 498 = .ok (.invokevirtual 61, 3) := by decide +kernel
theorem d_Law_law_501 : decode code 501 = .ok (.iload 5, 2) := by decide +kernel
theorem d_Law_law_503 : decode code 503 = .ok (.if_icmp .eq 5, 3) := by decide +kernel
theorem d_Law_law_506 : decode code 506 = .ok (.iconst 0, 1) := by decide +kernel
theorem d_Law_law_507 : decode code 507 = .ok (.ireturn, 1) := by decide +kernel
theorem d_Law_law_508 : decode code 508 = .ok (.iload 5, 2) := by decide +kernel
theorem d_Law_law_510 : decode code 510 = .ok (.ifCond .ne 15, 3) := by decide +kernel
theorem d_Law_law_513 : decode code 513 = .ok (.aload_n 3, 1) := by decide +kernel
theorem d_Law_law_514 : decode code 514 = .ok (.iconst 0, 1) := by decide +kernel
