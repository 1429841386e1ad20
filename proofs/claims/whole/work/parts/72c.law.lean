theorem dl_372 : decode code 372 = .ok (.invokevirtual 41, 3) := by decide +kernel
theorem dl_375 : decode code 375 = .ok (.aload_n 2, 1) := by decide +kernel
theorem dl_376 : decode code 376 = .ok (.aload_n 0, 1) := by decide +kernel
theorem dl_377 : decode code 377 = .ok (.iload_n 3, 1) := by decide +kernel
theorem dl_378 : decode code 378 = .ok (.iconst 1, 1) := by decide +kernel
theorem dl_379 : decode code 379 = .ok (.iadd, 1) := by decide +kernel
theorem dl_380 : decode code 380 = .ok (.iaload, 1) := by decide +kernel
theorem dl_381 : decode code 381 = .ok (.invokevirtual 44, 3) := by decide +kernel
theorem dl_384 : decode code 384 = .ok (.if_icmp .eq 606, 3) := by decide +kernel
theorem dl_387 : decode code 387 = .ok (.iconst 0, 1) := by decide +kernel
theorem dl_388 : decode code 388 = .ok (.ireturn, 1) := by decide +kernel
theorem dl_389 : decode code 389 = .ok (.aload_n 1, 1) := by decide +kernel
theorem dl_390 : decode code 390 = .ok (.invokevirtual 45, 3) := by decide +kernel
theorem dl_393 : decode code 393 = .ok (.aload_n 2, 1) := by decide +kernel
theorem dl_394 : decode code 394 = .ok (.invokevirtual 48, 3) := by decide +kernel
theorem dl_397 : decode code 397 = .ok (.if_icmp .eq 593, 3) := by decide +kernel
theorem dl_400 : decode code 400 = .ok (.iconst 0, 1) := by decide +kernel
theorem dl_401 : decode code 401 = .ok (.ireturn, 1) := by decide +kernel
theorem dl_402 : decode code 402 = .ok (.aload_n 1, 1) := by decide +kernel
theorem dl_403 : decode code 403 = .ok (.aload_n 0, 1) := by decide +kernel
theorem dl_404 : decode code 404 = .ok (.iload_n 3, 1) := by decide +kernel
theorem dl_405 : decode code 405 = .ok (.iconst 1, 1) := by decide +kernel
theorem dl_406 : decode code 406 = .ok (.iadd, 1) := by decide +kernel
theorem dl_407 : decode code 407 = .ok (.iaload, 1) := by decide +kernel
theorem dl_408 : decode code 408 = .ok (.i2l, 1) := by decide +kernel
theorem dl_409 : decode code 409 = .ok (.bipush 32, 2) := by decide +kernel
theorem dl_411 : decode code 411 = .ok (.lshl, 1) := by decide +kernel
theorem dl_412 : decode code 412 = .ok (.aload_n 0, 1) := by decide +kernel
theorem dl_413 : decode code 413 = .ok (.iload_n 3, 1) := by decide +kernel
theorem dl_414 : decode code 414 = .ok (.iconst 2, 1) := by decide +kernel
theorem dl_415 : decode code 415 = .ok (.iadd, 1) := by decide +kernel
theorem dl_416 : decode code 416 = .ok (.iaload, 1) := by decide +kernel
theorem dl_417 : decode code 417 = .ok (.i2l, 1) := by decide +kernel
theorem dl_418 : decode code 418 = .ok (.ldc2_w 49, 3) := by decide +kernel
theorem dl_421 : decode code 421 = .ok (.land, 1) := by decide +kernel
theorem dl_422 : decode code 422 = .ok (.lor, 1) := by decide +kernel
theorem dl_423 : decode code 423 = .ok (.aload_n 0, 1) := by decide +kernel
theorem dl_424 : decode code 424 = .ok (.iload_n 3, 1) := by decide +kernel
theorem dl_425 : decode code 425 = .ok (.iconst 3, 1) := by decide +kernel
theorem dl_426 : decode code 426 = .ok (.iadd, 1) := by decide +kernel
theorem dl_427 : decode code 427 = .ok (.iaload, 1) := by decide +kernel
theorem dl_428 : decode code 428 = .ok (.invokevirtual 51, 3) := by decide +kernel
theorem dl_431 : decode code 431 = .ok (.aload_n 2, 1) := by decide +kernel
theorem dl_432 : decode code 432 = .ok (.aload_n 0, 1) := by decide +kernel
theorem dl_433 : decode code 433 = .ok (.iload_n 3, 1) := by decide +kernel
theorem dl_434 : decode code 434 = .ok (.iconst 1, 1) := by decide +kernel
theorem dl_435 : decode code 435 = .ok (.iadd, 1) := by decide +kernel
theorem dl_436 : decode code 436 = .ok (.iaload, 1) := by decide +kernel
theorem dl_437 : decode code 437 = .ok (.i2l, 1) := by decide +kernel
theorem dl_438 : decode code 438 = .ok (.bipush 32, 2) := by decide +kernel
theorem dl_440 : decode code 440 = .ok (.lshl, 1) := by decide +kernel
theorem dl_441 : decode code 441 = .ok (.aload_n 0, 1) := by decide +kernel
theorem dl_442 : decode code 442 = .ok (.iload_n 3, 1) := by decide +kernel
theorem dl_443 : decode code 443 = .ok (.iconst 2, 1) := by decide +kernel
theorem dl_444 : decode code 444 = .ok (.iadd, 1) := by decide +kernel
theorem dl_445 : decode code 445 = .ok (.iaload, 1) := by decide +kernel
theorem dl_446 : decode code 446 = .ok (.i2l, 1) := by decide +kernel
theorem dl_447 : decode code 447 = .ok (.ldc2_w 49, 3) := by decide +kernel
theorem dl_450 : decode code 450 = .ok (.land, 1) := by decide +kernel
theorem dl_451 : decode code 451 = .ok (.lor, 1) := by decide +kernel
theorem dl_452 : decode code 452 = .ok (.aload_n 0, 1) := by decide +kernel
theorem dl_453 : decode code 453 = .ok (.iload_n 3, 1) := by decide +kernel
theorem dl_454 : decode code 454 = .ok (.iconst 3, 1) := by decide +kernel
theorem dl_455 : decode code 455 = .ok (.iadd, 1) := by decide +kernel
theorem dl_456 : decode code 456 = .ok (.iaload, 1) := by decide +kernel
theorem dl_457 : decode code 457 = .ok (.invokevirtual 55, 3) := by decide +kernel
theorem dl_460 : decode code 460 = .ok (.if_icmp .eq 530, 3) := by decide +kernel
theorem dl_463 : decode code 463 = .ok (.iconst 0, 1) := by decide +kernel
theorem dl_464 : decode code 464 = .ok (.ireturn, 1) := by decide +kernel
theorem dl_465 : decode code 465 = .ok (.aload_n 1, 1) := by decide +kernel
theorem dl_466 : decode code 466 = .ok (.invokevirtual 56, 3) := by decide +kernel
theorem dl_469 : decode code 469 = .ok (.aload_n 2, 1) := by decide +kernel
theorem dl_470 : decode code 470 = .ok (.invokevirtual 59, 3) := by decide +kernel
theorem dl_473 : decode code 473 = .ok (.if_icmp .eq 517, 3) := by decide +kernel
theorem dl_476 : decode code 476 = .ok (.iconst 0, 1) := by decide +kernel
theorem dl_477 : decode code 477 = .ok (.ireturn, 1) := by decide +kernel
theorem dl_478 : decode code 478 = .ok (.aload_n 1, 1) := by decide +kernel
theorem dl_479 : decode code 479 = .ok (.invokevirtual 60, 3) := by decide +kernel
theorem dl_482 : decode code 482 = .ok (.aload_n 2, 1) := by decide +kernel
theorem dl_483 : decode code 483 = .ok (.invokevirtual 63, 3) := by decide +kernel
theorem dl_486 : decode code 486 = .ok (.if_icmp .eq 504, 3) := by decide +kernel
theorem dl_489 : decode code 489 = .ok (.iconst 0, 1) := by decide +kernel
theorem dl_490 : decode code 490 = .ok (.ireturn, 1) := by decide +kernel
theorem dl_491 : decode code 491 = .ok (.aload_n 1, 1) := by decide +kernel
theorem dl_492 : decode code 492 = .ok (.aload_n 0, 1) := by decide +kernel
theorem dl_493 : decode code 493 = .ok (.iload_n 3, 1) := by decide +kernel
theorem dl_494 : decode code 494 = .ok (.iconst 1, 1) := by decide +kernel
theorem dl_495 : decode code 495 = .ok (.iadd, 1) := by decide +kernel
theorem dl_496 : decode code 496 = .ok (.iaload, 1) := by decide +kernel
theorem dl_497 : decode code 497 = .ok (.aload_n 0, 1) := by decide +kernel
theorem dl_498 : decode code 498 = .ok (.iload_n 3, 1) := by decide +kernel
theorem dl_499 : decode code 499 = .ok (.iconst 2, 1) := by decide +kernel
theorem dl_500 : decode code 500 = .ok (.iadd, 1) := by decide +kernel
theorem dl_501 : decode code 501 = .ok (.iaload, 1) := by decide +kernel
theorem dl_502 : decode code 502 = .ok (.invokevirtual 64, 3) := by decide +kernel
