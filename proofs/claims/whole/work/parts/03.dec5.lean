theorem nD_L_law_296 : decode nC_L_law 296 = .ok (.iaload, 1) := by decide +kernel
theorem nD_L_law_297 : decode nC_L_law 297 = .ok (.invokevirtual 43, 3) := by decide +kernel
theorem nD_L_law_300 : decode nC_L_law 300 = .ok (.if_icmp .eq 212, 3) := by decide +kernel
theorem nD_L_law_303 : decode nC_L_law 303 = .ok (.iconst 0, 1) := by decide +kernel
theorem nD_L_law_304 : decode nC_L_law 304 = .ok (.ireturn, 1) := by decide +kernel
theorem nD_L_law_305 : decode nC_L_law 305 = .ok (.aload_n 1, 1) := by decide +kernel
theorem nD_L_law_306 : decode nC_L_law 306 = .ok (.aload_n 0, 1) := by decide +kernel
theorem nD_L_law_307 : decode nC_L_law 307 = .ok (.iload_n 3, 1) := by decide +kernel
theorem nD_L_law_308 : decode nC_L_law 308 = .ok (.iconst 1, 1) := by decide +kernel
theorem nD_L_law_309 : decode nC_L_law 309 = .ok (.iadd, 1) := by decide +kernel
theorem nD_L_law_310 : decode nC_L_law 310 = .ok (.iaload, 1) := by decide +kernel
theorem nD_L_law_311 : decode nC_L_law 311 = .ok (.invokevirtual 44, 3) := by decide +kernel
theorem nD_L_law_314 : decode nC_L_law 314 = .ok (.aload_n 2, 1) := by decide +kernel
theorem nD_L_law_315 : decode nC_L_law 315 = .ok (.aload_n 0, 1) := by decide +kernel
theorem nD_L_law_316 : decode nC_L_law 316 = .ok (.iload_n 3, 1) := by decide +kernel
theorem nD_L_law_317 : decode nC_L_law 317 = .ok (.iconst 1, 1) := by decide +kernel
theorem nD_L_law_318 : decode nC_L_law 318 = .ok (.iadd, 1) := by decide +kernel
theorem nD_L_law_319 : decode nC_L_law 319 = .ok (.iaload, 1) := by decide +kernel
theorem nD_L_law_320 : decode nC_L_law 320 = .ok (.invokevirtual 47, 3) := by decide +kernel
theorem nD_L_law_323 : decode nC_L_law 323 = .ok (.if_icmp .eq 189, 3) := by decide +kernel
theorem nD_L_law_326 : decode nC_L_law 326 = .ok (.iconst 0, 1) := by decide +kernel
theorem nD_L_law_327 : decode nC_L_law 327 = .ok (.ireturn, 1) := by decide +kernel
theorem nD_L_law_328 : decode nC_L_law 328 = .ok (.aload_n 1, 1) := by decide +kernel
theorem nD_L_law_329 : decode nC_L_law 329 = .ok (.invokevirtual 48, 3) := by decide +kernel
theorem nD_L_law_332 : decode nC_L_law 332 = .ok (.aload_n 2, 1) := by decide +kernel
theorem nD_L_law_333 : decode nC_L_law 333 = .ok (.invokevirtual 52, 3) := by decide +kernel
theorem nD_L_law_336 : decode nC_L_law 336 = .ok (.if_icmp .eq 176, 3) := by decide +kernel
theorem nD_L_law_339 : decode nC_L_law 339 = .ok (.iconst 0, 1) := by decide +kernel
theorem nD_L_law_340 : decode nC_L_law 340 = .ok (.ireturn, 1) := by decide +kernel
theorem nD_L_law_341 : decode nC_L_law 341 = .ok (.aload_n 1, 1) := by decide +kernel
theorem nD_L_law_342 : decode nC_L_law 342 = .ok (.invokevirtual 53, 3) := by decide +kernel
theorem nD_L_law_345 : decode nC_L_law 345 = .ok (.aload_n 2, 1) := by decide +kernel
theorem nD_L_law_346 : decode nC_L_law 346 = .ok (.invokevirtual 56, 3) := by decide +kernel
theorem nD_L_law_349 : decode nC_L_law 349 = .ok (.if_icmp .eq 163, 3) := by decide +kernel
theorem nD_L_law_352 : decode nC_L_law 352 = .ok (.iconst 0, 1) := by decide +kernel
theorem nD_L_law_353 : decode nC_L_law 353 = .ok (.ireturn, 1) := by decide +kernel
theorem nD_L_law_354 : decode nC_L_law 354 = .ok (.aload_n 1, 1) := by decide +kernel
theorem nD_L_law_355 : decode nC_L_law 355 = .ok (.invokevirtual 57, 3) := by decide +kernel
theorem nD_L_law_358 : decode nC_L_law 358 = .ok (.aload_n 2, 1) := by decide +kernel
theorem nD_L_law_359 : decode nC_L_law 359 = .ok (.invokevirtual 61, 3) := by decide +kernel
theorem nD_L_law_362 : decode nC_L_law 362 = .ok (.if_icmp .eq 150, 3) := by decide +kernel
theorem nD_L_law_365 : decode nC_L_law 365 = .ok (.iconst 0, 1) := by decide +kernel
theorem nD_L_law_366 : decode nC_L_law 366 = .ok (.ireturn, 1) := by decide +kernel
theorem nD_L_law_367 : decode nC_L_law 367 = .ok (.aload_n 1, 1) := by decide +kernel
theorem nD_L_law_368 : decode nC_L_law 368 = .ok (.invokevirtual 62, 3) := by decide +kernel
theorem nD_L_law_371 : decode nC_L_law 371 = .ok (.aload_n 2, 1) := by decide +kernel
theorem nD_L_law_372 : decode nC_L_law 372 = .ok (.invokevirtual 65, 3) := by decide +kernel
theorem nD_L_law_375 : decode nC_L_law 375 = .ok (.if_icmp .eq 137, 3) := by decide +kernel
theorem nD_L_law_378 : decode nC_L_law 378 = .ok (.iconst 0, 1) := by decide +kernel
theorem nD_L_law_379 : decode nC_L_law 379 = .ok (.ireturn, 1) := by decide +kernel
theorem nD_L_law_380 : decode nC_L_law 380 = .ok (.aload_n 1, 1) := by decide +kernel
theorem nD_L_law_381 : decode nC_L_law 381 = .ok (.invokevirtual 66, 3) := by decide +kernel
theorem nD_L_law_384 : decode nC_L_law 384 = .ok (.aload_n 2, 1) := by decide +kernel
theorem nD_L_law_385 : decode nC_L_law 385 = .ok (.invokevirtual 70, 3) := by decide +kernel
theorem nD_L_law_388 : decode nC_L_law 388 = .ok (.lcmp, 1) := by decide +kernel
theorem nD_L_law_389 : decode nC_L_law 389 = .ok (.ifCond .eq 123, 3) := by decide +kernel
theorem nD_L_law_392 : decode nC_L_law 392 = .ok (.iconst 0, 1) := by decide +kernel
theorem nD_L_law_393 : decode nC_L_law 393 = .ok (.ireturn, 1) := by decide +kernel
theorem nD_L_law_394 : decode nC_L_law 394 = .ok (.aload_n 1, 1) := by decide +kernel
theorem nD_L_law_395 : decode nC_L_law 395 = .ok (.invokevirtual 71, 3) := by decide +kernel
theorem nD_L_law_398 : decode nC_L_law 398 = .ok (.aload_n 2, 1) := by decide +kernel
theorem nD_L_law_399 : decode nC_L_law 399 = .ok (.invokevirtual 74, 3) := by decide +kernel
theorem nD_L_law_402 : decode nC_L_law 402 = .ok (.if_icmp .eq 110, 3) := by decide +kernel
theorem nD_L_law_405 : decode nC_L_law 405 = .ok (.iconst 0, 1) := by decide +kernel
theorem nD_L_law_406 : decode nC_L_law 406 = .ok (.ireturn, 1) := by decide +kernel
theorem nD_L_law_407 : decode nC_L_law 407 = .ok (.aload_n 1, 1) := by decide +kernel
theorem nD_L_law_408 : decode nC_L_law 408 = .ok (.invokevirtual 75, 3) := by decide +kernel
theorem nD_L_law_411 : decode nC_L_law 411 = .ok (.aload_n 2, 1) := by decide +kernel
theorem nD_L_law_412 : decode nC_L_law 412 = .ok (.invokevirtual 78, 3) := by decide +kernel
theorem nD_L_law_415 : decode nC_L_law 415 = .ok (.if_icmp .eq 97, 3) := by decide +kernel
theorem nD_L_law_418 : decode nC_L_law 418 = .ok (.iconst 0, 1) := by decide +kernel
theorem nD_L_law_419 : decode nC_L_law 419 = .ok (.ireturn, 1) := by decide +kernel
theorem nD_L_law_420 : decode nC_L_law 420 = .ok (.aload_n 1, 1) := by decide +kernel
theorem nD_L_law_421 : decode nC_L_law 421 = .ok (.invokevirtual 79, 3) := by decide +kernel
theorem nD_L_law_424 : decode nC_L_law 424 = .ok (.aload_n 2, 1) := by decide +kernel
theorem nD_L_law_425 : decode nC_L_law 425 = .ok (.invokevirtual 82, 3) := by decide +kernel
theorem nD_L_law_428 : decode nC_L_law 428 = .ok (.if_icmp .eq 84, 3) := by decide +kernel
theorem nD_L_law_431 : decode nC_L_law 431 = .ok (.iconst 0, 1) := by decide +kernel
theorem nD_L_law_432 : decode nC_L_law 432 = .ok (.ireturn, 1) := by decide +kernel
theorem nD_L_law_433 : decode nC_L_law 433 = .ok (.aload_n 1, 1) := by decide +kernel
theorem nD_L_law_434 : decode nC_L_law 434 = .ok (.aload_n 0, 1) := by decide +kernel
theorem nD_L_law_435 : decode nC_L_law 435 = .ok (.iload_n 3, 1) := by decide +kernel
theorem nD_L_law_436 : decode nC_L_law 436 = .ok (.iconst 1, 1) := by decide +kernel
theorem nD_L_law_437 : decode nC_L_law 437 = .ok (.iadd, 1) := by decide +kernel
theorem nD_L_law_438 : decode nC_L_law 438 = .ok (.iaload, 1) := by decide +kernel
theorem nD_L_law_439 : decode nC_L_law 439 = .ok (.aload_n 0, 1) := by decide +kernel
theorem nD_L_law_440 : decode nC_L_law 440 = .ok (.iload_n 3, 1) := by decide +kernel
theorem nD_L_law_441 : decode nC_L_law 441 = .ok (.iconst 2, 1) := by decide +kernel
theorem nD_L_law_442 : decode nC_L_law 442 = .ok (.iadd, 1) := by decide +kernel
theorem nD_L_law_443 : decode nC_L_law 443 = .ok (.iaload, 1) := by decide +kernel
theorem nD_L_law_444 : decode nC_L_law 444 = .ok (.invokevirtual 83, 3) := by decide +kernel
theorem nD_L_law_447 : decode nC_L_law 447 = .ok (.aload_n 2, 1) := by decide +kernel
theorem nD_L_law_448 : decode nC_L_law 448 = .ok (.aload_n 0, 1) := by decide +kernel
theorem nD_L_law_449 : decode nC_L_law 449 = .ok (.iload_n 3, 1) := by decide +kernel
theorem nD_L_law_450 : decode nC_L_law 450 = .ok (.iconst 1, 1) := by decide +kernel
theorem nD_L_law_451 : decode nC_L_law 451 = .ok (.iadd, 1) := by decide +kernel
theorem nD_L_law_452 : decode nC_L_law 452 = .ok (.iaload, 1) := by decide +kernel
theorem nD_L_law_453 : decode nC_L_law 453 = .ok (.aload_n 0, 1) := by decide +kernel
theorem nD_L_law_454 : decode nC_L_law 454 = .ok (.iload_n 3, 1) := by decide +kernel
theorem nD_L_law_455 : decode nC_L_law 455 = .ok (.iconst 2, 1) := by decide +kernel
theorem nD_L_law_456 : decode nC_L_law 456 = .ok (.iadd, 1) := by decide +kernel
theorem nD_L_law_457 : decode nC_L_law 457 = .ok (.iaload, 1) := by decide +kernel
theorem nD_L_law_458 : decode nC_L_law 458 = .ok (.invokevirtual 86, 3) := by decide +kernel
theorem nD_L_law_461 : decode nC_L_law 461 = .ok (.if_icmp .eq 51, 3) := by decide +kernel
theorem nD_L_law_464 : decode nC_L_law 464 = .ok (.iconst 0, 1) := by decide +kernel
theorem nD_L_law_465 : decode nC_L_law 465 = .ok (.ireturn, 1) := by decide +kernel
theorem nD_L_law_466 : decode nC_L_law 466 = .ok (.aload_n 1, 1) := by decide +kernel
theorem nD_L_law_467 : decode nC_L_law 467 = .ok (.aload_n 0, 1) := by decide +kernel
theorem nD_L_law_468 : decode nC_L_law 468 = .ok (.iload_n 3, 1) := by decide +kernel
theorem nD_L_law_469 : decode nC_L_law 469 = .ok (.iconst 1, 1) := by decide +kernel
theorem nD_L_law_470 : decode nC_L_law 470 = .ok (.iadd, 1) := by decide +kernel
theorem nD_L_law_471 : decode nC_L_law 471 = .ok (.iaload, 1) := by decide +kernel
theorem nD_L_law_472 : decode nC_L_law 472 = .ok (.invokevirtual 87, 3) := by decide +kernel
theorem nD_L_law_475 : decode nC_L_law 475 = .ok (.aload_n 2, 1) := by decide +kernel
theorem nD_L_law_476 : decode nC_L_law 476 = .ok (.aload_n 0, 1) := by decide +kernel
theorem nD_L_law_477 : decode nC_L_law 477 = .ok (.iload_n 3, 1) := by decide +kernel
theorem nD_L_law_478 : decode nC_L_law 478 = .ok (.iconst 1, 1) := by decide +kernel
theorem nD_L_law_479 : decode nC_L_law 479 = .ok (.iadd, 1) := by decide +kernel
theorem nD_L_law_480 : decode nC_L_law 480 = .ok (.iaload, 1) := by decide +kernel
theorem nD_L_law_481 : decode nC_L_law 481 = .ok (.invokevirtual 90, 3) := by decide +kernel
theorem nD_L_law_484 : decode nC_L_law 484 = .ok (.if_icmp .eq 28, 3) := by decide +kernel
theorem nD_L_law_487 : decode nC_L_law 487 = .ok (.iconst 0, 1) := by decide +kernel
theorem nD_L_law_488 : decode nC_L_law 488 = .ok (.ireturn, 1) := by decide +kernel
theorem nD_L_law_489 : decode nC_L_law 489 = .ok (.aload_n 1, 1) := by decide +kernel
theorem nD_L_law_490 : decode nC_L_law 490 = .ok (.aload_n 0, 1) := by decide +kernel
theorem nD_L_law_491 : decode nC_L_law 491 = .ok (.iload_n 3, 1) := by decide +kernel
theorem nD_L_law_492 : decode nC_L_law 492 = .ok (.iconst 1, 1) := by decide +kernel
theorem nD_L_law_493 : decode nC_L_law 493 = .ok (.iadd, 1) := by decide +kernel
theorem nD_L_law_494 : decode nC_L_law 494 = .ok (.iaload, 1) := by decide +kernel
theorem nD_L_law_495 : decode nC_L_law 495 = .ok (.invokevirtual 91, 3) := by decide +kernel
theorem nD_L_law_498 : decode nC_L_law 498 = .ok (.aload_n 2, 1) := by decide +kernel
theorem nD_L_law_499 : decode nC_L_law 499 = .ok (.aload_n 0, 1) := by decide +kernel
theorem nD_L_law_500 : decode nC_L_law 500 = .ok (.iload_n 3, 1) := by decide +kernel
theorem nD_L_law_501 : decode nC_L_law 501 = .ok (.iconst 1, 1) := by decide +kernel
theorem nD_L_law_502 : decode nC_L_law 502 = .ok (.iadd, 1) := by decide +kernel
theorem nD_L_law_503 : decode nC_L_law 503 = .ok (.iaload, 1) := by decide +kernel
theorem nD_L_law_504 : decode nC_L_law 504 = .ok (.invokevirtual 95, 3) := by decide +kernel
theorem nD_L_law_507 : decode nC_L_law 507 = .ok (.if_icmp .eq 5, 3) := by decide +kernel
theorem nD_L_law_510 : decode nC_L_law 510 = .ok (.iconst 0, 1) := by decide +kernel
theorem nD_L_law_511 : decode nC_L_law 511 = .ok (.ireturn, 1) := by decide +kernel
theorem nD_L_law_512 : decode nC_L_law 512 = .ok (.iinc 3 3, 3) := by decide +kernel
theorem nD_L_law_515 : decode nC_L_law 515 = .ok (.goto (-477), 3) := by decide +kernel
theorem nD_L_law_518 : decode nC_L_law 518 = .ok (.iconst 1, 1) := by decide +kernel
theorem nD_L_law_519 : decode nC_L_law 519 = .ok (.ireturn, 1) := by decide +kernel
