theorem d_L_403 : decode code 403 = .ok (.aload_n 3, 1) := by decide +kernel
theorem d_L_404 : decode code 404 = .ok (.iconst 0, 1) := by decide +kernel
theorem d_L_405 : decode code 405 = .ok (.laload, 1) := by decide +kernel
theorem d_L_406 : decode code 406 = .ok (.iload 6, 2) := by decide +kernel
theorem d_L_408 : decode code 408 = .ok (.ifCond .eq 7, 3) := by decide +kernel
theorem d_L_411 : decode code 411 = .ok (.lconst 1, 1) := by decide +kernel
theorem d_L_412 : decode code 412 = .ok (.goto 4, 3) := by decide +kernel
theorem d_L_415 : decode code 415 = .ok (.lconst 0, 1) := by decide +kernel
theorem d_L_416 : decode code 416 = .ok (.lcmp, 1) := by decide +kernel
theorem d_L_417 : decode code 417 = .ok (.ifCond .eq 5, 3) := by decide +kernel
theorem d_L_420 : decode code 420 = .ok (.iconst 0, 1) := by decide +kernel
theorem d_L_421 : decode code 421 = .ok (.ireturn, 1) := by decide +kernel
theorem d_L_422 : decode code 422 = .ok (.goto 668, 3) := by decide +kernel
theorem d_L_425 : decode code 425 = .ok (.aload_n 1, 1) := by decide +kernel
theorem d_L_426 : decode code 426 = .ok (.aload_n 0, 1) := by decide +kernel
theorem d_L_427 : decode code 427 = .ok (.iload 4, 2) := by decide +kernel
theorem d_L_429 : decode code 429 = .ok (.iconst 1, 1) := by decide +kernel
theorem d_L_430 : decode code 430 = .ok (.iadd, 1) := by decide +kernel
theorem d_L_431 : decode code 431 = .ok (.iaload, 1) := by decide +kernel
theorem d_L_432 : decode code 432 = .ok (.aload_n 0, 1) := by decide +kernel
theorem d_L_433 : decode code 433 = .ok (.iload 4, 2) := by decide +kernel
theorem d_L_435 : decode code 435 = .ok (.iconst 2, 1) := by decide +kernel
theorem d_L_436 : decode code 436 = .ok (.iadd, 1) := by decide +kernel
theorem d_L_437 : decode code 437 = .ok (.iaload, 1) := by decide +kernel
theorem d_L_438 : decode code 438 = .ok (.ifCond .eq 7, 3) := by decide +kernel
theorem d_L_441 : decode code 441 = .ok (.iconst 1, 1) := by decide +kernel
theorem d_L_442 : decode code 442 = .ok (.goto 4, 3) := by decide +kernel
theorem d_L_445 : decode code 445 = .ok (.iconst 0, 1) := by decide +kernel
theorem d_L_446 : decode code 446 = .ok (.invokevirtual 94, 3) := by decide +kernel
theorem d_L_449 : decode code 449 = .ok (.aload_n 2, 1) := by decide +kernel
theorem d_L_450 : decode code 450 = .ok (.aload_n 0, 1) := by decide +kernel
theorem d_L_451 : decode code 451 = .ok (.iload 4, 2) := by decide +kernel
theorem d_L_453 : decode code 453 = .ok (.iconst 1, 1) := by decide +kernel
theorem d_L_454 : decode code 454 = .ok (.iadd, 1) := by decide +kernel
theorem d_L_455 : decode code 455 = .ok (.iaload, 1) := by decide +kernel
theorem d_L_456 : decode code 456 = .ok (.aload_n 0, 1) := by decide +kernel
theorem d_L_457 : decode code 457 = .ok (.iload 4, 2) := by decide +kernel
theorem d_L_459 : decode code 459 = .ok (.iconst 2, 1) := by decide +kernel
theorem d_L_460 : decode code 460 = .ok (.iadd, 1) := by decide +kernel
theorem d_L_461 : decode code 461 = .ok (.iaload, 1) := by decide +kernel
theorem d_L_462 : decode code 462 = .ok (.ifCond .eq 7, 3) := by decide +kernel
theorem d_L_465 : decode code 465 = .ok (.iconst 1, 1) := by decide +kernel
theorem d_L_466 : decode code 466 = .ok (.goto 4, 3) := by decide +kernel
theorem d_L_469 : decode code 469 = .ok (.iconst 0, 1) := by decide +kernel
theorem d_L_470 : decode code 470 = .ok (.invokevirtual 98, 3) := by decide +kernel
theorem d_L_473 : decode code 473 = .ok (.if_icmp .eq 617, 3) := by decide +kernel
theorem d_L_476 : decode code 476 = .ok (.iconst 0, 1) := by decide +kernel
theorem d_L_477 : decode code 477 = .ok (.ireturn, 1) := by decide +kernel
theorem d_L_478 : decode code 478 = .ok (.aload_n 1, 1) := by decide +kernel
theorem d_L_479 : decode code 479 = .ok (.aload_n 0, 1) := by decide +kernel
theorem d_L_480 : decode code 480 = .ok (.iload 4, 2) := by decide +kernel
theorem d_L_482 : decode code 482 = .ok (.iconst 1, 1) := by decide +kernel
theorem d_L_483 : decode code 483 = .ok (.iadd, 1) := by decide +kernel
theorem d_L_484 : decode code 484 = .ok (.iaload, 1) := by decide +kernel
theorem d_L_485 : decode code 485 = .ok (.aload_n 0, 1) := by decide +kernel
theorem d_L_486 : decode code 486 = .ok (.iload 4, 2) := by decide +kernel
theorem d_L_488 : decode code 488 = .ok (.iconst 2, 1) := by decide +kernel
theorem d_L_489 : decode code 489 = .ok (.iadd, 1) := by decide +kernel
theorem d_L_490 : decode code 490 = .ok (.iaload, 1) := by decide +kernel
theorem d_L_491 : decode code 491 = .ok (.aload_n 3, 1) := by decide +kernel
theorem d_L_492 : decode code 492 = .ok (.invokestatic 99, 3) := by decide +kernel
theorem d_L_495 : decode code 495 = .ok (.istore 5, 2) := by decide +kernel
theorem d_L_497 : decode code 497 = .ok (.aload_n 2, 1) := by decide +kernel
theorem d_L_498 : decode code 498 = .ok (.aload_n 0, 1) := by decide +kernel
theorem d_L_499 : decode code 499 = .ok (.iload 4, 2) := by decide +kernel
theorem d_L_501 : decode code 501 = .ok (.iconst 1, 1) := by decide +kernel
theorem d_L_502 : decode code 502 = .ok (.iadd, 1) := by decide +kernel
theorem d_L_503 : decode code 503 = .ok (.iaload, 1) := by decide +kernel
theorem d_L_504 : decode code 504 = .ok (.aload_n 0, 1) := by decide +kernel
theorem d_L_505 : decode code 505 = .ok (.iload 4, 2) := by decide +kernel
theorem d_L_507 : decode code 507 = .ok (.iconst 2, 1) := by decide +kernel
theorem d_L_508 : decode code 508 = .ok (.iadd, 1) := by decide +kernel
theorem d_L_509 : decode code 509 = .ok (.iaload, 1) := by decide +kernel
theorem d_L_510 : decode code 510 = .ok (.invokevirtual 101, 3) := by decide +kernel
theorem d_L_513 : decode code 513 = .ok (.istore 6, 2) := by decide +kernel
theorem d_L_515 : decode code 515 = .ok (.aload_n 2, 1) := by decide +kernel
theorem d_L_516 : decode code 516 = .ok (.invokevirtual 73, 3) := by decide +kernel
theorem d_L_519 : decode code 519 = .ok (.iload 5, 2) := by decide +kernel
theorem d_L_521 : decode code 521 = .ok (.if_icmp .eq 5, 3) := by decide +kernel
theorem d_L_524 : decode code 524 = .ok (.iconst 0, 1) := by decide +kernel
theorem d_L_525 : decode code 525 = .ok (.ireturn, 1) := by decide +kernel
theorem d_L_526 : decode code 526 = .ok (.iload 5, 2) := by decide +kernel
theorem d_L_528 : decode code 528 = .ok (.ifCond .ne 22, 3) := by decide +kernel
theorem d_L_531 : decode code 531 = .ok (.aload_n 3, 1) := by decide +kernel
theorem d_L_532 : decode code 532 = .ok (.iconst 0, 1) := by decide +kernel
theorem d_L_533 : decode code 533 = .ok (.laload, 1) := by decide +kernel
theorem d_L_534 : decode code 534 = .ok (.iload 6, 2) := by decide +kernel
theorem d_L_536 : decode code 536 = .ok (.ifCond .eq 7, 3) := by decide +kernel
theorem d_L_539 : decode code 539 = .ok (.lconst 1, 1) := by decide +kernel
theorem d_L_540 : decode code 540 = .ok (.goto 4, 3) := by decide +kernel
theorem d_L_543 : decode code 543 = .ok (.lconst 0, 1) := by decide +kernel
theorem d_L_544 : decode code 544 = .ok (.lcmp, 1) := by decide +kernel
theorem d_L_545 : decode code 545 = .ok (.ifCond .eq 5, 3) := by decide +kernel
theorem d_L_548 : decode code 548 = .ok (.iconst 0, 1) := by decide +kernel
theorem d_L_549 : decode code 549 = .ok (.ireturn, 1) := by decide +kernel
theorem d_L_550 : decode code 550 = .ok (.goto 540, 3) := by decide +kernel
theorem d_L_553 : decode code 553 = .ok (.aload_n 1, 1) := by decide +kernel
theorem d_L_554 : decode code 554 = .ok (.aload_n 0, 1) := by decide +kernel
theorem d_L_555 : decode code 555 = .ok (.iload 4, 2) := by decide +kernel
theorem d_L_557 : decode code 557 = .ok (.iconst 1, 1) := by decide +kernel
theorem d_L_558 : decode code 558 = .ok (.iadd, 1) := by decide +kernel
theorem d_L_559 : decode code 559 = .ok (.iaload, 1) := by decide +kernel
theorem d_L_560 : decode code 560 = .ok (.aload_n 0, 1) := by decide +kernel
theorem d_L_561 : decode code 561 = .ok (.iload 4, 2) := by decide +kernel
theorem d_L_563 : decode code 563 = .ok (.iconst 2, 1) := by decide +kernel
theorem d_L_564 : decode code 564 = .ok (.iadd, 1) := by decide +kernel
theorem d_L_565 : decode code 565 = .ok (.iaload, 1) := by decide +kernel
theorem d_L_566 : decode code 566 = .ok (.aload_n 3, 1) := by decide +kernel
theorem d_L_567 : decode code 567 = .ok (.invokestatic 102, 3) := by decide +kernel
theorem d_L_570 : decode code 570 = .ok (.istore 5, 2) := by decide +kernel
