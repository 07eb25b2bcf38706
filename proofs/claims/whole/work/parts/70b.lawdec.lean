theorem dW_385 : decode code 385 = .ok (.iload 4, 2) := by decide +kernel
theorem dW_387 : decode code 387 = .ok (.iconst 1, 1) := by decide +kernel
theorem dW_388 : decode code 388 = .ok (.iadd, 1) := by decide +kernel
theorem dW_389 : decode code 389 = .ok (.iaload, 1) := by decide +kernel
theorem dW_390 : decode code 390 = .ok (.aload_n 3, 1) := by decide +kernel
theorem dW_391 : decode code 391 = .ok (.invokestatic 126, 3) := by decide +kernel
theorem dW_394 : decode code 394 = .ok (.istore 5, 2) := by decide +kernel
theorem dW_396 : decode code 396 = .ok (.aload_n 2, 1) := by decide +kernel
theorem dW_397 : decode code 397 = .ok (.aload_n 0, 1) := by decide +kernel
theorem dW_398 : decode code 398 = .ok (.iload 4, 2) := by decide +kernel
theorem dW_400 : decode code 400 = .ok (.iconst 1, 1) := by decide +kernel
theorem dW_401 : decode code 401 = .ok (.iadd, 1) := by decide +kernel
theorem dW_402 : decode code 402 = .ok (.iaload, 1) := by decide +kernel
theorem dW_403 : decode code 403 = .ok (.invokevirtual 129, 3) := by decide +kernel
theorem dW_406 : decode code 406 = .ok (.istore 6, 2) := by decide +kernel
theorem dW_408 : decode code 408 = .ok (.aload_n 2, 1) := by decide +kernel
theorem dW_409 : decode code 409 = .ok (.invokevirtual 115, 3) := by decide +kernel
theorem dW_412 : decode code 412 = .ok (.iload 5, 2) := by decide +kernel
theorem dW_414 : decode code 414 = .ok (.if_icmp .eq 5, 3) := by decide +kernel
theorem dW_417 : decode code 417 = .ok (.iconst 0, 1) := by decide +kernel
theorem dW_418 : decode code 418 = .ok (.ireturn, 1) := by decide +kernel
theorem dW_419 : decode code 419 = .ok (.iload 5, 2) := by decide +kernel
theorem dW_421 : decode code 421 = .ok (.ifCond .ne 15, 3) := by decide +kernel
theorem dW_424 : decode code 424 = .ok (.aload_n 3, 1) := by decide +kernel
theorem dW_425 : decode code 425 = .ok (.iconst 0, 1) := by decide +kernel
theorem dW_426 : decode code 426 = .ok (.laload, 1) := by decide +kernel
theorem dW_427 : decode code 427 = .ok (.iload 6, 2) := by decide +kernel
theorem dW_429 : decode code 429 = .ok (.i2l, 1) := by decide +kernel
theorem dW_430 : decode code 430 = .ok (.lcmp, 1) := by decide +kernel
theorem dW_431 : decode code 431 = .ok (.ifCond .eq 5, 3) := by decide +kernel
theorem dW_434 : decode code 434 = .ok (.iconst 0, 1) := by decide +kernel
theorem dW_435 : decode code 435 = .ok (.ireturn, 1) := by decide +kernel
theorem dW_436 : decode code 436 = .ok (.goto 1545, 3) := by decide +kernel
theorem dW_439 : decode code 439 = .ok (.aload_n 1, 1) := by decide +kernel
theorem dW_440 : decode code 440 = .ok (.aload_n 0, 1) := by decide +kernel
theorem dW_441 : decode code 441 = .ok (.iload 4, 2) := by decide +kernel
theorem dW_443 : decode code 443 = .ok (.iconst 1, 1) := by decide +kernel
theorem dW_444 : decode code 444 = .ok (.iadd, 1) := by decide +kernel
theorem dW_445 : decode code 445 = .ok (.iaload, 1) := by decide +kernel
theorem dW_446 : decode code 446 = .ok (.aload_n 0, 1) := by decide +kernel
theorem dW_447 : decode code 447 = .ok (.iload 4, 2) := by decide +kernel
theorem dW_449 : decode code 449 = .ok (.iconst 2, 1) := by decide +kernel
theorem dW_450 : decode code 450 = .ok (.iadd, 1) := by decide +kernel
theorem dW_451 : decode code 451 = .ok (.iaload, 1) := by decide +kernel
theorem dW_452 : decode code 452 = .ok (.aload_n 0, 1) := by decide +kernel
theorem dW_453 : decode code 453 = .ok (.iload 4, 2) := by decide +kernel
theorem dW_455 : decode code 455 = .ok (.iconst 3, 1) := by decide +kernel
theorem dW_456 : decode code 456 = .ok (.iadd, 1) := by decide +kernel
theorem dW_457 : decode code 457 = .ok (.iaload, 1) := by decide +kernel
theorem dW_458 : decode code 458 = .ok (.aload_n 3, 1) := by decide +kernel
theorem dW_459 : decode code 459 = .ok (.invokestatic 130, 3) := by decide +kernel
theorem dW_462 : decode code 462 = .ok (.istore 5, 2) := by decide +kernel
theorem dW_464 : decode code 464 = .ok (.aload_n 2, 1) := by decide +kernel
theorem dW_465 : decode code 465 = .ok (.aload_n 0, 1) := by decide +kernel
theorem dW_466 : decode code 466 = .ok (.iload 4, 2) := by decide +kernel
theorem dW_468 : decode code 468 = .ok (.iconst 1, 1) := by decide +kernel
theorem dW_469 : decode code 469 = .ok (.iadd, 1) := by decide +kernel
theorem dW_470 : decode code 470 = .ok (.iaload, 1) := by decide +kernel
theorem dW_471 : decode code 471 = .ok (.aload_n 0, 1) := by decide +kernel
theorem dW_472 : decode code 472 = .ok (.iload 4, 2) := by decide +kernel
theorem dW_474 : decode code 474 = .ok (.iconst 2, 1) := by decide +kernel
theorem dW_475 : decode code 475 = .ok (.iadd, 1) := by decide +kernel
theorem dW_476 : decode code 476 = .ok (.iaload, 1) := by decide +kernel
theorem dW_477 : decode code 477 = .ok (.aload_n 0, 1) := by decide +kernel
theorem dW_478 : decode code 478 = .ok (.iload 4, 2) := by decide +kernel
theorem dW_480 : decode code 480 = .ok (.iconst 3, 1) := by decide +kernel
theorem dW_481 : decode code 481 = .ok (.iadd, 1) := by decide +kernel
theorem dW_482 : decode code 482 = .ok (.iaload, 1) := by decide +kernel
theorem dW_483 : decode code 483 = .ok (.invokevirtual 133, 3) := by decide +kernel
theorem dW_486 : decode code 486 = .ok (.istore 6, 2) := by decide +kernel
theorem dW_488 : decode code 488 = .ok (.aload_n 2, 1) := by decide +kernel
theorem dW_489 : decode code 489 = .ok (.invokevirtual 115, 3) := by decide +kernel
theorem dW_492 : decode code 492 = .ok (.iload 5, 2) := by decide +kernel
theorem dW_494 : decode code 494 = .ok (.if_icmp .eq 5, 3) := by decide +kernel
theorem dW_497 : decode code 497 = .ok (.iconst 0, 1) := by decide +kernel
theorem dW_498 : decode code 498 = .ok (.ireturn, 1) := by decide +kernel
theorem dW_499 : decode code 499 = .ok (.iload 5, 2) := by decide +kernel
theorem dW_501 : decode code 501 = .ok (.ifCond .ne 15, 3) := by decide +kernel
theorem dW_504 : decode code 504 = .ok (.aload_n 3, 1) := by decide +kernel
theorem dW_505 : decode code 505 = .ok (.iconst 0, 1) := by decide +kernel
theorem dW_506 : decode code 506 = .ok (.laload, 1) := by decide +kernel
theorem dW_507 : decode code 507 = .ok (.iload 6, 2) := by decide +kernel
theorem dW_509 : decode code 509 = .ok (.i2l, 1) := by decide +kernel
theorem dW_510 : decode code 510 = .ok (.lcmp, 1) := by decide +kernel
theorem dW_511 : decode code 511 = .ok (.ifCond .eq 5, 3) := by decide +kernel
theorem dW_514 : decode code 514 = .ok (.iconst 0, 1) := by decide +kernel
theorem dW_515 : decode code 515 = .ok (.ireturn, 1) := by decide +kernel
theorem dW_516 : decode code 516 = .ok (.goto 1465, 3) := by decide +kernel
theorem dW_519 : decode code 519 = .ok (.aload_n 1, 1) := by decide +kernel
theorem dW_520 : decode code 520 = .ok (.aload_n 0, 1) := by decide +kernel
theorem dW_521 : decode code 521 = .ok (.iload 4, 2) := by decide +kernel
theorem dW_523 : decode code 523 = .ok (.iconst 1, 1) := by decide +kernel
theorem dW_524 : decode code 524 = .ok (.iadd, 1) := by decide +kernel
theorem dW_525 : decode code 525 = .ok (.iaload, 1) := by decide +kernel
theorem dW_526 : decode code 526 = .ok (.aload_n 0, 1) := by decide +kernel
theorem dW_527 : decode code 527 = .ok (.iload 4, 2) := by decide +kernel
theorem dW_529 : decode code 529 = .ok (.iconst 2, 1) := by decide +kernel
theorem dW_530 : decode code 530 = .ok (.iadd, 1) := by decide +kernel
theorem dW_531 : decode code 531 = .ok (.iaload, 1) := by decide +kernel
theorem dW_532 : decode code 532 = .ok (.aload_n 3, 1) := by decide +kernel
theorem dW_533 : decode code 533 = .ok (.invokestatic 134, 3) := by decide +kernel
theorem dW_536 : decode code 536 = .ok (.istore 5, 2) := by decide +kernel
theorem dW_538 : decode code 538 = .ok (.aload_n 2, 1) := by decide +kernel
theorem dW_539 : decode code 539 = .ok (.aload_n 0, 1) := by decide +kernel
theorem dW_540 : decode code 540 = .ok (.iload 4, 2) := by decide +kernel
theorem dW_542 : decode code 542 = .ok (.iconst 1, 1) := by decide +kernel
theorem dW_543 : decode code 543 = .ok (.iadd, 1) := by decide +kernel
theorem dW_544 : decode code 544 = .ok (.iaload, 1) := by decide +kernel
theorem dW_545 : decode code 545 = .ok (.aload_n 0, 1) := by decide +kernel
theorem dW_546 : decode code 546 = .ok (.iload 4, 2) := by decide +kernel
theorem dW_548 : decode code 548 = .ok (.iconst 2, 1) := by decide +kernel
theorem dW_549 : decode code 549 = .ok (.iadd, 1) := by decide +kernel
theorem dW_550 : decode code 550 = .ok (.iaload, 1) := by decide +kernel
theorem dW_551 : decode code 551 = .ok (.invokevirtual 136, 3) := by decide +kernel
theorem dW_554 : decode code 554 = .ok (.istore 6, 2) := by decide +kernel
theorem dW_556 : decode code 556 = .ok (.aload_n 2, 1) := by decide +kernel
theorem dW_557 : decode code 557 = .ok (.invokevirtual 115, 3) := by decide +kernel
theorem dW_560 : decode code 560 = .ok (.iload 5, 2) := by decide +kernel
theorem dW_562 : decode code 562 = .ok (.if_icmp .eq 5, 3) := by decide +kernel
theorem dW_565 : decode code 565 = .ok (.iconst 0, 1) := by decide +kernel
theorem dW_566 : decode code 566 = .ok (.ireturn, 1) := by decide +kernel
theorem dW_567 : decode code 567 = .ok (.iload 5, 2) := by decide +kernel
theorem dW_569 : decode code 569 = .ok (.ifCond .ne 15, 3) := by decide +kernel
theorem dW_572 : decode code 572 = .ok (.aload_n 3, 1) := by decide +kernel
theorem dW_573 : decode code 573 = .ok (.iconst 0, 1) := by decide +kernel
theorem dW_574 : decode code 574 = .ok (.laload, 1) := by decide +kernel
theorem dW_575 : decode code 575 = .ok (.iload 6, 2) := by decide +kernel
theorem dW_577 : decode code 577 = .ok (.i2l, 1) := by decide +kernel
theorem dW_578 : decode code 578 = .ok (.lcmp, 1) := by decide +kernel
theorem dW_579 : decode code 579 = .ok (.ifCond .eq 5, 3) := by decide +kernel
theorem dW_582 : decode code 582 = .ok (.iconst 0, 1) := by decide +kernel
theorem dW_583 : decode code 583 = .ok (.ireturn, 1) := by decide +kernel
theorem dW_584 : decode code 584 = .ok (.goto 1397, 3) := by decide +kernel
theorem dW_587 : decode code 587 = .ok (.aload_n 1, 1) := by decide +kernel
theorem dW_588 : decode code 588 = .ok (.aload_n 3, 1) := by decide +kernel
theorem dW_589 : decode code 589 = .ok (.invokestatic 137, 3) := by decide +kernel
theorem dW_592 : decode code 592 = .ok (.istore 5, 2) := by decide +kernel
theorem dW_594 : decode code 594 = .ok (.aload_n 2, 1) := by decide +kernel
theorem dW_595 : decode code 595 = .ok (.invokevirtual 140, 3) := by decide +kernel
theorem dW_598 : decode code 598 = .ok (.istore 6, 2) := by decide +kernel
theorem dW_600 : decode code 600 = .ok (.aload_n 2, 1) := by decide +kernel
theorem dW_601 : decode code 601 = .ok (.invokevirtual 115, 3) := by decide +kernel
theorem dW_604 : decode code 604 = .ok (.iload 5, 2) := by decide +kernel
theorem dW_606 : decode code 606 = .ok (.if_icmp .eq 5, 3) := by decide +kernel
theorem dW_609 : decode code 609 = .ok (.iconst 0, 1) := by decide +kernel
theorem dW_610 : decode code 610 = .ok (.ireturn, 1) := by decide +kernel
theorem dW_611 : decode code 611 = .ok (.iload 5, 2) := by decide +kernel
theorem dW_613 : decode code 613 = .ok (.ifCond .ne 15, 3) := by decide +kernel
theorem dW_616 : decode code 616 = .ok (.aload_n 3, 1) := by decide +kernel
theorem dW_617 : decode code 617 = .ok (.iconst 0, 1) := by decide +kernel
