theorem dL_limits_367 : decode cL_limits 367 = .ok (.ifCond .eq 101, 3) := by decide +kernel
theorem dL_limits_370 : decode cL_limits 370 = .ok (.aload_n 0, 1) := by decide +kernel
theorem dL_limits_371 : decode cL_limits 371 = .ok (.iconst 2, 1) := by decide +kernel
theorem dL_limits_372 : decode cL_limits 372 = .ok (.ldc2_w 215, 3) := by decide +kernel
theorem dL_limits_375 : decode cL_limits 375 = .ok (.ldc2_w 217, 3) := by decide +kernel
theorem dL_limits_378 : decode cL_limits 378 = .ok (.iconst 5, 1) := by decide +kernel
theorem dL_limits_379 : decode cL_limits 379 = .ok (.invokestatic 156, 3) := by decide +kernel
theorem dL_limits_382 : decode cL_limits 382 = .ok (.ifCond .eq 86, 3) := by decide +kernel
theorem dL_limits_385 : decode cL_limits 385 = .ok (.aload_n 0, 1) := by decide +kernel
theorem dL_limits_386 : decode cL_limits 386 = .ok (.iconst 2, 1) := by decide +kernel
theorem dL_limits_387 : decode cL_limits 387 = .ok (.ldc2_w 219, 3) := by decide +kernel
theorem dL_limits_390 : decode cL_limits 390 = .ok (.ldc2_w 221, 3) := by decide +kernel
theorem dL_limits_393 : decode cL_limits 393 = .ok (.invokestatic 162, 3) := by decide +kernel
theorem dL_limits_396 : decode cL_limits 396 = .ok (.ifCond .eq 72, 3) := by decide +kernel
theorem dL_limits_399 : decode cL_limits 399 = .ok (.aload_n 0, 1) := by decide +kernel
theorem dL_limits_400 : decode cL_limits 400 = .ok (.iconst 2, 1) := by decide +kernel
theorem dL_limits_401 : decode cL_limits 401 = .ok (.ldc2_w 223, 3) := by decide +kernel
theorem dL_limits_404 : decode cL_limits 404 = .ok (.ldc2_w 225, 3) := by decide +kernel
theorem dL_limits_407 : decode cL_limits 407 = .ok (.bipush 7, 2) := by decide +kernel
theorem dL_limits_409 : decode cL_limits 409 = .ok (.invokestatic 156, 3) := by decide +kernel
theorem dL_limits_412 : decode cL_limits 412 = .ok (.ifCond .eq 56, 3) := by decide +kernel
theorem dL_limits_415 : decode cL_limits 415 = .ok (.aload_n 0, 1) := by decide +kernel
theorem dL_limits_416 : decode cL_limits 416 = .ok (.iconst 2, 1) := by decide +kernel
theorem dL_limits_417 : decode cL_limits 417 = .ok (.ldc2_w 227, 3) := by decide +kernel
theorem dL_limits_420 : decode cL_limits 420 = .ok (.ldc2_w 229, 3) := by decide +kernel
theorem dL_limits_423 : decode cL_limits 423 = .ok (.invokestatic 162, 3) := by decide +kernel
theorem dL_limits_426 : decode cL_limits 426 = .ok (.ifCond .eq 42, 3) := by decide +kernel
theorem dL_limits_429 : decode cL_limits 429 = .ok (.aload_n 0, 1) := by decide +kernel
theorem dL_limits_430 : decode cL_limits 430 = .ok (.iconst 2, 1) := by decide +kernel
theorem dL_limits_431 : decode cL_limits 431 = .ok (.iconst 1, 1) := by decide +kernel
theorem dL_limits_432 : decode cL_limits 432 = .ok (.invokevirtual 72, 3) := by decide +kernel
theorem dL_limits_435 : decode cL_limits 435 = .ok (.iconst 4, 1) := by decide +kernel
theorem dL_limits_436 : decode cL_limits 436 = .ok (.if_icmp .ne 32, 3) := by decide +kernel
theorem dL_limits_439 : decode cL_limits 439 = .ok (.aload_n 0, 1) := by decide +kernel
theorem dL_limits_440 : decode cL_limits 440 = .ok (.iconst 2, 1) := by decide +kernel
theorem dL_limits_441 : decode cL_limits 441 = .ok (.ldc2_w 231, 3) := by decide +kernel
theorem dL_limits_444 : decode cL_limits 444 = .ok (.ldc2_w 233, 3) := by decide +kernel
theorem dL_limits_447 : decode cL_limits 447 = .ok (.iconst 5, 1) := by decide +kernel
theorem dL_limits_448 : decode cL_limits 448 = .ok (.invokestatic 156, 3) := by decide +kernel
theorem dL_limits_451 : decode cL_limits 451 = .ok (.ifCond .eq 17, 3) := by decide +kernel
theorem dL_limits_454 : decode cL_limits 454 = .ok (.aload_n 0, 1) := by decide +kernel
theorem dL_limits_455 : decode cL_limits 455 = .ok (.iconst 2, 1) := by decide +kernel
theorem dL_limits_456 : decode cL_limits 456 = .ok (.ldc2_w 231, 3) := by decide +kernel
theorem dL_limits_459 : decode cL_limits 459 = .ok (.ldc2_w 235, 3) := by decide +kernel
theorem dL_limits_462 : decode cL_limits 462 = .ok (.invokestatic 162, 3) := by decide +kernel
theorem dL_limits_465 : decode cL_limits 465 = .ok (.ifCond .ne 5, 3) := by decide +kernel
theorem dL_limits_468 : decode cL_limits 468 = .ok (.iconst 0, 1) := by decide +kernel
theorem dL_limits_469 : decode cL_limits 469 = .ok (.ireturn, 1) := by decide +kernel
theorem dL_limits_470 : decode cL_limits 470 = .ok (.aload_n 0, 1) := by decide +kernel
theorem dL_limits_471 : decode cL_limits 471 = .ok (.iconst 3, 1) := by decide +kernel
theorem dL_limits_472 : decode cL_limits 472 = .ok (.ldc2_w 237, 3) := by decide +kernel
theorem dL_limits_475 : decode cL_limits 475 = .ok (.lconst 0, 1) := by decide +kernel
theorem dL_limits_476 : decode cL_limits 476 = .ok (.iconst 1, 1) := by decide +kernel
theorem dL_limits_477 : decode cL_limits 477 = .ok (.invokestatic 156, 3) := by decide +kernel
theorem dL_limits_480 : decode cL_limits 480 = .ok (.ifCond .ne 5, 3) := by decide +kernel
theorem dL_limits_483 : decode cL_limits 483 = .ok (.iconst 0, 1) := by decide +kernel
theorem dL_limits_484 : decode cL_limits 484 = .ok (.ireturn, 1) := by decide +kernel
theorem dL_limits_485 : decode cL_limits 485 = .ok (.iconst 1, 1) := by decide +kernel
theorem dL_limits_486 : decode cL_limits 486 = .ok (.istore_n 1, 1) := by decide +kernel
theorem dL_limits_487 : decode cL_limits 487 = .ok (.iload_n 1, 1) := by decide +kernel
theorem dL_limits_488 : decode cL_limits 488 = .ok (.bipush 10, 2) := by decide +kernel
theorem dL_limits_490 : decode cL_limits 490 = .ok (.if_icmp .ge 27, 3) := by decide +kernel
theorem dL_limits_493 : decode cL_limits 493 = .ok (.aload_n 0, 1) := by decide +kernel
theorem dL_limits_494 : decode cL_limits 494 = .ok (.iconst 3, 1) := by decide +kernel
theorem dL_limits_495 : decode cL_limits 495 = .ok (.iconst 3, 1) := by decide +kernel
theorem dL_limits_496 : decode cL_limits 496 = .ok (.iconst 0, 1) := by decide +kernel
theorem dL_limits_497 : decode cL_limits 497 = .ok (.iconst 2, 1) := by decide +kernel
theorem dL_limits_498 : decode cL_limits 498 = .ok (.invokevirtual 31, 3) := by decide +kernel
theorem dL_limits_501 : decode cL_limits 501 = .ok (.iconst 1, 1) := by decide +kernel
theorem dL_limits_502 : decode cL_limits 502 = .ok (.iconst 4, 1) := by decide +kernel
theorem dL_limits_503 : decode cL_limits 503 = .ok (.iload_n 1, 1) := by decide +kernel
theorem dL_limits_504 : decode cL_limits 504 = .ok (.imul, 1) := by decide +kernel
theorem dL_limits_505 : decode cL_limits 505 = .ok (.iadd, 1) := by decide +kernel
theorem dL_limits_506 : decode cL_limits 506 = .ok (.if_icmp .eq 5, 3) := by decide +kernel
theorem dL_limits_509 : decode cL_limits 509 = .ok (.iconst 0, 1) := by decide +kernel
theorem dL_limits_510 : decode cL_limits 510 = .ok (.ireturn, 1) := by decide +kernel
theorem dL_limits_511 : decode cL_limits 511 = .ok (.iinc 1 1, 3) := by decide +kernel
theorem dL_limits_514 : decode cL_limits 514 = .ok (.goto (-27), 3) := by decide +kernel
theorem dL_limits_517 : decode cL_limits 517 = .ok (.aload_n 0, 1) := by decide +kernel
theorem dL_limits_518 : decode cL_limits 518 = .ok (.iconst 3, 1) := by decide +kernel
theorem dL_limits_519 : decode cL_limits 519 = .ok (.iconst 1, 1) := by decide +kernel
theorem dL_limits_520 : decode cL_limits 520 = .ok (.invokevirtual 72, 3) := by decide +kernel
theorem dL_limits_523 : decode cL_limits 523 = .ok (.bipush 11, 2) := by decide +kernel
theorem dL_limits_525 : decode cL_limits 525 = .ok (.if_icmp .ne 52, 3) := by decide +kernel
theorem dL_limits_528 : decode cL_limits 528 = .ok (.aload_n 0, 1) := by decide +kernel
theorem dL_limits_529 : decode cL_limits 529 = .ok (.iconst 4, 1) := by decide +kernel
theorem dL_limits_530 : decode cL_limits 530 = .ok (.iconst 3, 1) := by decide +kernel
theorem dL_limits_531 : decode cL_limits 531 = .ok (.iconst 3, 1) := by decide +kernel
theorem dL_limits_532 : decode cL_limits 532 = .ok (.iconst 0, 1) := by decide +kernel
theorem dL_limits_533 : decode cL_limits 533 = .ok (.iconst 1, 1) := by decide +kernel
theorem dL_limits_534 : decode cL_limits 534 = .ok (.iconst 0, 1) := by decide +kernel
theorem dL_limits_535 : decode cL_limits 535 = .ok (.invokestatic 125, 3) := by decide +kernel
theorem dL_limits_538 : decode cL_limits 538 = .ok (.invokestatic 121, 3) := by decide +kernel
theorem dL_limits_541 : decode cL_limits 541 = .ok (.ldc 105, 2) := by decide +kernel
theorem dL_limits_543 : decode cL_limits 543 = .ok (.if_icmp .ne 34, 3) := by decide +kernel
theorem dL_limits_546 : decode cL_limits 546 = .ok (.aload_n 0, 1) := by decide +kernel
theorem dL_limits_547 : decode cL_limits 547 = .ok (.iconst 3, 1) := by decide +kernel
theorem dL_limits_548 : decode cL_limits 548 = .ok (.iconst 3, 1) := by decide +kernel
theorem dL_limits_549 : decode cL_limits 549 = .ok (.iconst 3, 1) := by decide +kernel
theorem dL_limits_550 : decode cL_limits 550 = .ok (.iconst 0, 1) := by decide +kernel
theorem dL_limits_551 : decode cL_limits 551 = .ok (.invokevirtual 31, 3) := by decide +kernel
theorem dL_limits_554 : decode cL_limits 554 = .ok (.bipush 38, 2) := by decide +kernel
theorem dL_limits_556 : decode cL_limits 556 = .ok (.if_icmp .ne 21, 3) := by decide +kernel
theorem dL_limits_559 : decode cL_limits 559 = .ok (.aload_n 0, 1) := by decide +kernel
theorem dL_limits_560 : decode cL_limits 560 = .ok (.iconst 4, 1) := by decide +kernel
theorem dL_limits_561 : decode cL_limits 561 = .ok (.iconst 3, 1) := by decide +kernel
theorem dL_limits_562 : decode cL_limits 562 = .ok (.iconst 5, 1) := by decide +kernel
theorem dL_limits_563 : decode cL_limits 563 = .ok (.iconst 3, 1) := by decide +kernel
theorem dL_limits_564 : decode cL_limits 564 = .ok (.iconst 0, 1) := by decide +kernel
theorem dL_limits_565 : decode cL_limits 565 = .ok (.iconst 0, 1) := by decide +kernel
theorem dL_limits_566 : decode cL_limits 566 = .ok (.invokestatic 125, 3) := by decide +kernel
theorem dL_limits_569 : decode cL_limits 569 = .ok (.invokestatic 121, 3) := by decide +kernel
theorem dL_limits_572 : decode cL_limits 572 = .ok (.ldc 105, 2) := by decide +kernel
theorem dL_limits_574 : decode cL_limits 574 = .ok (.if_icmp .eq 5, 3) := by decide +kernel
theorem dL_limits_577 : decode cL_limits 577 = .ok (.iconst 0, 1) := by decide +kernel
theorem dL_limits_578 : decode cL_limits 578 = .ok (.ireturn, 1) := by decide +kernel
theorem dL_limits_579 : decode cL_limits 579 = .ok (.aload_n 0, 1) := by decide +kernel
theorem dL_limits_580 : decode cL_limits 580 = .ok (.iconst 3, 1) := by decide +kernel
theorem dL_limits_581 : decode cL_limits 581 = .ok (.iconst 2, 1) := by decide +kernel
theorem dL_limits_582 : decode cL_limits 582 = .ok (.invokevirtual 72, 3) := by decide +kernel
theorem dL_limits_585 : decode cL_limits 585 = .ok (.bipush 19, 2) := by decide +kernel
theorem dL_limits_587 : decode cL_limits 587 = .ok (.if_icmp .ne 7, 3) := by decide +kernel
theorem dL_limits_590 : decode cL_limits 590 = .ok (.iconst 1, 1) := by decide +kernel
theorem dL_limits_591 : decode cL_limits 591 = .ok (.goto 4, 3) := by decide +kernel
theorem dL_limits_594 : decode cL_limits 594 = .ok (.iconst 0, 1) := by decide +kernel
theorem dL_limits_595 : decode cL_limits 595 = .ok (.ireturn, 1) := by decide +kernel
theorem dL_isError_0 : decode cL_isError 0 = .ok (.aload_n 0, 1) := by decide +kernel
theorem dL_isError_1 : decode cL_isError 1 = .ok (.invokevirtual 142, 3) := by decide +kernel
theorem dL_isError_4 : decode cL_isError 4 = .ok (.ifCond .lt 32, 3) := by decide +kernel
theorem dL_isError_7 : decode cL_isError 7 = .ok (.aload_n 0, 1) := by decide +kernel
theorem dL_isError_8 : decode cL_isError 8 = .ok (.lload_n 1, 1) := by decide +kernel
theorem dL_isError_9 : decode cL_isError 9 = .ok (.invokestatic 145, 3) := by decide +kernel
theorem dL_isError_12 : decode cL_isError 12 = .ok (.ifCond .eq 24, 3) := by decide +kernel
theorem dL_isError_15 : decode cL_isError 15 = .ok (.aload_n 0, 1) := by decide +kernel
theorem dL_isError_16 : decode cL_isError 16 = .ok (.lload_n 3, 1) := by decide +kernel
theorem dL_isError_17 : decode cL_isError 17 = .ok (.invokestatic 145, 3) := by decide +kernel
theorem dL_isError_20 : decode cL_isError 20 = .ok (.ifCond .eq 16, 3) := by decide +kernel
theorem dL_isError_23 : decode cL_isError 23 = .ok (.aload_n 0, 1) := by decide +kernel
theorem dL_isError_24 : decode cL_isError 24 = .ok (.invokevirtual 239, 3) := by decide +kernel
theorem dL_isError_27 : decode cL_isError 27 = .ok (.iload 5, 2) := by decide +kernel
theorem dL_isError_29 : decode cL_isError 29 = .ok (.if_icmp .ne 7, 3) := by decide +kernel
theorem dL_isError_32 : decode cL_isError 32 = .ok (.iconst 1, 1) := by decide +kernel
theorem dL_isError_33 : decode cL_isError 33 = .ok (.goto 4, 3) := by decide +kernel
theorem dL_isError_36 : decode cL_isError 36 = .ok (.iconst 0, 1) := by decide +kernel
theorem dL_isError_37 : decode cL_isError 37 = .ok (.ireturn, 1) := by decide +kernel
theorem dL_texts_0 : decode cL_texts 0 = .ok (.new 14, 3) := by decide +kernel
theorem dL_texts_3 : decode cL_texts 3 = .ok (.dup, 1) := by decide +kernel
theorem dL_texts_4 : decode cL_texts 4 = .ok (.invokespecial 149, 3) := by decide +kernel
theorem dL_texts_7 : decode cL_texts 7 = .ok (.astore_n 0, 1) := by decide +kernel
theorem dL_texts_8 : decode cL_texts 8 = .ok (.aload_n 0, 1) := by decide +kernel
theorem dL_texts_9 : decode cL_texts 9 = .ok (.ldc2_w 242, 3) := by decide +kernel
theorem dL_texts_12 : decode cL_texts 12 = .ok (.lconst 0, 1) := by decide +kernel
theorem dL_texts_13 : decode cL_texts 13 = .ok (.iconst 1, 1) := by decide +kernel
theorem dL_texts_14 : decode cL_texts 14 = .ok (.invokestatic 244, 3) := by decide +kernel
theorem dL_texts_17 : decode cL_texts 17 = .ok (.ifCond .eq 133, 3) := by decide +kernel
theorem dL_texts_20 : decode cL_texts 20 = .ok (.aload_n 0, 1) := by decide +kernel
theorem dL_texts_21 : decode cL_texts 21 = .ok (.ldc2_w 248, 3) := by decide +kernel
theorem dL_texts_24 : decode cL_texts 24 = .ok (.lconst 0, 1) := by decide +kernel
theorem dL_texts_25 : decode cL_texts 25 = .ok (.iconst 4, 1) := by decide +kernel
theorem dL_texts_26 : decode cL_texts 26 = .ok (.invokestatic 244, 3) := by decide +kernel
theorem dL_texts_29 : decode cL_texts 29 = .ok (.ifCond .eq 121, 3) := by decide +kernel
theorem dL_texts_32 : decode cL_texts 32 = .ok (.aload_n 0, 1) := by decide +kernel
theorem dL_texts_33 : decode cL_texts 33 = .ok (.ldc2_w 250, 3) := by decide +kernel
theorem dL_texts_36 : decode cL_texts 36 = .ok (.lconst 0, 1) := by decide +kernel
theorem dL_texts_37 : decode cL_texts 37 = .ok (.iconst 3, 1) := by decide +kernel
theorem dL_texts_38 : decode cL_texts 38 = .ok (.invokestatic 244, 3) := by decide +kernel
theorem dL_texts_41 : decode cL_texts 41 = .ok (.ifCond .eq 109, 3) := by decide +kernel
theorem dL_texts_44 : decode cL_texts 44 = .ok (.aload_n 0, 1) := by decide +kernel
theorem dL_texts_45 : decode cL_texts 45 = .ok (.ldc2_w 252, 3) := by decide +kernel
theorem dL_texts_48 : decode cL_texts 48 = .ok (.lconst 0, 1) := by decide +kernel
theorem dL_texts_49 : decode cL_texts 49 = .ok (.iconst 0, 1) := by decide +kernel
theorem dL_texts_50 : decode cL_texts 50 = .ok (.invokestatic 244, 3) := by decide +kernel
theorem dL_texts_53 : decode cL_texts 53 = .ok (.ifCond .eq 97, 3) := by decide +kernel
theorem dL_texts_56 : decode cL_texts 56 = .ok (.aload_n 0, 1) := by decide +kernel
theorem dL_texts_57 : decode cL_texts 57 = .ok (.ldc2_w 254, 3) := by decide +kernel
theorem dL_texts_60 : decode cL_texts 60 = .ok (.lconst 0, 1) := by decide +kernel
theorem dL_texts_61 : decode cL_texts 61 = .ok (.iconst 1, 1) := by decide +kernel
theorem dL_texts_62 : decode cL_texts 62 = .ok (.invokestatic 244, 3) := by decide +kernel
theorem dL_texts_65 : decode cL_texts 65 = .ok (.ifCond .eq 85, 3) := by decide +kernel
theorem dL_texts_68 : decode cL_texts 68 = .ok (.aload_n 0, 1) := by decide +kernel
theorem dL_texts_69 : decode cL_texts 69 = .ok (.ldc2_w 256, 3) := by decide +kernel
theorem dL_texts_72 : decode cL_texts 72 = .ok (.lconst 0, 1) := by decide +kernel
theorem dL_texts_73 : decode cL_texts 73 = .ok (.iconst 3, 1) := by decide +kernel
theorem dL_texts_74 : decode cL_texts 74 = .ok (.invokestatic 244, 3) := by decide +kernel
theorem dL_texts_77 : decode cL_texts 77 = .ok (.ifCond .eq 73, 3) := by decide +kernel
theorem dL_texts_80 : decode cL_texts 80 = .ok (.aload_n 0, 1) := by decide +kernel
theorem dL_texts_81 : decode cL_texts 81 = .ok (.ldc2_w 258, 3) := by decide +kernel
theorem dL_texts_84 : decode cL_texts 84 = .ok (.lconst 0, 1) := by decide +kernel
theorem dL_texts_85 : decode cL_texts 85 = .ok (.iconst 2, 1) := by decide +kernel
theorem dL_texts_86 : decode cL_texts 86 = .ok (.invokestatic 244, 3) := by decide +kernel
theorem dL_texts_89 : decode cL_texts 89 = .ok (.ifCond .eq 61, 3) := by decide +kernel
theorem dL_texts_92 : decode cL_texts 92 = .ok (.aload_n 0, 1) := by decide +kernel
theorem dL_texts_93 : decode cL_texts 93 = .ok (.ldc2_w 260, 3) := by decide +kernel
theorem dL_texts_96 : decode cL_texts 96 = .ok (.lconst 0, 1) := by decide +kernel
theorem dL_texts_97 : decode cL_texts 97 = .ok (.iconst 2, 1) := by decide +kernel
theorem dL_texts_98 : decode cL_texts 98 = .ok (.invokestatic 244, 3) := by decide +kernel
theorem dL_texts_101 : decode cL_texts 101 = .ok (.ifCond .eq 49, 3) := by decide +kernel
theorem dL_texts_104 : decode cL_texts 104 = .ok (.aload_n 0, 1) := by decide +kernel
theorem dL_texts_105 : decode cL_texts 105 = .ok (.ldc2_w 262, 3) := by decide +kernel
theorem dL_texts_108 : decode cL_texts 108 = .ok (.lconst 0, 1) := by decide +kernel
theorem dL_texts_109 : decode cL_texts 109 = .ok (.iconst 1, 1) := by decide +kernel
theorem dL_texts_110 : decode cL_texts 110 = .ok (.invokestatic 244, 3) := by decide +kernel
theorem dL_texts_113 : decode cL_texts 113 = .ok (.ifCond .eq 37, 3) := by decide +kernel
theorem dL_texts_116 : decode cL_texts 116 = .ok (.aload_n 0, 1) := by decide +kernel
theorem dL_texts_117 : decode cL_texts 117 = .ok (.ldc2_w 264, 3) := by decide +kernel
theorem dL_texts_120 : decode cL_texts 120 = .ok (.lconst 0, 1) := by decide +kernel
theorem dL_texts_121 : decode cL_texts 121 = .ok (.iconst 3, 1) := by decide +kernel
theorem dL_texts_122 : decode cL_texts 122 = .ok (.invokestatic 244, 3) := by decide +kernel
theorem dL_texts_125 : decode cL_texts 125 = .ok (.ifCond .eq 25, 3) := by decide +kernel
theorem dL_texts_128 : decode cL_texts 128 = .ok (.aload_n 0, 1) := by decide +kernel
theorem dL_texts_129 : decode cL_texts 129 = .ok (.ldc2_w 266, 3) := by decide +kernel
theorem dL_texts_132 : decode cL_texts 132 = .ok (.lconst 0, 1) := by decide +kernel
theorem dL_texts_133 : decode cL_texts 133 = .ok (.iconst 3, 1) := by decide +kernel
theorem dL_texts_134 : decode cL_texts 134 = .ok (.invokestatic 244, 3) := by decide +kernel
theorem dL_texts_137 : decode cL_texts 137 = .ok (.ifCond .eq 13, 3) := by decide +kernel
theorem dL_texts_140 : decode cL_texts 140 = .ok (.aload_n 0, 1) := by decide +kernel
theorem dL_texts_141 : decode cL_texts 141 = .ok (.lconst 0, 1) := by decide +kernel
theorem dL_texts_142 : decode cL_texts 142 = .ok (.lconst 0, 1) := by decide +kernel
theorem dL_texts_143 : decode cL_texts 143 = .ok (.iconst 0, 1) := by decide +kernel
theorem dL_texts_144 : decode cL_texts 144 = .ok (.invokestatic 244, 3) := by decide +kernel
theorem dL_texts_147 : decode cL_texts 147 = .ok (.ifCond .ne 5, 3) := by decide +kernel
theorem dL_texts_150 : decode cL_texts 150 = .ok (.iconst 0, 1) := by decide +kernel
theorem dL_texts_151 : decode cL_texts 151 = .ok (.ireturn, 1) := by decide +kernel
theorem dL_texts_152 : decode cL_texts 152 = .ok (.aload_n 0, 1) := by decide +kernel
theorem dL_texts_153 : decode cL_texts 153 = .ok (.ldc2_w 268, 3) := by decide +kernel
theorem dL_texts_156 : decode cL_texts 156 = .ok (.ldc2_w 270, 3) := by decide +kernel
theorem dL_texts_159 : decode cL_texts 159 = .ok (.bipush 13, 2) := by decide +kernel
theorem dL_texts_161 : decode cL_texts 161 = .ok (.invokestatic 244, 3) := by decide +kernel
theorem dL_texts_164 : decode cL_texts 164 = .ok (.ifCond .eq 140, 3) := by decide +kernel
theorem dL_texts_167 : decode cL_texts 167 = .ok (.aload_n 0, 1) := by decide +kernel
theorem dL_texts_168 : decode cL_texts 168 = .ok (.ldc2_w 272, 3) := by decide +kernel
theorem dL_texts_171 : decode cL_texts 171 = .ok (.lconst 0, 1) := by decide +kernel
theorem dL_texts_172 : decode cL_texts 172 = .ok (.iconst 3, 1) := by decide +kernel
theorem dL_texts_173 : decode cL_texts 173 = .ok (.invokestatic 244, 3) := by decide +kernel
theorem dL_texts_176 : decode cL_texts 176 = .ok (.ifCond .eq 128, 3) := by decide +kernel
theorem dL_texts_179 : decode cL_texts 179 = .ok (.aload_n 0, 1) := by decide +kernel
theorem dL_texts_180 : decode cL_texts 180 = .ok (.ldc2_w 274, 3) := by decide +kernel
theorem dL_texts_183 : decode cL_texts 183 = .ok (.lconst 0, 1) := by decide +kernel
theorem dL_texts_184 : decode cL_texts 184 = .ok (.iconst 1, 1) := by decide +kernel
theorem dL_texts_185 : decode cL_texts 185 = .ok (.invokestatic 244, 3) := by decide +kernel
theorem dL_texts_188 : decode cL_texts 188 = .ok (.ifCond .eq 116, 3) := by decide +kernel
theorem dL_texts_191 : decode cL_texts 191 = .ok (.aload_n 0, 1) := by decide +kernel
theorem dL_texts_192 : decode cL_texts 192 = .ok (.ldc2_w 276, 3) := by decide +kernel
theorem dL_texts_195 : decode cL_texts 195 = .ok (.lconst 0, 1) := by decide +kernel
theorem dL_texts_196 : decode cL_texts 196 = .ok (.bipush 7, 2) := by decide +kernel
theorem dL_texts_198 : decode cL_texts 198 = .ok (.invokestatic 244, 3) := by decide +kernel
theorem dL_texts_201 : decode cL_texts 201 = .ok (.ifCond .eq 103, 3) := by decide +kernel
theorem dL_texts_204 : decode cL_texts 204 = .ok (.aload_n 0, 1) := by decide +kernel
theorem dL_texts_205 : decode cL_texts 205 = .ok (.ldc2_w 278, 3) := by decide +kernel
theorem dL_texts_208 : decode cL_texts 208 = .ok (.lconst 0, 1) := by decide +kernel
theorem dL_texts_209 : decode cL_texts 209 = .ok (.iconst 5, 1) := by decide +kernel
theorem dL_texts_210 : decode cL_texts 210 = .ok (.invokestatic 244, 3) := by decide +kernel
theorem dL_texts_213 : decode cL_texts 213 = .ok (.ifCond .eq 91, 3) := by decide +kernel
theorem dL_texts_216 : decode cL_texts 216 = .ok (.aload_n 0, 1) := by decide +kernel
theorem dL_texts_217 : decode cL_texts 217 = .ok (.ldc2_w 280, 3) := by decide +kernel
theorem dL_texts_220 : decode cL_texts 220 = .ok (.lconst 0, 1) := by decide +kernel
theorem dL_texts_221 : decode cL_texts 221 = .ok (.iconst 5, 1) := by decide +kernel
theorem dL_texts_222 : decode cL_texts 222 = .ok (.invokestatic 244, 3) := by decide +kernel
theorem dL_texts_225 : decode cL_texts 225 = .ok (.ifCond .eq 79, 3) := by decide +kernel
theorem dL_texts_228 : decode cL_texts 228 = .ok (.aload_n 0, 1) := by decide +kernel
theorem dL_texts_229 : decode cL_texts 229 = .ok (.ldc2_w 282, 3) := by decide +kernel
theorem dL_texts_232 : decode cL_texts 232 = .ok (.lconst 0, 1) := by decide +kernel
theorem dL_texts_233 : decode cL_texts 233 = .ok (.iconst 2, 1) := by decide +kernel
theorem dL_texts_234 : decode cL_texts 234 = .ok (.invokestatic 244, 3) := by decide +kernel
theorem dL_texts_237 : decode cL_texts 237 = .ok (.ifCond .eq 67, 3) := by decide +kernel
theorem dL_texts_240 : decode cL_texts 240 = .ok (.aload_n 0, 1) := by decide +kernel
theorem dL_texts_241 : decode cL_texts 241 = .ok (.ldc2_w 284, 3) := by decide +kernel
theorem dL_texts_244 : decode cL_texts 244 = .ok (.lconst 0, 1) := by decide +kernel
theorem dL_texts_245 : decode cL_texts 245 = .ok (.bipush 7, 2) := by decide +kernel
theorem dL_texts_247 : decode cL_texts 247 = .ok (.invokestatic 244, 3) := by decide +kernel
theorem dL_texts_250 : decode cL_texts 250 = .ok (.ifCond .eq 54, 3) := by decide +kernel
theorem dL_texts_253 : decode cL_texts 253 = .ok (.aload_n 0, 1) := by decide +kernel
theorem dL_texts_254 : decode cL_texts 254 = .ok (.ldc2_w 286, 3) := by decide +kernel
theorem dL_texts_257 : decode cL_texts 257 = .ok (.lconst 0, 1) := by decide +kernel
theorem dL_texts_258 : decode cL_texts 258 = .ok (.iconst 2, 1) := by decide +kernel
theorem dL_texts_259 : decode cL_texts 259 = .ok (.invokestatic 244, 3) := by decide +kernel
theorem dL_texts_262 : decode cL_texts 262 = .ok (.ifCond .eq 42, 3) := by decide +kernel
theorem dL_texts_265 : decode cL_texts 265 = .ok (.aload_n 0, 1) := by decide +kernel
theorem dL_texts_266 : decode cL_texts 266 = .ok (.ldc2_w 288, 3) := by decide +kernel
theorem dL_texts_269 : decode cL_texts 269 = .ok (.lconst 0, 1) := by decide +kernel
theorem dL_texts_270 : decode cL_texts 270 = .ok (.iconst 4, 1) := by decide +kernel
theorem dL_texts_271 : decode cL_texts 271 = .ok (.invokestatic 244, 3) := by decide +kernel
theorem dL_texts_274 : decode cL_texts 274 = .ok (.ifCond .eq 30, 3) := by decide +kernel
theorem dL_texts_277 : decode cL_texts 277 = .ok (.aload_n 0, 1) := by decide +kernel
theorem dL_texts_278 : decode cL_texts 278 = .ok (.ldc2_w 290, 3) := by decide +kernel
theorem dL_texts_281 : decode cL_texts 281 = .ok (.lconst 0, 1) := by decide +kernel
theorem dL_texts_282 : decode cL_texts 282 = .ok (.iconst 0, 1) := by decide +kernel
theorem dL_texts_283 : decode cL_texts 283 = .ok (.invokestatic 244, 3) := by decide +kernel
theorem dL_texts_286 : decode cL_texts 286 = .ok (.ifCond .eq 18, 3) := by decide +kernel
theorem dL_texts_289 : decode cL_texts 289 = .ok (.aload_n 0, 1) := by decide +kernel
theorem dL_texts_290 : decode cL_texts 290 = .ok (.ldc2_w 292, 3) := by decide +kernel
theorem dL_texts_293 : decode cL_texts 293 = .ok (.ldc2_w 294, 3) := by decide +kernel
theorem dL_texts_296 : decode cL_texts 296 = .ok (.bipush 10, 2) := by decide +kernel
theorem dL_texts_298 : decode cL_texts 298 = .ok (.invokestatic 244, 3) := by decide +kernel
theorem dL_texts_301 : decode cL_texts 301 = .ok (.ifCond .ne 5, 3) := by decide +kernel
theorem dL_texts_304 : decode cL_texts 304 = .ok (.iconst 0, 1) := by decide +kernel
theorem dL_texts_305 : decode cL_texts 305 = .ok (.ireturn, 1) := by decide +kernel
theorem dL_texts_306 : decode cL_texts 306 = .ok (.aload_n 0, 1) := by decide +kernel
theorem dL_texts_307 : decode cL_texts 307 = .ok (.invokevirtual 142, 3) := by decide +kernel
theorem dL_texts_310 : decode cL_texts 310 = .ok (.bipush 10, 2) := by decide +kernel
theorem dL_texts_312 : decode cL_texts 312 = .ok (.if_icmp .ne 12, 3) := by decide +kernel
theorem dL_texts_315 : decode cL_texts 315 = .ok (.aload_n 0, 1) := by decide +kernel
theorem dL_texts_316 : decode cL_texts 316 = .ok (.bipush 6, 2) := by decide +kernel
theorem dL_texts_318 : decode cL_texts 318 = .ok (.invokevirtual 90, 3) := by decide +kernel
theorem dL_texts_321 : decode cL_texts 321 = .ok (.ifCond .eq 5, 3) := by decide +kernel
theorem dL_texts_324 : decode cL_texts 324 = .ok (.iconst 0, 1) := by decide +kernel
theorem dL_texts_325 : decode cL_texts 325 = .ok (.ireturn, 1) := by decide +kernel
theorem dL_texts_326 : decode cL_texts 326 = .ok (.iconst 0, 1) := by decide +kernel
theorem dL_texts_327 : decode cL_texts 327 = .ok (.istore_n 1, 1) := by decide +kernel
theorem dL_texts_328 : decode cL_texts 328 = .ok (.iload_n 1, 1) := by decide +kernel
theorem dL_texts_329 : decode cL_texts 329 = .ok (.bipush 60, 2) := by decide +kernel
theorem dL_texts_331 : decode cL_texts 331 = .ok (.if_icmp .ge 45, 3) := by decide +kernel
theorem dL_texts_334 : decode cL_texts 334 = .ok (.aload_n 0, 1) := by decide +kernel
theorem dL_texts_335 : decode cL_texts 335 = .ok (.iload_n 1, 1) := by decide +kernel
theorem dL_texts_336 : decode cL_texts 336 = .ok (.bipush 58, 2) := by decide +kernel
theorem dL_texts_338 : decode cL_texts 338 = .ok (.if_icmp .ge 8, 3) := by decide +kernel
theorem dL_texts_341 : decode cL_texts 341 = .ok (.bipush 33, 2) := by decide +kernel
theorem dL_texts_343 : decode cL_texts 343 = .ok (.goto 16, 3) := by decide +kernel
theorem dL_texts_346 : decode cL_texts 346 = .ok (.iload_n 1, 1) := by decide +kernel
theorem dL_texts_347 : decode cL_texts 347 = .ok (.bipush 58, 2) := by decide +kernel
theorem dL_texts_349 : decode cL_texts 349 = .ok (.if_icmp .ne 8, 3) := by decide +kernel
theorem dL_texts_352 : decode cL_texts 352 = .ok (.bipush 100, 2) := by decide +kernel
theorem dL_texts_354 : decode cL_texts 354 = .ok (.goto 5, 3) := by decide +kernel
theorem dL_texts_357 : decode cL_texts 357 = .ok (.bipush 63, 2) := by decide +kernel
theorem dL_texts_359 : decode cL_texts 359 = .ok (.invokevirtual 43, 3) := by decide +kernel
theorem dL_texts_362 : decode cL_texts 362 = .ok (.iload_n 1, 1) := by decide +kernel
theorem dL_texts_363 : decode cL_texts 363 = .ok (.iconst 1, 1) := by decide +kernel
theorem dL_texts_364 : decode cL_texts 364 = .ok (.iadd, 1) := by decide +kernel
theorem dL_texts_365 : decode cL_texts 365 = .ok (.if_icmp .eq 5, 3) := by decide +kernel
theorem dL_texts_368 : decode cL_texts 368 = .ok (.iconst 0, 1) := by decide +kernel
theorem dL_texts_369 : decode cL_texts 369 = .ok (.ireturn, 1) := by decide +kernel
theorem dL_texts_370 : decode cL_texts 370 = .ok (.iinc 1 1, 3) := by decide +kernel
theorem dL_texts_373 : decode cL_texts 373 = .ok (.goto (-45), 3) := by decide +kernel
theorem dL_texts_376 : decode cL_texts 376 = .ok (.aload_n 0, 1) := by decide +kernel
theorem dL_texts_377 : decode cL_texts 377 = .ok (.bipush 8, 2) := by decide +kernel
theorem dL_texts_379 : decode cL_texts 379 = .ok (.bipush 33, 2) := by decide +kernel
theorem dL_texts_381 : decode cL_texts 381 = .ok (.iconst 0, 1) := by decide +kernel
theorem dL_texts_382 : decode cL_texts 382 = .ok (.lconst 0, 1) := by decide +kernel
theorem dL_texts_383 : decode cL_texts 383 = .ok (.invokestatic 121, 3) := by decide +kernel
theorem dL_texts_386 : decode cL_texts 386 = .ok (.ldc 105, 2) := by decide +kernel
theorem dL_texts_388 : decode cL_texts 388 = .ok (.if_icmp .ne 95, 3) := by decide +kernel
theorem dL_texts_391 : decode cL_texts 391 = .ok (.aload_n 0, 1) := by decide +kernel
theorem dL_texts_392 : decode cL_texts 392 = .ok (.invokevirtual 239, 3) := by decide +kernel
theorem dL_texts_395 : decode cL_texts 395 = .ok (.bipush 60, 2) := by decide +kernel
theorem dL_texts_397 : decode cL_texts 397 = .ok (.if_icmp .ne 86, 3) := by decide +kernel
theorem dL_texts_400 : decode cL_texts 400 = .ok (.aload_n 0, 1) := by decide +kernel
theorem dL_texts_401 : decode cL_texts 401 = .ok (.iconst 5, 1) := by decide +kernel
theorem dL_texts_402 : decode cL_texts 402 = .ok (.invokevirtual 27, 3) := by decide +kernel
theorem dL_texts_405 : decode cL_texts 405 = .ok (.bipush 59, 2) := by decide +kernel
theorem dL_texts_407 : decode cL_texts 407 = .ok (.if_icmp .ne 76, 3) := by decide +kernel
theorem dL_texts_410 : decode cL_texts 410 = .ok (.aload_n 0, 1) := by decide +kernel
theorem dL_texts_411 : decode cL_texts 411 = .ok (.iconst 5, 1) := by decide +kernel
theorem dL_texts_412 : decode cL_texts 412 = .ok (.iconst 1, 1) := by decide +kernel
theorem dL_texts_413 : decode cL_texts 413 = .ok (.invokevirtual 72, 3) := by decide +kernel
theorem dL_texts_416 : decode cL_texts 416 = .ok (.bipush 59, 2) := by decide +kernel
theorem dL_texts_418 : decode cL_texts 418 = .ok (.if_icmp .ne 65, 3) := by decide +kernel
theorem dL_texts_421 : decode cL_texts 421 = .ok (.aload_n 0, 1) := by decide +kernel
theorem dL_texts_422 : decode cL_texts 422 = .ok (.iconst 5, 1) := by decide +kernel
theorem dL_texts_423 : decode cL_texts 423 = .ok (.iconst 4, 1) := by decide +kernel
theorem dL_texts_424 : decode cL_texts 424 = .ok (.invokevirtual 72, 3) := by decide +kernel
theorem dL_texts_427 : decode cL_texts 427 = .ok (.bipush 60, 2) := by decide +kernel
theorem dL_texts_429 : decode cL_texts 429 = .ok (.if_icmp .ne 54, 3) := by decide +kernel
theorem dL_texts_432 : decode cL_texts 432 = .ok (.aload_n 0, 1) := by decide +kernel
theorem dL_texts_433 : decode cL_texts 433 = .ok (.iconst 5, 1) := by decide +kernel
theorem dL_texts_434 : decode cL_texts 434 = .ok (.bipush 57, 2) := by decide +kernel
theorem dL_texts_436 : decode cL_texts 436 = .ok (.invokevirtual 75, 3) := by decide +kernel
theorem dL_texts_439 : decode cL_texts 439 = .ok (.bipush 33, 2) := by decide +kernel
theorem dL_texts_441 : decode cL_texts 441 = .ok (.if_icmp .ne 42, 3) := by decide +kernel
theorem dL_texts_444 : decode cL_texts 444 = .ok (.aload_n 0, 1) := by decide +kernel
theorem dL_texts_445 : decode cL_texts 445 = .ok (.iconst 5, 1) := by decide +kernel
theorem dL_texts_446 : decode cL_texts 446 = .ok (.bipush 59, 2) := by decide +kernel
theorem dL_texts_448 : decode cL_texts 448 = .ok (.invokevirtual 75, 3) := by decide +kernel
theorem dL_texts_451 : decode cL_texts 451 = .ok (.bipush 63, 2) := by decide +kernel
theorem dL_texts_453 : decode cL_texts 453 = .ok (.if_icmp .ne 30, 3) := by decide +kernel
theorem dL_texts_456 : decode cL_texts 456 = .ok (.aload_n 0, 1) := by decide +kernel
theorem dL_texts_457 : decode cL_texts 457 = .ok (.iconst 4, 1) := by decide +kernel
theorem dL_texts_458 : decode cL_texts 458 = .ok (.iconst 0, 1) := by decide +kernel
theorem dL_texts_459 : decode cL_texts 459 = .ok (.iconst 5, 1) := by decide +kernel
theorem dL_texts_460 : decode cL_texts 460 = .ok (.iconst 5, 1) := by decide +kernel
theorem dL_texts_461 : decode cL_texts 461 = .ok (.iconst 0, 1) := by decide +kernel
theorem dL_texts_462 : decode cL_texts 462 = .ok (.iconst 0, 1) := by decide +kernel
theorem dL_texts_463 : decode cL_texts 463 = .ok (.invokestatic 125, 3) := by decide +kernel
theorem dL_texts_466 : decode cL_texts 466 = .ok (.invokestatic 121, 3) := by decide +kernel
theorem dL_texts_469 : decode cL_texts 469 = .ok (.ldc 105, 2) := by decide +kernel
theorem dL_texts_471 : decode cL_texts 471 = .ok (.if_icmp .ne 12, 3) := by decide +kernel
theorem dL_texts_474 : decode cL_texts 474 = .ok (.aload_n 0, 1) := by decide +kernel
theorem dL_texts_475 : decode cL_texts 475 = .ok (.iconst 2, 1) := by decide +kernel
theorem dL_texts_476 : decode cL_texts 476 = .ok (.invokevirtual 90, 3) := by decide +kernel
theorem dL_texts_479 : decode cL_texts 479 = .ok (.iconst 1, 1) := by decide +kernel
theorem dL_texts_480 : decode cL_texts 480 = .ok (.if_icmp .eq 5, 3) := by decide +kernel
theorem dL_texts_483 : decode cL_texts 483 = .ok (.iconst 0, 1) := by decide +kernel
theorem dL_texts_484 : decode cL_texts 484 = .ok (.ireturn, 1) := by decide +kernel
theorem dL_texts_485 : decode cL_texts 485 = .ok (.iconst 0, 1) := by decide +kernel
theorem dL_texts_486 : decode cL_texts 486 = .ok (.istore_n 1, 1) := by decide +kernel
theorem dL_texts_487 : decode cL_texts 487 = .ok (.iload_n 1, 1) := by decide +kernel
theorem dL_texts_488 : decode cL_texts 488 = .ok (.bipush 60, 2) := by decide +kernel
theorem dL_texts_490 : decode cL_texts 490 = .ok (.if_icmp .ge 67, 3) := by decide +kernel
theorem dL_texts_493 : decode cL_texts 493 = .ok (.aload_n 0, 1) := by decide +kernel
theorem dL_texts_494 : decode cL_texts 494 = .ok (.iload_n 1, 1) := by decide +kernel
theorem dL_texts_495 : decode cL_texts 495 = .ok (.bipush 56, 2) := by decide +kernel
theorem dL_texts_497 : decode cL_texts 497 = .ok (.if_icmp .ge 8, 3) := by decide +kernel
theorem dL_texts_500 : decode cL_texts 500 = .ok (.bipush 40, 2) := by decide +kernel
theorem dL_texts_502 : decode cL_texts 502 = .ok (.goto 38, 3) := by decide +kernel
theorem dL_texts_505 : decode cL_texts 505 = .ok (.iload_n 1, 1) := by decide +kernel
theorem dL_texts_506 : decode cL_texts 506 = .ok (.bipush 56, 2) := by decide +kernel
theorem dL_texts_508 : decode cL_texts 508 = .ok (.if_icmp .ne 8, 3) := by decide +kernel
theorem dL_texts_511 : decode cL_texts 511 = .ok (.bipush 97, 2) := by decide +kernel
theorem dL_texts_513 : decode cL_texts 513 = .ok (.goto 27, 3) := by decide +kernel
theorem dL_texts_516 : decode cL_texts 516 = .ok (.iload_n 1, 1) := by decide +kernel
theorem dL_texts_517 : decode cL_texts 517 = .ok (.bipush 57, 2) := by decide +kernel
theorem dL_texts_519 : decode cL_texts 519 = .ok (.if_icmp .ne 8, 3) := by decide +kernel
theorem dL_texts_522 : decode cL_texts 522 = .ok (.bipush 60, 2) := by decide +kernel
theorem dL_texts_524 : decode cL_texts 524 = .ok (.goto 16, 3) := by decide +kernel
theorem dL_texts_527 : decode cL_texts 527 = .ok (.iload_n 1, 1) := by decide +kernel
theorem dL_texts_528 : decode cL_texts 528 = .ok (.bipush 58, 2) := by decide +kernel
theorem dL_texts_530 : decode cL_texts 530 = .ok (.if_icmp .ne 8, 3) := by decide +kernel
theorem dL_texts_533 : decode cL_texts 533 = .ok (.bipush 57, 2) := by decide +kernel
theorem dL_texts_535 : decode cL_texts 535 = .ok (.goto 5, 3) := by decide +kernel
theorem dL_texts_538 : decode cL_texts 538 = .ok (.bipush 41, 2) := by decide +kernel
theorem dL_texts_540 : decode cL_texts 540 = .ok (.invokevirtual 43, 3) := by decide +kernel
theorem dL_texts_543 : decode cL_texts 543 = .ok (.iload_n 1, 1) := by decide +kernel
theorem dL_texts_544 : decode cL_texts 544 = .ok (.iconst 1, 1) := by decide +kernel
theorem dL_texts_545 : decode cL_texts 545 = .ok (.iadd, 1) := by decide +kernel
theorem dL_texts_546 : decode cL_texts 546 = .ok (.if_icmp .eq 5, 3) := by decide +kernel
theorem dL_texts_549 : decode cL_texts 549 = .ok (.iconst 0, 1) := by decide +kernel
theorem dL_texts_550 : decode cL_texts 550 = .ok (.ireturn, 1) := by decide +kernel
theorem dL_texts_551 : decode cL_texts 551 = .ok (.iinc 1 1, 3) := by decide +kernel
theorem dL_texts_554 : decode cL_texts 554 = .ok (.goto (-67), 3) := by decide +kernel
theorem dL_texts_557 : decode cL_texts 557 = .ok (.aload_n 0, 1) := by decide +kernel
theorem dL_texts_558 : decode cL_texts 558 = .ok (.invokevirtual 239, 3) := by decide +kernel
theorem dL_texts_561 : decode cL_texts 561 = .ok (.bipush 60, 2) := by decide +kernel
theorem dL_texts_563 : decode cL_texts 563 = .ok (.if_icmp .ne 44, 3) := by decide +kernel
theorem dL_texts_566 : decode cL_texts 566 = .ok (.aload_n 0, 1) := by decide +kernel
theorem dL_texts_567 : decode cL_texts 567 = .ok (.iconst 3, 1) := by decide +kernel
theorem dL_texts_568 : decode cL_texts 568 = .ok (.iconst 0, 1) := by decide +kernel
theorem dL_texts_569 : decode cL_texts 569 = .ok (.iconst 0, 1) := by decide +kernel
theorem dL_texts_570 : decode cL_texts 570 = .ok (.lconst 0, 1) := by decide +kernel
theorem dL_texts_571 : decode cL_texts 571 = .ok (.invokestatic 121, 3) := by decide +kernel
theorem dL_texts_574 : decode cL_texts 574 = .ok (.ldc 102, 2) := by decide +kernel
theorem dL_texts_576 : decode cL_texts 576 = .ok (.if_icmp .ne 31, 3) := by decide +kernel
theorem dL_texts_579 : decode cL_texts 579 = .ok (.aload_n 0, 1) := by decide +kernel
theorem dL_texts_580 : decode cL_texts 580 = .ok (.invokevirtual 142, 3) := by decide +kernel
theorem dL_texts_583 : decode cL_texts 583 = .ok (.bipush 60, 2) := by decide +kernel
theorem dL_texts_585 : decode cL_texts 585 = .ok (.if_icmp .ne 22, 3) := by decide +kernel
theorem dL_texts_588 : decode cL_texts 588 = .ok (.aload_n 0, 1) := by decide +kernel
theorem dL_texts_589 : decode cL_texts 589 = .ok (.invokevirtual 46, 3) := by decide +kernel
theorem dL_texts_592 : decode cL_texts 592 = .ok (.ifCond .ne 15, 3) := by decide +kernel
theorem dL_texts_595 : decode cL_texts 595 = .ok (.aload_n 0, 1) := by decide +kernel
theorem dL_texts_596 : decode cL_texts 596 = .ok (.iconst 2, 1) := by decide +kernel
theorem dL_texts_597 : decode cL_texts 597 = .ok (.invokevirtual 90, 3) := by decide +kernel
theorem dL_texts_600 : decode cL_texts 600 = .ok (.ifCond .ne 7, 3) := by decide +kernel
theorem dL_texts_603 : decode cL_texts 603 = .ok (.iconst 1, 1) := by decide +kernel
theorem dL_texts_604 : decode cL_texts 604 = .ok (.goto 4, 3) := by decide +kernel
theorem dL_texts_607 : decode cL_texts 607 = .ok (.iconst 0, 1) := by decide +kernel
theorem dL_texts_608 : decode cL_texts 608 = .ok (.ireturn, 1) := by decide +kernel
theorem dL_law_0 : decode cL_law 0 = .ok (.invokestatic 296, 3) := by decide +kernel
theorem dL_law_3 : decode cL_law 3 = .ok (.ifCond .eq 15, 3) := by decide +kernel
theorem dL_law_6 : decode cL_law 6 = .ok (.invokestatic 299, 3) := by decide +kernel
theorem dL_law_9 : decode cL_law 9 = .ok (.ifCond .eq 9, 3) := by decide +kernel
theorem dL_law_12 : decode cL_law 12 = .ok (.invokestatic 302, 3) := by decide +kernel
theorem dL_law_15 : decode cL_law 15 = .ok (.ifCond .ne 5, 3) := by decide +kernel
theorem dL_law_18 : decode cL_law 18 = .ok (.iconst 0, 1) := by decide +kernel
theorem dL_law_19 : decode cL_law 19 = .ok (.ireturn, 1) := by decide +kernel
theorem dL_law_20 : decode cL_law 20 = .ok (.new 14, 3) := by decide +kernel
theorem dL_law_23 : decode cL_law 23 = .ok (.dup, 1) := by decide +kernel
theorem dL_law_24 : decode cL_law 24 = .ok (.invokespecial 149, 3) := by decide +kernel
theorem dL_law_27 : decode cL_law 27 = .ok (.astore_n 1, 1) := by decide +kernel
theorem dL_law_28 : decode cL_law 28 = .ok (.bipush 64, 2) := by decide +kernel
theorem dL_law_30 : decode cL_law 30 = .ok (.newarray .long, 2) := by decide +kernel
theorem dL_law_32 : decode cL_law 32 = .ok (.astore_n 2, 1) := by decide +kernel
theorem dL_law_33 : decode cL_law 33 = .ok (.iconst 0, 1) := by decide +kernel
theorem dL_law_34 : decode cL_law 34 = .ok (.istore_n 3, 1) := by decide +kernel
theorem dL_law_35 : decode cL_law 35 = .ok (.aload_n 1, 1) := by decide +kernel
theorem dL_law_36 : decode cL_law 36 = .ok (.iconst 0, 1) := by decide +kernel
theorem dL_law_37 : decode cL_law 37 = .ok (.iconst 5, 1) := by decide +kernel
theorem dL_law_38 : decode cL_law 38 = .ok (.iconst 1, 1) := by decide +kernel
theorem dL_law_39 : decode cL_law 39 = .ok (.iconst (-1), 1) := by decide +kernel
theorem dL_law_40 : decode cL_law 40 = .ok (.iconst 2, 1) := by decide +kernel
theorem dL_law_41 : decode cL_law 41 = .ok (.invokevirtual 13, 3) := by decide +kernel
theorem dL_law_44 : decode cL_law 44 = .ok (.ifCond .ne 50, 3) := by decide +kernel
theorem dL_law_47 : decode cL_law 47 = .ok (.aload_n 1, 1) := by decide +kernel
theorem dL_law_48 : decode cL_law 48 = .ok (.iconst 1, 1) := by decide +kernel
theorem dL_law_49 : decode cL_law 49 = .ok (.iconst 5, 1) := by decide +kernel
theorem dL_law_50 : decode cL_law 50 = .ok (.iconst (-1), 1) := by decide +kernel
theorem dL_law_51 : decode cL_law 51 = .ok (.iconst 3, 1) := by decide +kernel
theorem dL_law_52 : decode cL_law 52 = .ok (.iconst 0, 1) := by decide +kernel
theorem dL_law_53 : decode cL_law 53 = .ok (.invokevirtual 13, 3) := by decide +kernel
theorem dL_law_56 : decode cL_law 56 = .ok (.ifCond .ne 38, 3) := by decide +kernel
theorem dL_law_59 : decode cL_law 59 = .ok (.aload_n 1, 1) := by decide +kernel
theorem dL_law_60 : decode cL_law 60 = .ok (.iconst 0, 1) := by decide +kernel
theorem dL_law_61 : decode cL_law 61 = .ok (.ldc2_w 305, 3) := by decide +kernel
theorem dL_law_64 : decode cL_law 64 = .ok (.lconst 0, 1) := by decide +kernel
theorem dL_law_65 : decode cL_law 65 = .ok (.iconst 3, 1) := by decide +kernel
theorem dL_law_66 : decode cL_law 66 = .ok (.invokestatic 156, 3) := by decide +kernel
theorem dL_law_69 : decode cL_law 69 = .ok (.ifCond .eq 25, 3) := by decide +kernel
theorem dL_law_72 : decode cL_law 72 = .ok (.aload_n 1, 1) := by decide +kernel
theorem dL_law_73 : decode cL_law 73 = .ok (.iconst 1, 1) := by decide +kernel
theorem dL_law_74 : decode cL_law 74 = .ok (.ldc2_w 307, 3) := by decide +kernel
theorem dL_law_77 : decode cL_law 77 = .ok (.lconst 0, 1) := by decide +kernel
theorem dL_law_78 : decode cL_law 78 = .ok (.iconst 2, 1) := by decide +kernel
theorem dL_law_79 : decode cL_law 79 = .ok (.invokestatic 156, 3) := by decide +kernel
theorem dL_law_82 : decode cL_law 82 = .ok (.ifCond .eq 12, 3) := by decide +kernel
theorem dL_law_85 : decode cL_law 85 = .ok (.aload_n 1, 1) := by decide +kernel
theorem dL_law_86 : decode cL_law 86 = .ok (.iconst 0, 1) := by decide +kernel
theorem dL_law_87 : decode cL_law 87 = .ok (.invokevirtual 50, 3) := by decide +kernel
theorem dL_law_90 : decode cL_law 90 = .ok (.iconst 2, 1) := by decide +kernel
theorem dL_law_91 : decode cL_law 91 = .ok (.if_icmp .eq 5, 3) := by decide +kernel
theorem dL_law_94 : decode cL_law 94 = .ok (.iconst 0, 1) := by decide +kernel
theorem dL_law_95 : decode cL_law 95 = .ok (.ireturn, 1) := by decide +kernel
theorem dL_law_96 : decode cL_law 96 = .ok (.aload_n 1, 1) := by decide +kernel
theorem dL_law_97 : decode cL_law 97 = .ok (.invokestatic 129, 3) := by decide +kernel
theorem dL_law_100 : decode cL_law 100 = .ok (.lstore 4, 2) := by decide +kernel
theorem dL_law_102 : decode cL_law 102 = .ok (.iconst 0, 1) := by decide +kernel
theorem dL_law_103 : decode cL_law 103 = .ok (.istore 6, 2) := by decide +kernel
theorem dL_law_105 : decode cL_law 105 = .ok (.iload 6, 2) := by decide +kernel
theorem dL_law_107 : decode cL_law 107 = .ok (.bipush 28, 2) := by decide +kernel
theorem dL_law_109 : decode cL_law 109 = .ok (.if_icmp .ge 408, 3) := by decide +kernel
theorem dL_law_112 : decode cL_law 112 = .ok (.aload_n 0, 1) := by decide +kernel
theorem dL_law_113 : decode cL_law 113 = .ok (.iload 6, 2) := by decide +kernel
theorem dL_law_115 : decode cL_law 115 = .ok (.invokestatic 309, 3) := by decide +kernel
theorem dL_law_118 : decode cL_law 118 = .ok (.istore 7, 2) := by decide +kernel
theorem dL_law_120 : decode cL_law 120 = .ok (.iload 7, 2) := by decide +kernel
theorem dL_law_122 : decode cL_law 122 = .ok (.bipush 16, 2) := by decide +kernel
theorem dL_law_124 : decode cL_law 124 = .ok (.invokestatic 313, 3) := by decide +kernel
theorem dL_law_127 : decode cL_law 127 = .ok (.istore 8, 2) := by decide +kernel
theorem dL_law_129 : decode cL_law 129 = .ok (.aload_n 2, 1) := by decide +kernel
theorem dL_law_130 : decode cL_law 130 = .ok (.iload_n 3, 1) := by decide +kernel
theorem dL_law_131 : decode cL_law 131 = .ok (.aload_n 1, 1) := by decide +kernel
theorem dL_law_132 : decode cL_law 132 = .ok (.invokestatic 129, 3) := by decide +kernel
theorem dL_law_135 : decode cL_law 135 = .ok (.lastore, 1) := by decide +kernel
theorem dL_law_136 : decode cL_law 136 = .ok (.aload_n 1, 1) := by decide +kernel
theorem dL_law_137 : decode cL_law 137 = .ok (.bipush 6, 2) := by decide +kernel
theorem dL_law_139 : decode cL_law 139 = .ok (.invokevirtual 90, 3) := by decide +kernel
theorem dL_law_142 : decode cL_law 142 = .ok (.istore 9, 2) := by decide +kernel
theorem dL_law_144 : decode cL_law 144 = .ok (.iload 7, 2) := by decide +kernel
theorem dL_law_146 : decode cL_law 146 = .ok (.iconst 4, 1) := by decide +kernel
theorem dL_law_147 : decode cL_law 147 = .ok (.ishr, 1) := by decide +kernel
theorem dL_law_148 : decode cL_law 148 = .ok (.iconst 3, 1) := by decide +kernel
theorem dL_law_149 : decode cL_law 149 = .ok (.invokestatic 313, 3) := by decide +kernel
theorem dL_law_152 : decode cL_law 152 = .ok (.istore 10, 2) := by decide +kernel
theorem dL_law_154 : decode cL_law 154 = .ok (.iload 7, 2) := by decide +kernel
theorem dL_law_156 : decode cL_law 156 = .ok (.bipush 6, 2) := by decide +kernel
theorem dL_law_158 : decode cL_law 158 = .ok (.ishr, 1) := by decide +kernel
theorem dL_law_159 : decode cL_law 159 = .ok (.iconst 4, 1) := by decide +kernel
theorem dL_law_160 : decode cL_law 160 = .ok (.invokestatic 313, 3) := by decide +kernel
theorem dL_law_163 : decode cL_law 163 = .ok (.istore 11, 2) := by decide +kernel
theorem dL_law_165 : decode cL_law 165 = .ok (.iload 7, 2) := by decide +kernel
theorem dL_law_167 : decode cL_law 167 = .ok (.bipush 8, 2) := by decide +kernel
theorem dL_law_169 : decode cL_law 169 = .ok (.ishr, 1) := by decide +kernel
theorem dL_law_170 : decode cL_law 170 = .ok (.bipush 10, 2) := by decide +kernel
theorem dL_law_172 : decode cL_law 172 = .ok (.invokestatic 313, 3) := by decide +kernel
theorem dL_law_175 : decode cL_law 175 = .ok (.iconst 2, 1) := by decide +kernel
theorem dL_law_176 : decode cL_law 176 = .ok (.isub, 1) := by decide +kernel
theorem dL_law_177 : decode cL_law 177 = .ok (.istore 12, 2) := by decide +kernel
theorem dL_law_179 : decode cL_law 179 = .ok (.iload 8, 2) := by decide +kernel
theorem dL_law_181 : decode cL_law 181 = .ok (.iconst 5, 1) := by decide +kernel
theorem dL_law_182 : decode cL_law 182 = .ok (.if_icmp .ge 54, 3) := by decide +kernel
theorem dL_law_185 : decode cL_law 185 = .ok (.aload_n 1, 1) := by decide +kernel
theorem dL_law_186 : decode cL_law 186 = .ok (.iconst 0, 1) := by decide +kernel
theorem dL_law_187 : decode cL_law 187 = .ok (.iload 10, 2) := by decide +kernel
theorem dL_law_189 : decode cL_law 189 = .ok (.iload 12, 2) := by decide +kernel
theorem dL_law_191 : decode cL_law 191 = .ok (.iload 7, 2) := by decide +kernel
theorem dL_law_193 : decode cL_law 193 = .ok (.bipush 12, 2) := by decide +kernel
theorem dL_law_195 : decode cL_law 195 = .ok (.ishr, 1) := by decide +kernel
theorem dL_law_196 : decode cL_law 196 = .ok (.bipush 8, 2) := by decide +kernel
theorem dL_law_198 : decode cL_law 198 = .ok (.invokestatic 313, 3) := by decide +kernel
theorem dL_law_201 : decode cL_law 201 = .ok (.iconst 1, 1) := by decide +kernel
theorem dL_law_202 : decode cL_law 202 = .ok (.isub, 1) := by decide +kernel
theorem dL_law_203 : decode cL_law 203 = .ok (.iload 7, 2) := by decide +kernel
theorem dL_law_205 : decode cL_law 205 = .ok (.bipush 15, 2) := by decide +kernel
theorem dL_law_207 : decode cL_law 207 = .ok (.ishr, 1) := by decide +kernel
theorem dL_law_208 : decode cL_law 208 = .ok (.bipush 8, 2) := by decide +kernel
theorem dL_law_210 : decode cL_law 210 = .ok (.invokestatic 313, 3) := by decide +kernel
theorem dL_law_213 : decode cL_law 213 = .ok (.iconst 1, 1) := by decide +kernel
theorem dL_law_214 : decode cL_law 214 = .ok (.isub, 1) := by decide +kernel
theorem dL_law_215 : decode cL_law 215 = .ok (.iload 7, 2) := by decide +kernel
theorem dL_law_217 : decode cL_law 217 = .ok (.bipush 18, 2) := by decide +kernel
theorem dL_law_219 : decode cL_law 219 = .ok (.ishr, 1) := by decide +kernel
theorem dL_law_220 : decode cL_law 220 = .ok (.bipush 102, 2) := by decide +kernel
theorem dL_law_222 : decode cL_law 222 = .ok (.invokestatic 313, 3) := by decide +kernel
theorem dL_law_225 : decode cL_law 225 = .ok (.iconst 1, 1) := by decide +kernel
theorem dL_law_226 : decode cL_law 226 = .ok (.isub, 1) := by decide +kernel
theorem dL_law_227 : decode cL_law 227 = .ok (.invokestatic 125, 3) := by decide +kernel
theorem dL_law_230 : decode cL_law 230 = .ok (.invokestatic 121, 3) := by decide +kernel
theorem dL_law_233 : decode cL_law 233 = .ok (.goto 220, 3) := by decide +kernel
theorem dL_law_236 : decode cL_law 236 = .ok (.iload 8, 2) := by decide +kernel
theorem dL_law_238 : decode cL_law 238 = .ok (.bipush 8, 2) := by decide +kernel
theorem dL_law_240 : decode cL_law 240 = .ok (.if_icmp .ge 30, 3) := by decide +kernel
theorem dL_law_243 : decode cL_law 243 = .ok (.aload_n 1, 1) := by decide +kernel
theorem dL_law_244 : decode cL_law 244 = .ok (.iconst 1, 1) := by decide +kernel
theorem dL_law_245 : decode cL_law 245 = .ok (.iload 10, 2) := by decide +kernel
theorem dL_law_247 : decode cL_law 247 = .ok (.iload 11, 2) := by decide +kernel
theorem dL_law_249 : decode cL_law 249 = .ok (.iload 7, 2) := by decide +kernel
theorem dL_law_251 : decode cL_law 251 = .ok (.bipush 12, 2) := by decide +kernel
theorem dL_law_253 : decode cL_law 253 = .ok (.ishr, 1) := by decide +kernel
theorem dL_law_254 : decode cL_law 254 = .ok (.iconst 5, 1) := by decide +kernel
theorem dL_law_255 : decode cL_law 255 = .ok (.invokestatic 313, 3) := by decide +kernel
theorem dL_law_258 : decode cL_law 258 = .ok (.iload 12, 2) := by decide +kernel
theorem dL_law_260 : decode cL_law 260 = .ok (.iconst 0, 1) := by decide +kernel
theorem dL_law_261 : decode cL_law 261 = .ok (.invokestatic 125, 3) := by decide +kernel
theorem dL_law_264 : decode cL_law 264 = .ok (.invokestatic 121, 3) := by decide +kernel
theorem dL_law_267 : decode cL_law 267 = .ok (.goto 186, 3) := by decide +kernel
theorem dL_law_270 : decode cL_law 270 = .ok (.iload 8, 2) := by decide +kernel
theorem dL_law_272 : decode cL_law 272 = .ok (.bipush 8, 2) := by decide +kernel
theorem dL_law_274 : decode cL_law 274 = .ok (.if_icmp .ne 16, 3) := by decide +kernel
theorem dL_law_277 : decode cL_law 277 = .ok (.aload_n 1, 1) := by decide +kernel
theorem dL_law_278 : decode cL_law 278 = .ok (.iconst 2, 1) := by decide +kernel
theorem dL_law_279 : decode cL_law 279 = .ok (.iload 10, 2) := by decide +kernel
theorem dL_law_281 : decode cL_law 281 = .ok (.iload 11, 2) := by decide +kernel
theorem dL_law_283 : decode cL_law 283 = .ok (.lconst 0, 1) := by decide +kernel
theorem dL_law_284 : decode cL_law 284 = .ok (.invokestatic 121, 3) := by decide +kernel
theorem dL_law_287 : decode cL_law 287 = .ok (.goto 166, 3) := by decide +kernel
theorem dL_law_290 : decode cL_law 290 = .ok (.iload 8, 2) := by decide +kernel
theorem dL_law_292 : decode cL_law 292 = .ok (.bipush 11, 2) := by decide +kernel
theorem dL_law_294 : decode cL_law 294 = .ok (.if_icmp .ge 45, 3) := by decide +kernel
theorem dL_law_297 : decode cL_law 297 = .ok (.aload_n 1, 1) := by decide +kernel
theorem dL_law_298 : decode cL_law 298 = .ok (.iconst 4, 1) := by decide +kernel
theorem dL_law_299 : decode cL_law 299 = .ok (.iload 7, 2) := by decide +kernel
theorem dL_law_301 : decode cL_law 301 = .ok (.bipush 12, 2) := by decide +kernel
theorem dL_law_303 : decode cL_law 303 = .ok (.ishr, 1) := by decide +kernel
theorem dL_law_304 : decode cL_law 304 = .ok (.bipush 7, 2) := by decide +kernel
theorem dL_law_306 : decode cL_law 306 = .ok (.invokestatic 313, 3) := by decide +kernel
theorem dL_law_309 : decode cL_law 309 = .ok (.iload 11, 2) := by decide +kernel
theorem dL_law_311 : decode cL_law 311 = .ok (.iload 7, 2) := by decide +kernel
theorem dL_law_313 : decode cL_law 313 = .ok (.bipush 15, 2) := by decide +kernel
theorem dL_law_315 : decode cL_law 315 = .ok (.ishr, 1) := by decide +kernel
theorem dL_law_316 : decode cL_law 316 = .ok (.iconst 3, 1) := by decide +kernel
theorem dL_law_317 : decode cL_law 317 = .ok (.invokestatic 313, 3) := by decide +kernel
theorem dL_law_320 : decode cL_law 320 = .ok (.iload 7, 2) := by decide +kernel
theorem dL_law_322 : decode cL_law 322 = .ok (.bipush 17, 2) := by decide +kernel
theorem dL_law_324 : decode cL_law 324 = .ok (.ishr, 1) := by decide +kernel
theorem dL_law_325 : decode cL_law 325 = .ok (.iconst 4, 1) := by decide +kernel
theorem dL_law_326 : decode cL_law 326 = .ok (.invokestatic 313, 3) := by decide +kernel
theorem dL_law_329 : decode cL_law 329 = .ok (.iconst 0, 1) := by decide +kernel
theorem dL_law_330 : decode cL_law 330 = .ok (.invokestatic 125, 3) := by decide +kernel
theorem dL_law_333 : decode cL_law 333 = .ok (.invokestatic 121, 3) := by decide +kernel
theorem dL_law_336 : decode cL_law 336 = .ok (.goto 117, 3) := by decide +kernel
theorem dL_law_339 : decode cL_law 339 = .ok (.iload 8, 2) := by decide +kernel
theorem dL_law_341 : decode cL_law 341 = .ok (.bipush 11, 2) := by decide +kernel
theorem dL_law_343 : decode cL_law 343 = .ok (.if_icmp .ne 18, 3) := by decide +kernel
theorem dL_law_346 : decode cL_law 346 = .ok (.aload_n 1, 1) := by decide +kernel
theorem dL_law_347 : decode cL_law 347 = .ok (.iconst 5, 1) := by decide +kernel
theorem dL_law_348 : decode cL_law 348 = .ok (.iload 10, 2) := by decide +kernel
theorem dL_law_350 : decode cL_law 350 = .ok (.iload 11, 2) := by decide +kernel
theorem dL_law_352 : decode cL_law 352 = .ok (.iconst 2, 1) := by decide +kernel
theorem dL_law_353 : decode cL_law 353 = .ok (.isub, 1) := by decide +kernel
theorem dL_law_354 : decode cL_law 354 = .ok (.lconst 0, 1) := by decide +kernel
theorem dL_law_355 : decode cL_law 355 = .ok (.invokestatic 121, 3) := by decide +kernel
theorem dL_law_358 : decode cL_law 358 = .ok (.goto 95, 3) := by decide +kernel
theorem dL_law_361 : decode cL_law 361 = .ok (.iload 8, 2) := by decide +kernel
theorem dL_law_363 : decode cL_law 363 = .ok (.bipush 12, 2) := by decide +kernel
theorem dL_law_365 : decode cL_law 365 = .ok (.if_icmp .ne 17, 3) := by decide +kernel
theorem dL_law_368 : decode cL_law 368 = .ok (.aload_n 1, 1) := by decide +kernel
theorem dL_law_369 : decode cL_law 369 = .ok (.bipush 6, 2) := by decide +kernel
theorem dL_law_371 : decode cL_law 371 = .ok (.iload 10, 2) := by decide +kernel
theorem dL_law_373 : decode cL_law 373 = .ok (.iload 11, 2) := by decide +kernel
theorem dL_law_375 : decode cL_law 375 = .ok (.lconst 0, 1) := by decide +kernel
theorem dL_law_376 : decode cL_law 376 = .ok (.invokestatic 121, 3) := by decide +kernel
theorem dL_law_379 : decode cL_law 379 = .ok (.goto 74, 3) := by decide +kernel
theorem dL_law_382 : decode cL_law 382 = .ok (.iload 8, 2) := by decide +kernel
theorem dL_law_384 : decode cL_law 384 = .ok (.bipush 13, 2) := by decide +kernel
theorem dL_law_386 : decode cL_law 386 = .ok (.if_icmp .ne 31, 3) := by decide +kernel
theorem dL_law_389 : decode cL_law 389 = .ok (.aload_n 1, 1) := by decide +kernel
theorem dL_law_390 : decode cL_law 390 = .ok (.bipush 7, 2) := by decide +kernel
theorem dL_law_392 : decode cL_law 392 = .ok (.iload 10, 2) := by decide +kernel
theorem dL_law_394 : decode cL_law 394 = .ok (.iload 11, 2) := by decide +kernel
theorem dL_law_396 : decode cL_law 396 = .ok (.iload 7, 2) := by decide +kernel
theorem dL_law_398 : decode cL_law 398 = .ok (.bipush 12, 2) := by decide +kernel
theorem dL_law_400 : decode cL_law 400 = .ok (.ishr, 1) := by decide +kernel
theorem dL_law_401 : decode cL_law 401 = .ok (.iconst 5, 1) := by decide +kernel
theorem dL_law_402 : decode cL_law 402 = .ok (.invokestatic 313, 3) := by decide +kernel
theorem dL_law_405 : decode cL_law 405 = .ok (.iload 12, 2) := by decide +kernel
theorem dL_law_407 : decode cL_law 407 = .ok (.iconst 0, 1) := by decide +kernel
theorem dL_law_408 : decode cL_law 408 = .ok (.invokestatic 125, 3) := by decide +kernel
theorem dL_law_411 : decode cL_law 411 = .ok (.invokestatic 121, 3) := by decide +kernel
theorem dL_law_414 : decode cL_law 414 = .ok (.goto 39, 3) := by decide +kernel
theorem dL_law_417 : decode cL_law 417 = .ok (.iload 8, 2) := by decide +kernel
theorem dL_law_419 : decode cL_law 419 = .ok (.bipush 14, 2) := by decide +kernel
theorem dL_law_421 : decode cL_law 421 = .ok (.if_icmp .ne 22, 3) := by decide +kernel
theorem dL_law_424 : decode cL_law 424 = .ok (.aload_n 1, 1) := by decide +kernel
theorem dL_law_425 : decode cL_law 425 = .ok (.bipush 11, 2) := by decide +kernel
theorem dL_law_427 : decode cL_law 427 = .ok (.iload 7, 2) := by decide +kernel
theorem dL_law_429 : decode cL_law 429 = .ok (.iconst 4, 1) := by decide +kernel
theorem dL_law_430 : decode cL_law 430 = .ok (.ishr, 1) := by decide +kernel
theorem dL_law_431 : decode cL_law 431 = .ok (.iconst 2, 1) := by decide +kernel
theorem dL_law_432 : decode cL_law 432 = .ok (.invokestatic 313, 3) := by decide +kernel
theorem dL_law_435 : decode cL_law 435 = .ok (.iconst 0, 1) := by decide +kernel
theorem dL_law_436 : decode cL_law 436 = .ok (.lconst 0, 1) := by decide +kernel
theorem dL_law_437 : decode cL_law 437 = .ok (.invokestatic 121, 3) := by decide +kernel
theorem dL_law_440 : decode cL_law 440 = .ok (.goto 13, 3) := by decide +kernel
theorem dL_law_443 : decode cL_law 443 = .ok (.aload_n 1, 1) := by decide +kernel
theorem dL_law_444 : decode cL_law 444 = .ok (.iconst 5, 1) := by decide +kernel
theorem dL_law_445 : decode cL_law 445 = .ok (.iload 10, 2) := by decide +kernel
theorem dL_law_447 : decode cL_law 447 = .ok (.bipush (-2), 2) := by decide +kernel
theorem dL_law_449 : decode cL_law 449 = .ok (.lconst 0, 1) := by decide +kernel
theorem dL_law_450 : decode cL_law 450 = .ok (.invokestatic 121, 3) := by decide +kernel
theorem dL_law_453 : decode cL_law 453 = .ok (.istore 13, 2) := by decide +kernel
theorem dL_law_455 : decode cL_law 455 = .ok (.iload 13, 2) := by decide +kernel
theorem dL_law_457 : decode cL_law 457 = .ok (.ldc 99, 2) := by decide +kernel
theorem dL_law_459 : decode cL_law 459 = .ok (.if_icmp .gt 7, 3) := by decide +kernel
theorem dL_law_462 : decode cL_law 462 = .ok (.iconst 1, 1) := by decide +kernel
theorem dL_law_463 : decode cL_law 463 = .ok (.goto 4, 3) := by decide +kernel
theorem dL_law_466 : decode cL_law 466 = .ok (.iconst 0, 1) := by decide +kernel
theorem dL_law_467 : decode cL_law 467 = .ok (.istore 14, 2) := by decide +kernel
theorem dL_law_469 : decode cL_law 469 = .ok (.iload 14, 2) := by decide +kernel
theorem dL_law_471 : decode cL_law 471 = .ok (.ifCond .eq 27, 3) := by decide +kernel
theorem dL_law_474 : decode cL_law 474 = .ok (.aload_n 1, 1) := by decide +kernel
theorem dL_law_475 : decode cL_law 475 = .ok (.bipush 6, 2) := by decide +kernel
theorem dL_law_477 : decode cL_law 477 = .ok (.invokevirtual 90, 3) := by decide +kernel
theorem dL_law_480 : decode cL_law 480 = .ok (.iload 9, 2) := by decide +kernel
theorem dL_law_482 : decode cL_law 482 = .ok (.if_icmp .ne 14, 3) := by decide +kernel
theorem dL_law_485 : decode cL_law 485 = .ok (.aload_n 1, 1) := by decide +kernel
theorem dL_law_486 : decode cL_law 486 = .ok (.invokestatic 129, 3) := by decide +kernel
theorem dL_law_489 : decode cL_law 489 = .ok (.aload_n 2, 1) := by decide +kernel
theorem dL_law_490 : decode cL_law 490 = .ok (.iload_n 3, 1) := by decide +kernel
theorem dL_law_491 : decode cL_law 491 = .ok (.laload, 1) := by decide +kernel
theorem dL_law_492 : decode cL_law 492 = .ok (.lcmp, 1) := by decide +kernel
theorem dL_law_493 : decode cL_law 493 = .ok (.ifCond .eq 5, 3) := by decide +kernel
theorem dL_law_496 : decode cL_law 496 = .ok (.iconst 0, 1) := by decide +kernel
theorem dL_law_497 : decode cL_law 497 = .ok (.ireturn, 1) := by decide +kernel
theorem dL_law_498 : decode cL_law 498 = .ok (.iload_n 3, 1) := by decide +kernel
theorem dL_law_499 : decode cL_law 499 = .ok (.iload 14, 2) := by decide +kernel
theorem dL_law_501 : decode cL_law 501 = .ok (.ifCond .eq 7, 3) := by decide +kernel
theorem dL_law_504 : decode cL_law 504 = .ok (.iconst 0, 1) := by decide +kernel
theorem dL_law_505 : decode cL_law 505 = .ok (.goto 4, 3) := by decide +kernel
theorem dL_law_508 : decode cL_law 508 = .ok (.iconst 1, 1) := by decide +kernel
theorem dL_law_509 : decode cL_law 509 = .ok (.iadd, 1) := by decide +kernel
theorem dL_law_510 : decode cL_law 510 = .ok (.istore_n 3, 1) := by decide +kernel
theorem dL_law_511 : decode cL_law 511 = .ok (.iinc 6 1, 3) := by decide +kernel
theorem dL_law_514 : decode cL_law 514 = .ok (.goto (-409), 3) := by decide +kernel
theorem dL_law_517 : decode cL_law 517 = .ok (.aload_n 2, 1) := by decide +kernel
theorem dL_law_518 : decode cL_law 518 = .ok (.iload_n 3, 1) := by decide +kernel
theorem dL_law_519 : decode cL_law 519 = .ok (.aload_n 1, 1) := by decide +kernel
theorem dL_law_520 : decode cL_law 520 = .ok (.invokestatic 129, 3) := by decide +kernel
theorem dL_law_523 : decode cL_law 523 = .ok (.lastore, 1) := by decide +kernel
theorem dL_law_524 : decode cL_law 524 = .ok (.aload_n 1, 1) := by decide +kernel
theorem dL_law_525 : decode cL_law 525 = .ok (.invokestatic 150, 3) := by decide +kernel
theorem dL_law_528 : decode cL_law 528 = .ok (.ifCond .ne 5, 3) := by decide +kernel
theorem dL_law_531 : decode cL_law 531 = .ok (.iconst 0, 1) := by decide +kernel
theorem dL_law_532 : decode cL_law 532 = .ok (.ireturn, 1) := by decide +kernel
theorem dL_law_533 : decode cL_law 533 = .ok (.iconst 0, 1) := by decide +kernel
theorem dL_law_534 : decode cL_law 534 = .ok (.istore 6, 2) := by decide +kernel
theorem dL_law_536 : decode cL_law 536 = .ok (.aload_n 1, 1) := by decide +kernel
theorem dL_law_537 : decode cL_law 537 = .ok (.bipush 6, 2) := by decide +kernel
theorem dL_law_539 : decode cL_law 539 = .ok (.invokevirtual 90, 3) := by decide +kernel
theorem dL_law_542 : decode cL_law 542 = .ok (.ifCond .le 56, 3) := by decide +kernel
theorem dL_law_545 : decode cL_law 545 = .ok (.iload 6, 2) := by decide +kernel
theorem dL_law_547 : decode cL_law 547 = .ok (.iload_n 3, 1) := by decide +kernel
theorem dL_law_548 : decode cL_law 548 = .ok (.if_icmp .ge 50, 3) := by decide +kernel
theorem dL_law_551 : decode cL_law 551 = .ok (.aload_n 1, 1) := by decide +kernel
theorem dL_law_552 : decode cL_law 552 = .ok (.bipush 6, 2) := by decide +kernel
theorem dL_law_554 : decode cL_law 554 = .ok (.invokevirtual 90, 3) := by decide +kernel
theorem dL_law_557 : decode cL_law 557 = .ok (.istore 7, 2) := by decide +kernel
theorem dL_law_559 : decode cL_law 559 = .ok (.iload 6, 2) := by decide +kernel
theorem dL_law_561 : decode cL_law 561 = .ok (.iconst 5, 1) := by decide +kernel
theorem dL_law_562 : decode cL_law 562 = .ok (.if_icmp .gt 28, 3) := by decide +kernel
theorem dL_law_565 : decode cL_law 565 = .ok (.aload_n 1, 1) := by decide +kernel
theorem dL_law_566 : decode cL_law 566 = .ok (.invokestatic 129, 3) := by decide +kernel
theorem dL_law_569 : decode cL_law 569 = .ok (.aload_n 2, 1) := by decide +kernel
theorem dL_law_570 : decode cL_law 570 = .ok (.iload_n 3, 1) := by decide +kernel
theorem dL_law_571 : decode cL_law 571 = .ok (.iload 6, 2) := by decide +kernel
theorem dL_law_573 : decode cL_law 573 = .ok (.isub, 1) := by decide +kernel
theorem dL_law_574 : decode cL_law 574 = .ok (.laload, 1) := by decide +kernel
theorem dL_law_575 : decode cL_law 575 = .ok (.lcmp, 1) := by decide +kernel
theorem dL_law_576 : decode cL_law 576 = .ok (.ifCond .ne 14, 3) := by decide +kernel
theorem dL_law_579 : decode cL_law 579 = .ok (.aload_n 1, 1) := by decide +kernel
theorem dL_law_580 : decode cL_law 580 = .ok (.invokevirtual 46, 3) := by decide +kernel
theorem dL_law_583 : decode cL_law 583 = .ok (.iload 7, 2) := by decide +kernel
theorem dL_law_585 : decode cL_law 585 = .ok (.iconst 1, 1) := by decide +kernel
theorem dL_law_586 : decode cL_law 586 = .ok (.isub, 1) := by decide +kernel
theorem dL_law_587 : decode cL_law 587 = .ok (.if_icmp .eq 5, 3) := by decide +kernel
theorem dL_law_590 : decode cL_law 590 = .ok (.iconst 0, 1) := by decide +kernel
theorem dL_law_591 : decode cL_law 591 = .ok (.ireturn, 1) := by decide +kernel
theorem dL_law_592 : decode cL_law 592 = .ok (.iinc 6 1, 3) := by decide +kernel
theorem dL_law_595 : decode cL_law 595 = .ok (.goto (-59), 3) := by decide +kernel
theorem dL_law_598 : decode cL_law 598 = .ok (.iconst 0, 1) := by decide +kernel
theorem dL_law_599 : decode cL_law 599 = .ok (.istore 6, 2) := by decide +kernel
theorem dL_law_601 : decode cL_law 601 = .ok (.iload 6, 2) := by decide +kernel
theorem dL_law_603 : decode cL_law 603 = .ok (.bipush 6, 2) := by decide +kernel
theorem dL_law_605 : decode cL_law 605 = .ok (.if_icmp .ge 27, 3) := by decide +kernel
theorem dL_law_608 : decode cL_law 608 = .ok (.aload_n 1, 1) := by decide +kernel
theorem dL_law_609 : decode cL_law 609 = .ok (.bipush 6, 2) := by decide +kernel
theorem dL_law_611 : decode cL_law 611 = .ok (.invokevirtual 90, 3) := by decide +kernel
theorem dL_law_614 : decode cL_law 614 = .ok (.ifCond .le 18, 3) := by decide +kernel
theorem dL_law_617 : decode cL_law 617 = .ok (.aload_n 1, 1) := by decide +kernel
theorem dL_law_618 : decode cL_law 618 = .ok (.invokevirtual 46, 3) := by decide +kernel
theorem dL_law_621 : decode cL_law 621 = .ok (.ifCond .ge 5, 3) := by decide +kernel
theorem dL_law_624 : decode cL_law 624 = .ok (.iconst 0, 1) := by decide +kernel
theorem dL_law_625 : decode cL_law 625 = .ok (.ireturn, 1) := by decide +kernel
theorem dL_law_626 : decode cL_law 626 = .ok (.iinc 6 1, 3) := by decide +kernel
theorem dL_law_629 : decode cL_law 629 = .ok (.goto (-28), 3) := by decide +kernel
theorem dL_law_632 : decode cL_law 632 = .ok (.aload_n 1, 1) := by decide +kernel
theorem dL_law_633 : decode cL_law 633 = .ok (.bipush 9, 2) := by decide +kernel
theorem dL_law_635 : decode cL_law 635 = .ok (.iconst 0, 1) := by decide +kernel
theorem dL_law_636 : decode cL_law 636 = .ok (.iconst 0, 1) := by decide +kernel
theorem dL_law_637 : decode cL_law 637 = .ok (.lconst 0, 1) := by decide +kernel
theorem dL_law_638 : decode cL_law 638 = .ok (.invokestatic 121, 3) := by decide +kernel
theorem dL_law_641 : decode cL_law 641 = .ok (.ldc 105, 2) := by decide +kernel
theorem dL_law_643 : decode cL_law 643 = .ok (.if_icmp .ne 36, 3) := by decide +kernel
theorem dL_law_646 : decode cL_law 646 = .ok (.aload_n 1, 1) := by decide +kernel
theorem dL_law_647 : decode cL_law 647 = .ok (.iconst 0, 1) := by decide +kernel
theorem dL_law_648 : decode cL_law 648 = .ok (.invokevirtual 53, 3) := by decide +kernel
theorem dL_law_651 : decode cL_law 651 = .ok (.iconst 2, 1) := by decide +kernel
theorem dL_law_652 : decode cL_law 652 = .ok (.if_icmp .ne 27, 3) := by decide +kernel
theorem dL_law_655 : decode cL_law 655 = .ok (.aload_n 1, 1) := by decide +kernel
theorem dL_law_656 : decode cL_law 656 = .ok (.invokestatic 129, 3) := by decide +kernel
theorem dL_law_659 : decode cL_law 659 = .ok (.lload 4, 2) := by decide +kernel
theorem dL_law_661 : decode cL_law 661 = .ok (.lcmp, 1) := by decide +kernel
theorem dL_law_662 : decode cL_law 662 = .ok (.ifCond .ne 17, 3) := by decide +kernel
theorem dL_law_665 : decode cL_law 665 = .ok (.aload_n 1, 1) := by decide +kernel
theorem dL_law_666 : decode cL_law 666 = .ok (.bipush 6, 2) := by decide +kernel
theorem dL_law_668 : decode cL_law 668 = .ok (.invokevirtual 90, 3) := by decide +kernel
theorem dL_law_671 : decode cL_law 671 = .ok (.iconst 1, 1) := by decide +kernel
theorem dL_law_672 : decode cL_law 672 = .ok (.if_icmp .ne 7, 3) := by decide +kernel
theorem dL_law_675 : decode cL_law 675 = .ok (.iconst 1, 1) := by decide +kernel
theorem dL_law_676 : decode cL_law 676 = .ok (.goto 4, 3) := by decide +kernel
theorem dL_law_679 : decode cL_law 679 = .ok (.iconst 0, 1) := by decide +kernel
theorem dL_law_680 : decode cL_law 680 = .ok (.ireturn, 1) := by decide +kernel
