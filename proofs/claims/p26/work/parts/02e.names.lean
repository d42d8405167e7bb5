theorem dL_hangs_314 : decode cL_hangs 314 = .ok (.iconst 0, 1) := by decide +kernel
theorem dL_hangs_315 : decode cL_hangs 315 = .ok (.iload_n 1, 1) := by decide +kernel
theorem dL_hangs_316 : decode cL_hangs 316 = .ok (.iload 7, 2) := by decide +kernel
theorem dL_hangs_318 : decode cL_hangs 318 = .ok (.isub, 1) := by decide +kernel
theorem dL_hangs_319 : decode cL_hangs 319 = .ok (.iload 7, 2) := by decide +kernel
theorem dL_hangs_321 : decode cL_hangs 321 = .ok (.invokestatic 42, 3) := by decide +kernel
theorem dL_hangs_324 : decode cL_hangs 324 = .ok (.ifCond .eq 7, 3) := by decide +kernel
theorem dL_hangs_327 : decode cL_hangs 327 = .ok (.iconst 1, 1) := by decide +kernel
theorem dL_hangs_328 : decode cL_hangs 328 = .ok (.goto 4, 3) := by decide +kernel
theorem dL_hangs_331 : decode cL_hangs 331 = .ok (.iconst 0, 1) := by decide +kernel
theorem dL_hangs_332 : decode cL_hangs 332 = .ok (.istore_n 2, 1) := by decide +kernel
theorem dL_hangs_333 : decode cL_hangs 333 = .ok (.iload 7, 2) := by decide +kernel
theorem dL_hangs_335 : decode cL_hangs 335 = .ok (.istore 5, 2) := by decide +kernel
theorem dL_hangs_337 : decode cL_hangs 337 = .ok (.iinc 6 1, 3) := by decide +kernel
theorem dL_hangs_340 : decode cL_hangs 340 = .ok (.goto (-68), 3) := by decide +kernel
theorem dL_hangs_343 : decode cL_hangs 343 = .ok (.aload_n 0, 1) := by decide +kernel
theorem dL_hangs_344 : decode cL_hangs 344 = .ok (.iconst 4, 1) := by decide +kernel
theorem dL_hangs_345 : decode cL_hangs 345 = .ok (.invokevirtual 35, 3) := by decide +kernel
theorem dL_hangs_348 : decode cL_hangs 348 = .ok (.istore 7, 2) := by decide +kernel
theorem dL_hangs_350 : decode cL_hangs 350 = .ok (.iconst (-1), 1) := by decide +kernel
theorem dL_hangs_351 : decode cL_hangs 351 = .ok (.istore 8, 2) := by decide +kernel
theorem dL_hangs_353 : decode cL_hangs 353 = .ok (.iload_n 2, 1) := by decide +kernel
theorem dL_hangs_354 : decode cL_hangs 354 = .ok (.ifCond .eq 19, 3) := by decide +kernel
theorem dL_hangs_357 : decode cL_hangs 357 = .ok (.aload_n 0, 1) := by decide +kernel
theorem dL_hangs_358 : decode cL_hangs 358 = .ok (.iload 7, 2) := by decide +kernel
theorem dL_hangs_360 : decode cL_hangs 360 = .ok (.iconst 0, 1) := by decide +kernel
theorem dL_hangs_361 : decode cL_hangs 361 = .ok (.invokevirtual 60, 3) := by decide +kernel
theorem dL_hangs_364 : decode cL_hangs 364 = .ok (.bipush (-4), 2) := by decide +kernel
theorem dL_hangs_366 : decode cL_hangs 366 = .ok (.if_icmp .ne 7, 3) := by decide +kernel
theorem dL_hangs_369 : decode cL_hangs 369 = .ok (.iconst 1, 1) := by decide +kernel
theorem dL_hangs_370 : decode cL_hangs 370 = .ok (.goto 4, 3) := by decide +kernel
theorem dL_hangs_373 : decode cL_hangs 373 = .ok (.iconst 0, 1) := by decide +kernel
theorem dL_hangs_374 : decode cL_hangs 374 = .ok (.istore_n 2, 1) := by decide +kernel
theorem dL_hangs_375 : decode cL_hangs 375 = .ok (.iconst 0, 1) := by decide +kernel
theorem dL_hangs_376 : decode cL_hangs 376 = .ok (.istore 9, 2) := by decide +kernel
theorem dL_hangs_378 : decode cL_hangs 378 = .ok (.iload 9, 2) := by decide +kernel
theorem dL_hangs_380 : decode cL_hangs 380 = .ok (.iload 7, 2) := by decide +kernel
theorem dL_hangs_382 : decode cL_hangs 382 = .ok (.if_icmp .ge 106, 3) := by decide +kernel
theorem dL_hangs_385 : decode cL_hangs 385 = .ok (.iload_n 2, 1) := by decide +kernel
theorem dL_hangs_386 : decode cL_hangs 386 = .ok (.ifCond .eq 102, 3) := by decide +kernel
theorem dL_hangs_389 : decode cL_hangs 389 = .ok (.aload_n 0, 1) := by decide +kernel
theorem dL_hangs_390 : decode cL_hangs 390 = .ok (.iload 9, 2) := by decide +kernel
theorem dL_hangs_392 : decode cL_hangs 392 = .ok (.iconst 0, 1) := by decide +kernel
theorem dL_hangs_393 : decode cL_hangs 393 = .ok (.invokevirtual 60, 3) := by decide +kernel
theorem dL_hangs_396 : decode cL_hangs 396 = .ok (.istore 10, 2) := by decide +kernel
theorem dL_hangs_398 : decode cL_hangs 398 = .ok (.aload_n 0, 1) := by decide +kernel
theorem dL_hangs_399 : decode cL_hangs 399 = .ok (.iload 9, 2) := by decide +kernel
theorem dL_hangs_401 : decode cL_hangs 401 = .ok (.iconst 1, 1) := by decide +kernel
theorem dL_hangs_402 : decode cL_hangs 402 = .ok (.invokevirtual 60, 3) := by decide +kernel
theorem dL_hangs_405 : decode cL_hangs 405 = .ok (.istore 11, 2) := by decide +kernel
theorem dL_hangs_407 : decode cL_hangs 407 = .ok (.iload 10, 2) := by decide +kernel
theorem dL_hangs_409 : decode cL_hangs 409 = .ok (.ifCond .lt 52, 3) := by decide +kernel
theorem dL_hangs_412 : decode cL_hangs 412 = .ok (.iload 11, 2) := by decide +kernel
theorem dL_hangs_414 : decode cL_hangs 414 = .ok (.ifCond .le 47, 3) := by decide +kernel
theorem dL_hangs_417 : decode cL_hangs 417 = .ok (.iload 10, 2) := by decide +kernel
theorem dL_hangs_419 : decode cL_hangs 419 = .ok (.iconst 2, 1) := by decide +kernel
theorem dL_hangs_420 : decode cL_hangs 420 = .ok (.iload 11, 2) := by decide +kernel
theorem dL_hangs_422 : decode cL_hangs 422 = .ok (.imul, 1) := by decide +kernel
theorem dL_hangs_423 : decode cL_hangs 423 = .ok (.iadd, 1) := by decide +kernel
theorem dL_hangs_424 : decode cL_hangs 424 = .ok (.iload_n 1, 1) := by decide +kernel
theorem dL_hangs_425 : decode cL_hangs 425 = .ok (.if_icmp .gt 36, 3) := by decide +kernel
theorem dL_hangs_428 : decode cL_hangs 428 = .ok (.aload_n 0, 1) := by decide +kernel
theorem dL_hangs_429 : decode cL_hangs 429 = .ok (.iload 10, 2) := by decide +kernel
theorem dL_hangs_431 : decode cL_hangs 431 = .ok (.iload 10, 2) := by decide +kernel
theorem dL_hangs_433 : decode cL_hangs 433 = .ok (.iload 11, 2) := by decide +kernel
theorem dL_hangs_435 : decode cL_hangs 435 = .ok (.iadd, 1) := by decide +kernel
theorem dL_hangs_436 : decode cL_hangs 436 = .ok (.iload 11, 2) := by decide +kernel
theorem dL_hangs_438 : decode cL_hangs 438 = .ok (.invokestatic 42, 3) := by decide +kernel
theorem dL_hangs_441 : decode cL_hangs 441 = .ok (.ifCond .eq 20, 3) := by decide +kernel
theorem dL_hangs_444 : decode cL_hangs 444 = .ok (.bipush 50, 2) := by decide +kernel
theorem dL_hangs_446 : decode cL_hangs 446 = .ok (.iload 10, 2) := by decide +kernel
theorem dL_hangs_448 : decode cL_hangs 448 = .ok (.imul, 1) := by decide +kernel
theorem dL_hangs_449 : decode cL_hangs 449 = .ok (.iload 11, 2) := by decide +kernel
theorem dL_hangs_451 : decode cL_hangs 451 = .ok (.iadd, 1) := by decide +kernel
theorem dL_hangs_452 : decode cL_hangs 452 = .ok (.iload 8, 2) := by decide +kernel
theorem dL_hangs_454 : decode cL_hangs 454 = .ok (.if_icmp .le 7, 3) := by decide +kernel
theorem dL_hangs_457 : decode cL_hangs 457 = .ok (.iconst 1, 1) := by decide +kernel
theorem dL_hangs_458 : decode cL_hangs 458 = .ok (.goto 4, 3) := by decide +kernel
theorem dL_hangs_461 : decode cL_hangs 461 = .ok (.iconst 0, 1) := by decide +kernel
theorem dL_hangs_462 : decode cL_hangs 462 = .ok (.istore_n 2, 1) := by decide +kernel
theorem dL_hangs_463 : decode cL_hangs 463 = .ok (.bipush 50, 2) := by decide +kernel
theorem dL_hangs_465 : decode cL_hangs 465 = .ok (.iload 10, 2) := by decide +kernel
theorem dL_hangs_467 : decode cL_hangs 467 = .ok (.imul, 1) := by decide +kernel
theorem dL_hangs_468 : decode cL_hangs 468 = .ok (.iload 11, 2) := by decide +kernel
theorem dL_hangs_470 : decode cL_hangs 470 = .ok (.iadd, 1) := by decide +kernel
theorem dL_hangs_471 : decode cL_hangs 471 = .ok (.istore 8, 2) := by decide +kernel
theorem dL_hangs_473 : decode cL_hangs 473 = .ok (.iload 9, 2) := by decide +kernel
theorem dL_hangs_475 : decode cL_hangs 475 = .ok (.iconst 1, 1) := by decide +kernel
theorem dL_hangs_476 : decode cL_hangs 476 = .ok (.iload 7, 2) := by decide +kernel
theorem dL_hangs_478 : decode cL_hangs 478 = .ok (.bipush 16, 2) := by decide +kernel
theorem dL_hangs_480 : decode cL_hangs 480 = .ok (.idiv, 1) := by decide +kernel
theorem dL_hangs_481 : decode cL_hangs 481 = .ok (.iadd, 1) := by decide +kernel
theorem dL_hangs_482 : decode cL_hangs 482 = .ok (.iadd, 1) := by decide +kernel
theorem dL_hangs_483 : decode cL_hangs 483 = .ok (.istore 9, 2) := by decide +kernel
theorem dL_hangs_485 : decode cL_hangs 485 = .ok (.goto (-107), 3) := by decide +kernel
theorem dL_hangs_488 : decode cL_hangs 488 = .ok (.aload_n 0, 1) := by decide +kernel
theorem dL_hangs_489 : decode cL_hangs 489 = .ok (.iconst 5, 1) := by decide +kernel
theorem dL_hangs_490 : decode cL_hangs 490 = .ok (.invokevirtual 35, 3) := by decide +kernel
theorem dL_hangs_493 : decode cL_hangs 493 = .ok (.istore 9, 2) := by decide +kernel
theorem dL_hangs_495 : decode cL_hangs 495 = .ok (.iconst 0, 1) := by decide +kernel
theorem dL_hangs_496 : decode cL_hangs 496 = .ok (.istore 10, 2) := by decide +kernel
theorem dL_hangs_498 : decode cL_hangs 498 = .ok (.iconst 0, 1) := by decide +kernel
theorem dL_hangs_499 : decode cL_hangs 499 = .ok (.istore 11, 2) := by decide +kernel
theorem dL_hangs_501 : decode cL_hangs 501 = .ok (.iconst (-1), 1) := by decide +kernel
theorem dL_hangs_502 : decode cL_hangs 502 = .ok (.istore 8, 2) := by decide +kernel
theorem dL_hangs_504 : decode cL_hangs 504 = .ok (.iload_n 2, 1) := by decide +kernel
theorem dL_hangs_505 : decode cL_hangs 505 = .ok (.ifCond .eq 19, 3) := by decide +kernel
theorem dL_hangs_508 : decode cL_hangs 508 = .ok (.aload_n 0, 1) := by decide +kernel
theorem dL_hangs_509 : decode cL_hangs 509 = .ok (.iload 9, 2) := by decide +kernel
theorem dL_hangs_511 : decode cL_hangs 511 = .ok (.iconst 0, 1) := by decide +kernel
theorem dL_hangs_512 : decode cL_hangs 512 = .ok (.invokevirtual 63, 3) := by decide +kernel
theorem dL_hangs_515 : decode cL_hangs 515 = .ok (.bipush (-4), 2) := by decide +kernel
theorem dL_hangs_517 : decode cL_hangs 517 = .ok (.if_icmp .ne 7, 3) := by decide +kernel
theorem dL_hangs_520 : decode cL_hangs 520 = .ok (.iconst 1, 1) := by decide +kernel
theorem dL_hangs_521 : decode cL_hangs 521 = .ok (.goto 4, 3) := by decide +kernel
theorem dL_hangs_524 : decode cL_hangs 524 = .ok (.iconst 0, 1) := by decide +kernel
theorem dL_hangs_525 : decode cL_hangs 525 = .ok (.istore_n 2, 1) := by decide +kernel
theorem dL_hangs_526 : decode cL_hangs 526 = .ok (.iconst 0, 1) := by decide +kernel
theorem dL_hangs_527 : decode cL_hangs 527 = .ok (.istore 12, 2) := by decide +kernel
theorem dL_hangs_529 : decode cL_hangs 529 = .ok (.iload 12, 2) := by decide +kernel
theorem dL_hangs_531 : decode cL_hangs 531 = .ok (.iload 9, 2) := by decide +kernel
theorem dL_hangs_533 : decode cL_hangs 533 = .ok (.if_icmp .ge 232, 3) := by decide +kernel
theorem dL_hangs_536 : decode cL_hangs 536 = .ok (.iload_n 2, 1) := by decide +kernel
theorem dL_hangs_537 : decode cL_hangs 537 = .ok (.ifCond .eq 228, 3) := by decide +kernel
theorem dL_hangs_540 : decode cL_hangs 540 = .ok (.aload_n 0, 1) := by decide +kernel
theorem dL_hangs_541 : decode cL_hangs 541 = .ok (.iload 12, 2) := by decide +kernel
theorem dL_hangs_543 : decode cL_hangs 543 = .ok (.iconst 0, 1) := by decide +kernel
theorem dL_hangs_544 : decode cL_hangs 544 = .ok (.invokevirtual 63, 3) := by decide +kernel
theorem dL_hangs_547 : decode cL_hangs 547 = .ok (.istore 13, 2) := by decide +kernel
theorem dL_hangs_549 : decode cL_hangs 549 = .ok (.aload_n 0, 1) := by decide +kernel
theorem dL_hangs_550 : decode cL_hangs 550 = .ok (.iload 12, 2) := by decide +kernel
theorem dL_hangs_552 : decode cL_hangs 552 = .ok (.iconst 1, 1) := by decide +kernel
theorem dL_hangs_553 : decode cL_hangs 553 = .ok (.invokevirtual 63, 3) := by decide +kernel
theorem dL_hangs_556 : decode cL_hangs 556 = .ok (.istore 14, 2) := by decide +kernel
theorem dL_hangs_558 : decode cL_hangs 558 = .ok (.aload_n 0, 1) := by decide +kernel
theorem dL_hangs_559 : decode cL_hangs 559 = .ok (.iload 12, 2) := by decide +kernel
theorem dL_hangs_561 : decode cL_hangs 561 = .ok (.iconst 2, 1) := by decide +kernel
theorem dL_hangs_562 : decode cL_hangs 562 = .ok (.invokevirtual 63, 3) := by decide +kernel
theorem dL_hangs_565 : decode cL_hangs 565 = .ok (.istore 15, 2) := by decide +kernel
theorem dL_hangs_567 : decode cL_hangs 567 = .ok (.aload_n 0, 1) := by decide +kernel
theorem dL_hangs_568 : decode cL_hangs 568 = .ok (.iload 12, 2) := by decide +kernel
theorem dL_hangs_570 : decode cL_hangs 570 = .ok (.iconst 3, 1) := by decide +kernel
theorem dL_hangs_571 : decode cL_hangs 571 = .ok (.invokevirtual 63, 3) := by decide +kernel
theorem dL_hangs_574 : decode cL_hangs 574 = .ok (.istore 16, 2) := by decide +kernel
theorem dL_hangs_576 : decode cL_hangs 576 = .ok (.iload 14, 2) := by decide +kernel
theorem dL_hangs_578 : decode cL_hangs 578 = .ok (.iload_n 1, 1) := by decide +kernel
theorem dL_hangs_579 : decode cL_hangs 579 = .ok (.if_icmp .gt 158, 3) := by decide +kernel
theorem dL_hangs_582 : decode cL_hangs 582 = .ok (.iload 14, 2) := by decide +kernel
theorem dL_hangs_584 : decode cL_hangs 584 = .ok (.iload 13, 2) := by decide +kernel
theorem dL_hangs_586 : decode cL_hangs 586 = .ok (.isub, 1) := by decide +kernel
theorem dL_hangs_587 : decode cL_hangs 587 = .ok (.iconst 2, 1) := by decide +kernel
theorem dL_hangs_588 : decode cL_hangs 588 = .ok (.iload 15, 2) := by decide +kernel
theorem dL_hangs_590 : decode cL_hangs 590 = .ok (.imul, 1) := by decide +kernel
theorem dL_hangs_591 : decode cL_hangs 591 = .ok (.if_icmp .lt 146, 3) := by decide +kernel
theorem dL_hangs_594 : decode cL_hangs 594 = .ok (.aload_n 0, 1) := by decide +kernel
theorem dL_hangs_595 : decode cL_hangs 595 = .ok (.iload 13, 2) := by decide +kernel
theorem dL_hangs_597 : decode cL_hangs 597 = .ok (.iload 14, 2) := by decide +kernel
theorem dL_hangs_599 : decode cL_hangs 599 = .ok (.bipush 6, 2) := by decide +kernel
theorem dL_hangs_601 : decode cL_hangs 601 = .ok (.invokevirtual 38, 3) := by decide +kernel
theorem dL_hangs_604 : decode cL_hangs 604 = .ok (.iload 15, 2) := by decide +kernel
theorem dL_hangs_606 : decode cL_hangs 606 = .ok (.if_icmp .ne 131, 3) := by decide +kernel
theorem dL_hangs_609 : decode cL_hangs 609 = .ok (.iload 13, 2) := by decide +kernel
theorem dL_hangs_611 : decode cL_hangs 611 = .ok (.ifCond .eq 27, 3) := by decide +kernel
theorem dL_hangs_614 : decode cL_hangs 614 = .ok (.aload_n 0, 1) := by decide +kernel
theorem dL_hangs_615 : decode cL_hangs 615 = .ok (.iload 13, 2) := by decide +kernel
theorem dL_hangs_617 : decode cL_hangs 617 = .ok (.iconst 1, 1) := by decide +kernel
theorem dL_hangs_618 : decode cL_hangs 618 = .ok (.isub, 1) := by decide +kernel
theorem dL_hangs_619 : decode cL_hangs 619 = .ok (.iconst 0, 1) := by decide +kernel
theorem dL_hangs_620 : decode cL_hangs 620 = .ok (.invokevirtual 32, 3) := by decide +kernel
theorem dL_hangs_623 : decode cL_hangs 623 = .ok (.aload_n 0, 1) := by decide +kernel
theorem dL_hangs_624 : decode cL_hangs 624 = .ok (.iload 13, 2) := by decide +kernel
theorem dL_hangs_626 : decode cL_hangs 626 = .ok (.iconst 1, 1) := by decide +kernel
theorem dL_hangs_627 : decode cL_hangs 627 = .ok (.isub, 1) := by decide +kernel
theorem dL_hangs_628 : decode cL_hangs 628 = .ok (.iload 15, 2) := by decide +kernel
theorem dL_hangs_630 : decode cL_hangs 630 = .ok (.iadd, 1) := by decide +kernel
theorem dL_hangs_631 : decode cL_hangs 631 = .ok (.iconst 0, 1) := by decide +kernel
theorem dL_hangs_632 : decode cL_hangs 632 = .ok (.invokevirtual 32, 3) := by decide +kernel
theorem dL_hangs_635 : decode cL_hangs 635 = .ok (.if_icmp .eq 102, 3) := by decide +kernel
theorem dL_hangs_638 : decode cL_hangs 638 = .ok (.iload 14, 2) := by decide +kernel
theorem dL_hangs_640 : decode cL_hangs 640 = .ok (.iload_n 1, 1) := by decide +kernel
theorem dL_hangs_641 : decode cL_hangs 641 = .ok (.if_icmp .eq 23, 3) := by decide +kernel
theorem dL_hangs_644 : decode cL_hangs 644 = .ok (.aload_n 0, 1) := by decide +kernel
theorem dL_hangs_645 : decode cL_hangs 645 = .ok (.iload 14, 2) := by decide +kernel
theorem dL_hangs_647 : decode cL_hangs 647 = .ok (.iconst 0, 1) := by decide +kernel
theorem dL_hangs_648 : decode cL_hangs 648 = .ok (.invokevirtual 32, 3) := by decide +kernel
theorem dL_hangs_651 : decode cL_hangs 651 = .ok (.aload_n 0, 1) := by decide +kernel
theorem dL_hangs_652 : decode cL_hangs 652 = .ok (.iload 14, 2) := by decide +kernel
theorem dL_hangs_654 : decode cL_hangs 654 = .ok (.iload 15, 2) := by decide +kernel
theorem dL_hangs_656 : decode cL_hangs 656 = .ok (.isub, 1) := by decide +kernel
theorem dL_hangs_657 : decode cL_hangs 657 = .ok (.iconst 0, 1) := by decide +kernel
theorem dL_hangs_658 : decode cL_hangs 658 = .ok (.invokevirtual 32, 3) := by decide +kernel
theorem dL_hangs_661 : decode cL_hangs 661 = .ok (.if_icmp .eq 76, 3) := by decide +kernel
theorem dL_hangs_664 : decode cL_hangs 664 = .ok (.iload 16, 2) := by decide +kernel
theorem dL_hangs_666 : decode cL_hangs 666 = .ok (.iload 13, 2) := by decide +kernel
theorem dL_hangs_668 : decode cL_hangs 668 = .ok (.if_icmp .lt 69, 3) := by decide +kernel
theorem dL_hangs_671 : decode cL_hangs 671 = .ok (.iload 16, 2) := by decide +kernel
theorem dL_hangs_673 : decode cL_hangs 673 = .ok (.iload 13, 2) := by decide +kernel
theorem dL_hangs_675 : decode cL_hangs 675 = .ok (.iload 15, 2) := by decide +kernel
theorem dL_hangs_677 : decode cL_hangs 677 = .ok (.iadd, 1) := by decide +kernel
theorem dL_hangs_678 : decode cL_hangs 678 = .ok (.if_icmp .ge 59, 3) := by decide +kernel
theorem dL_hangs_681 : decode cL_hangs 681 = .ok (.aload_n 0, 1) := by decide +kernel
theorem dL_hangs_682 : decode cL_hangs 682 = .ok (.iload 16, 2) := by decide +kernel
theorem dL_hangs_684 : decode cL_hangs 684 = .ok (.iload 16, 2) := by decide +kernel
theorem dL_hangs_686 : decode cL_hangs 686 = .ok (.iload 15, 2) := by decide +kernel
theorem dL_hangs_688 : decode cL_hangs 688 = .ok (.iadd, 1) := by decide +kernel
theorem dL_hangs_689 : decode cL_hangs 689 = .ok (.bipush 8, 2) := by decide +kernel
theorem dL_hangs_691 : decode cL_hangs 691 = .ok (.invokevirtual 38, 3) := by decide +kernel
theorem dL_hangs_694 : decode cL_hangs 694 = .ok (.iconst 1, 1) := by decide +kernel
theorem dL_hangs_695 : decode cL_hangs 695 = .ok (.if_icmp .ne 42, 3) := by decide +kernel
theorem dL_hangs_698 : decode cL_hangs 698 = .ok (.aload_n 0, 1) := by decide +kernel
theorem dL_hangs_699 : decode cL_hangs 699 = .ok (.iload 12, 2) := by decide +kernel
theorem dL_hangs_701 : decode cL_hangs 701 = .ok (.iconst 4, 1) := by decide +kernel
theorem dL_hangs_702 : decode cL_hangs 702 = .ok (.invokevirtual 63, 3) := by decide +kernel
theorem dL_hangs_705 : decode cL_hangs 705 = .ok (.iload 14, 2) := by decide +kernel
theorem dL_hangs_707 : decode cL_hangs 707 = .ok (.iload 13, 2) := by decide +kernel
theorem dL_hangs_709 : decode cL_hangs 709 = .ok (.isub, 1) := by decide +kernel
theorem dL_hangs_710 : decode cL_hangs 710 = .ok (.iconst 2, 1) := by decide +kernel
theorem dL_hangs_711 : decode cL_hangs 711 = .ok (.iload 15, 2) := by decide +kernel
theorem dL_hangs_713 : decode cL_hangs 713 = .ok (.imul, 1) := by decide +kernel
theorem dL_hangs_714 : decode cL_hangs 714 = .ok (.isub, 1) := by decide +kernel
theorem dL_hangs_715 : decode cL_hangs 715 = .ok (.iconst 1, 1) := by decide +kernel
theorem dL_hangs_716 : decode cL_hangs 716 = .ok (.iadd, 1) := by decide +kernel
theorem dL_hangs_717 : decode cL_hangs 717 = .ok (.if_icmp .ne 20, 3) := by decide +kernel
theorem dL_hangs_720 : decode cL_hangs 720 = .ok (.bipush 50, 2) := by decide +kernel
theorem dL_hangs_722 : decode cL_hangs 722 = .ok (.iload 13, 2) := by decide +kernel
theorem dL_hangs_724 : decode cL_hangs 724 = .ok (.imul, 1) := by decide +kernel
theorem dL_hangs_725 : decode cL_hangs 725 = .ok (.iload 15, 2) := by decide +kernel
theorem dL_hangs_727 : decode cL_hangs 727 = .ok (.iadd, 1) := by decide +kernel
theorem dL_hangs_728 : decode cL_hangs 728 = .ok (.iload 8, 2) := by decide +kernel
theorem dL_hangs_730 : decode cL_hangs 730 = .ok (.if_icmp .le 7, 3) := by decide +kernel
theorem dL_hangs_733 : decode cL_hangs 733 = .ok (.iconst 1, 1) := by decide +kernel
theorem dL_hangs_734 : decode cL_hangs 734 = .ok (.goto 4, 3) := by decide +kernel
theorem dL_hangs_737 : decode cL_hangs 737 = .ok (.iconst 0, 1) := by decide +kernel
theorem dL_hangs_738 : decode cL_hangs 738 = .ok (.istore_n 2, 1) := by decide +kernel
theorem dL_hangs_739 : decode cL_hangs 739 = .ok (.bipush 50, 2) := by decide +kernel
theorem dL_hangs_741 : decode cL_hangs 741 = .ok (.iload 13, 2) := by decide +kernel
theorem dL_hangs_743 : decode cL_hangs 743 = .ok (.imul, 1) := by decide +kernel
theorem dL_hangs_744 : decode cL_hangs 744 = .ok (.iload 15, 2) := by decide +kernel
theorem dL_hangs_746 : decode cL_hangs 746 = .ok (.iadd, 1) := by decide +kernel
theorem dL_hangs_747 : decode cL_hangs 747 = .ok (.istore 8, 2) := by decide +kernel
theorem dL_hangs_749 : decode cL_hangs 749 = .ok (.iload 10, 2) := by decide +kernel
theorem dL_hangs_751 : decode cL_hangs 751 = .ok (.iload 14, 2) := by decide +kernel
theorem dL_hangs_753 : decode cL_hangs 753 = .ok (.iload 13, 2) := by decide +kernel
theorem dL_hangs_755 : decode cL_hangs 755 = .ok (.isub, 1) := by decide +kernel
theorem dL_hangs_756 : decode cL_hangs 756 = .ok (.iadd, 1) := by decide +kernel
theorem dL_hangs_757 : decode cL_hangs 757 = .ok (.istore 10, 2) := by decide +kernel
theorem dL_hangs_759 : decode cL_hangs 759 = .ok (.iinc 12 1, 3) := by decide +kernel
theorem dL_hangs_762 : decode cL_hangs 762 = .ok (.goto (-233), 3) := by decide +kernel
theorem dL_hangs_765 : decode cL_hangs 765 = .ok (.iconst 0, 1) := by decide +kernel
theorem dL_hangs_766 : decode cL_hangs 766 = .ok (.istore 12, 2) := by decide +kernel
theorem dL_hangs_768 : decode cL_hangs 768 = .ok (.iload 12, 2) := by decide +kernel
theorem dL_hangs_770 : decode cL_hangs 770 = .ok (.iload_n 1, 1) := by decide +kernel
theorem dL_hangs_771 : decode cL_hangs 771 = .ok (.if_icmp .ge 33, 3) := by decide +kernel
theorem dL_hangs_774 : decode cL_hangs 774 = .ok (.iload 11, 2) := by decide +kernel
theorem dL_hangs_776 : decode cL_hangs 776 = .ok (.aload_n 0, 1) := by decide +kernel
theorem dL_hangs_777 : decode cL_hangs 777 = .ok (.iload 12, 2) := by decide +kernel
theorem dL_hangs_779 : decode cL_hangs 779 = .ok (.iconst 2, 1) := by decide +kernel
theorem dL_hangs_780 : decode cL_hangs 780 = .ok (.invokevirtual 32, 3) := by decide +kernel
theorem dL_hangs_783 : decode cL_hangs 783 = .ok (.iadd, 1) := by decide +kernel
theorem dL_hangs_784 : decode cL_hangs 784 = .ok (.istore 11, 2) := by decide +kernel
theorem dL_hangs_786 : decode cL_hangs 786 = .ok (.iload 7, 2) := by decide +kernel
theorem dL_hangs_788 : decode cL_hangs 788 = .ok (.aload_n 0, 1) := by decide +kernel
theorem dL_hangs_789 : decode cL_hangs 789 = .ok (.iload 12, 2) := by decide +kernel
theorem dL_hangs_791 : decode cL_hangs 791 = .ok (.iconst 3, 1) := by decide +kernel
theorem dL_hangs_792 : decode cL_hangs 792 = .ok (.invokevirtual 32, 3) := by decide +kernel
theorem dL_hangs_795 : decode cL_hangs 795 = .ok (.isub, 1) := by decide +kernel
theorem dL_hangs_796 : decode cL_hangs 796 = .ok (.istore 7, 2) := by decide +kernel
theorem dL_hangs_798 : decode cL_hangs 798 = .ok (.iinc 12 1, 3) := by decide +kernel
theorem dL_hangs_801 : decode cL_hangs 801 = .ok (.goto (-33), 3) := by decide +kernel
theorem dL_hangs_804 : decode cL_hangs 804 = .ok (.iload_n 2, 1) := by decide +kernel
theorem dL_hangs_805 : decode cL_hangs 805 = .ok (.ifCond .eq 93, 3) := by decide +kernel
theorem dL_hangs_808 : decode cL_hangs 808 = .ok (.iload_n 3, 1) := by decide +kernel
theorem dL_hangs_809 : decode cL_hangs 809 = .ok (.aload_n 0, 1) := by decide +kernel
theorem dL_hangs_810 : decode cL_hangs 810 = .ok (.bipush 8, 2) := by decide +kernel
theorem dL_hangs_812 : decode cL_hangs 812 = .ok (.invokevirtual 35, 3) := by decide +kernel
theorem dL_hangs_815 : decode cL_hangs 815 = .ok (.if_icmp .ne 83, 3) := by decide +kernel
theorem dL_hangs_818 : decode cL_hangs 818 = .ok (.iload 4, 2) := by decide +kernel
theorem dL_hangs_820 : decode cL_hangs 820 = .ok (.aload_n 0, 1) := by decide +kernel
theorem dL_hangs_821 : decode cL_hangs 821 = .ok (.iconst 1, 1) := by decide +kernel
theorem dL_hangs_822 : decode cL_hangs 822 = .ok (.invokevirtual 35, 3) := by decide +kernel
theorem dL_hangs_825 : decode cL_hangs 825 = .ok (.if_icmp .ne 73, 3) := by decide +kernel
theorem dL_hangs_828 : decode cL_hangs 828 = .ok (.iload 7, 2) := by decide +kernel
theorem dL_hangs_830 : decode cL_hangs 830 = .ok (.ifCond .ne 68, 3) := by decide +kernel
theorem dL_hangs_833 : decode cL_hangs 833 = .ok (.iload 10, 2) := by decide +kernel
theorem dL_hangs_835 : decode cL_hangs 835 = .ok (.iload 11, 2) := by decide +kernel
theorem dL_hangs_837 : decode cL_hangs 837 = .ok (.if_icmp .ne 61, 3) := by decide +kernel
theorem dL_hangs_840 : decode cL_hangs 840 = .ok (.iload_n 1, 1) := by decide +kernel
theorem dL_hangs_841 : decode cL_hangs 841 = .ok (.ifCond .eq 20, 3) := by decide +kernel
theorem dL_hangs_844 : decode cL_hangs 844 = .ok (.aload_n 0, 1) := by decide +kernel
theorem dL_hangs_845 : decode cL_hangs 845 = .ok (.bipush 6, 2) := by decide +kernel
theorem dL_hangs_847 : decode cL_hangs 847 = .ok (.invokevirtual 35, 3) := by decide +kernel
theorem dL_hangs_850 : decode cL_hangs 850 = .ok (.aload_n 0, 1) := by decide +kernel
theorem dL_hangs_851 : decode cL_hangs 851 = .ok (.bipush 7, 2) := by decide +kernel
theorem dL_hangs_853 : decode cL_hangs 853 = .ok (.invokevirtual 35, 3) := by decide +kernel
theorem dL_hangs_856 : decode cL_hangs 856 = .ok (.iadd, 1) := by decide +kernel
theorem dL_hangs_857 : decode cL_hangs 857 = .ok (.iload_n 1, 1) := by decide +kernel
theorem dL_hangs_858 : decode cL_hangs 858 = .ok (.if_icmp .ne 40, 3) := by decide +kernel
theorem dL_hangs_861 : decode cL_hangs 861 = .ok (.aload_n 0, 1) := by decide +kernel
theorem dL_hangs_862 : decode cL_hangs 862 = .ok (.bipush 9, 2) := by decide +kernel
theorem dL_hangs_864 : decode cL_hangs 864 = .ok (.invokevirtual 35, 3) := by decide +kernel
theorem dL_hangs_867 : decode cL_hangs 867 = .ok (.aload_n 0, 1) := by decide +kernel
theorem dL_hangs_868 : decode cL_hangs 868 = .ok (.iconst 4, 1) := by decide +kernel
theorem dL_hangs_869 : decode cL_hangs 869 = .ok (.invokevirtual 35, 3) := by decide +kernel
theorem dL_hangs_872 : decode cL_hangs 872 = .ok (.if_icmp .gt 26, 3) := by decide +kernel
theorem dL_hangs_875 : decode cL_hangs 875 = .ok (.aload_n 0, 1) := by decide +kernel
theorem dL_hangs_876 : decode cL_hangs 876 = .ok (.iconst 3, 1) := by decide +kernel
theorem dL_hangs_877 : decode cL_hangs 877 = .ok (.invokevirtual 35, 3) := by decide +kernel
theorem dL_hangs_880 : decode cL_hangs 880 = .ok (.aload_n 0, 1) := by decide +kernel
theorem dL_hangs_881 : decode cL_hangs 881 = .ok (.iconst 2, 1) := by decide +kernel
theorem dL_hangs_882 : decode cL_hangs 882 = .ok (.invokevirtual 35, 3) := by decide +kernel
theorem dL_hangs_885 : decode cL_hangs 885 = .ok (.if_icmp .gt 13, 3) := by decide +kernel
theorem dL_hangs_888 : decode cL_hangs 888 = .ok (.iload 9, 2) := by decide +kernel
theorem dL_hangs_890 : decode cL_hangs 890 = .ok (.iload_n 1, 1) := by decide +kernel
theorem dL_hangs_891 : decode cL_hangs 891 = .ok (.if_icmp .gt 7, 3) := by decide +kernel
theorem dL_hangs_894 : decode cL_hangs 894 = .ok (.iconst 1, 1) := by decide +kernel
theorem dL_hangs_895 : decode cL_hangs 895 = .ok (.goto 4, 3) := by decide +kernel
theorem dL_hangs_898 : decode cL_hangs 898 = .ok (.iconst 0, 1) := by decide +kernel
theorem dL_hangs_899 : decode cL_hangs 899 = .ok (.ireturn, 1) := by decide +kernel
set_option maxRecDepth 20000 in
theorem ggL_law_X9_init : GoodIn wsL_law wsX9_init := goodIn_r _ [5, 6, 7, 8, 9, 10, 11, 12, 13, 14, 15, 16, 17, 18, 19, 20, 21, 22, 23, 24, 25, 26, 27, 28, 29, 30, 31, 32, 33, 34, 35, 36, 37, 38, 39, 40, 41, 42, 43, 44, 45, 46, 47, 48, 49, 50, 51, 52, 53, 54, 55, 439, 440, 432, 433, 434, 435, 436, 437, 438, 441, 442, 443, 444, 445, 446, 447, 448, 449] (by decide +kernel) (by decide +kernel)
set_option maxRecDepth 20000 in
theorem gL_law_X9_init : GoodIn wsL_law (wsX9_init) := ggL_law_X9_init
set_option maxRecDepth 20000 in
theorem ggL_law_X9_undo : GoodIn wsL_law wsX9_undo := goodIn_r _ [59, 19, 12, 60, 61, 62, 18, 63, 41, 64, 65, 66, 67, 40, 39, 68, 69, 70, 71, 72, 73, 74, 11, 75, 76, 77, 78, 79, 33, 80, 81, 82, 83, 84, 85, 86, 87, 88, 89, 90, 91, 32, 92, 93, 94, 95, 432, 433, 434, 435, 436, 437, 438, 441, 442, 443, 439, 440] (by decide +kernel) (by decide +kernel)
set_option maxRecDepth 20000 in
theorem gL_law_X9_undo : GoodIn wsL_law (wsV RL 67 RX9 yX9_undo wsX9_undo) := goodIn_app (goodIn_of _ (by decide +kernel)) ggL_law_X9_undo
set_option maxRecDepth 20000 in
theorem ggL_law_X9_restore : GoodIn wsL_law wsX9_restore := goodIn_r _ [99, 15, 14, 12, 100, 101, 102, 2, 103, 19, 104, 105, 106, 18, 107, 40, 39, 41, 108, 109, 110, 111, 68, 69, 70, 71, 72, 73, 74, 11, 75, 76, 77, 78, 79, 33, 80, 81, 82, 83, 84, 85, 86, 87, 88, 89, 90, 91, 32, 92, 93, 94, 95, 112, 113, 432, 433, 434, 435, 436, 437, 438, 441, 442, 443, 439, 440] (by decide +kernel) (by decide +kernel)
set_option maxRecDepth 20000 in
theorem gL_law_X9_restore : GoodIn wsL_law (wsV RL 70 RX9 yX9_restore wsX9_restore) := goodIn_app (goodIn_of _ (by decide +kernel)) ggL_law_X9_restore
set_option maxRecDepth 20000 in
theorem ggL_law_X9_reverse : GoodIn wsL_law wsX9_reverse := goodIn_r _ [117, 13, 12, 118, 77, 78, 11, 79, 33, 113, 81, 82, 83, 119, 89, 90, 91, 32, 120, 93, 94, 95, 121, 122, 123, 124, 80, 88, 100, 101, 102, 2, 103, 19, 104, 105, 106, 18, 107, 40, 39, 41, 108, 109, 110, 111, 68, 69, 70, 71, 72, 73, 74, 75, 76, 84, 85, 86, 87, 92, 112, 432, 433, 434, 435, 436, 437, 438, 439, 440, 441, 442, 443] (by decide +kernel) (by decide +kernel)
set_option maxRecDepth 20000 in
theorem gL_law_X9_reverse : GoodIn wsL_law (wsV RL 19 RX9 yX9_reverse wsX9_reverse) := goodIn_app (goodIn_of _ (by decide +kernel)) ggL_law_X9_reverse
set_option maxRecDepth 20000 in
theorem ggL_law_X9_load : GoodIn wsL_law wsX9_load := goodIn_r _ [128, 27, 23, 12, 129, 130, 131, 26, 132, 52, 53, 54, 55, 133, 77, 78, 11, 79, 33, 134, 135, 136, 22, 137, 47, 138, 139, 140, 141, 46, 142, 143, 144, 145, 146, 147, 148, 149, 150, 151, 152, 153, 154, 81, 82, 83, 155, 93, 94, 95, 32, 156, 157, 158, 159, 160, 85, 86, 87, 88, 89, 90, 91, 92, 161, 162, 163, 164, 165, 166, 167, 168, 169, 170, 171, 172, 100, 101, 102, 2, 103, 19, 104, 105, 106, 18, 107, 40, 39, 41, 108, 109, 110, 111, 68, 69, 70, 71, 72, 73, 74, 75, 76, 80, 84, 112, 113, 432, 433, 434, 435, 436, 437, 438, 446, 447, 448, 449, 439, 440, 444, 445, 441, 442, 443] (by decide +kernel) (by decide +kernel)
set_option maxRecDepth 20000 in
theorem gL_law_X9_load : GoodIn wsL_law (wsV RL 73 RX9 yX9_load wsX9_load) := goodIn_app (goodIn_of _ (by decide +kernel)) ggL_law_X9_load
set_option maxRecDepth 20000 in
theorem ggL_law_X9_count : GoodIn wsL_law wsX9_count := goodIn_r _ [176, 12, 19, 23, 113, 81, 82, 11, 83, 33, 177, 178, 179, 180, 88, 89, 90, 91, 32, 181, 182, 183, 184, 185, 186, 187, 188, 189, 190, 191, 192, 193, 194, 195, 196, 197, 198, 199, 110, 200, 201, 202, 203, 204, 205, 109, 111, 206, 207, 208, 209, 210, 211, 212, 213, 214, 215, 216, 217, 218, 219, 220, 221, 222, 223, 224, 225, 226, 227, 228, 229, 230, 231, 232, 233, 234, 235, 236, 237, 238, 239, 240, 241, 242, 243, 244, 245, 246, 247, 248, 249, 250, 251, 252, 253, 254, 255, 256, 257, 258, 259, 260, 261, 262, 263, 264, 265, 266, 267, 60, 61, 62, 18, 63, 41, 268, 135, 136, 22, 137, 47, 432, 433, 434, 435, 436, 437, 438, 439, 440, 441, 442, 443, 444, 445] (by decide +kernel) (by decide +kernel)
set_option maxRecDepth 20000 in
theorem gL_law_X9_count : GoodIn wsL_law (wsV RL 35 RX9 yX9_count wsX9_count) := goodIn_app (goodIn_of _ (by decide +kernel)) ggL_law_X9_count
set_option maxRecDepth 20000 in
theorem ggL_law_X9_suffix : GoodIn wsL_law wsX9_suffix := goodIn_r _ [272, 12, 273, 274, 275, 276, 277, 81, 82, 11, 83, 33, 278, 279, 280, 281, 282, 283, 284, 232, 233, 234, 235, 199, 110, 200, 88, 89, 90, 91, 32, 285, 432, 433, 434, 435, 436, 437, 438, 439, 440] (by decide +kernel) (by decide +kernel)
set_option maxRecDepth 20000 in
theorem gL_law_X9_suffix : GoodIn wsL_law (wsV RL 48 RX9 yX9_suffix wsX9_suffix) := goodIn_app (goodIn_of _ (by decide +kernel)) ggL_law_X9_suffix
set_option maxRecDepth 20000 in
theorem ggL_law_X9_drop : GoodIn wsL_law wsX9_drop := goodIn_r _ [289, 12, 13, 113, 81, 82, 11, 83, 33, 118, 77, 78, 79, 290, 85, 86, 87, 88, 89, 90, 91, 32, 92, 93, 94, 95, 100, 101, 102, 2, 103, 19, 104, 105, 106, 18, 107, 40, 39, 41, 108, 109, 110, 111, 68, 69, 70, 71, 72, 73, 74, 75, 76, 80, 84, 112, 432, 433, 434, 435, 436, 437, 438, 439, 440, 441, 442, 443] (by decide +kernel) (by decide +kernel)
set_option maxRecDepth 20000 in
theorem gL_law_X9_drop : GoodIn wsL_law (wsV RL 9 RX9 yX9_drop wsX9_drop) := goodIn_app (goodIn_of _ (by decide +kernel)) ggL_law_X9_drop
set_option maxRecDepth 20000 in
theorem ggL_law_L_hangs : GoodIn wsL_law wsL_hangs := fun w h => (List.mem_cons.mp h).elim (fun e => by rw [e]; exact ⟨List.mem_of_getElem? (i := 294) rfl, good_of_word rfl⟩) ((goodIn_r _ [173, 174, 175, 2, 176, 12, 19, 23, 113, 81, 82, 11, 83, 33, 177, 178, 179, 180, 88, 89, 90, 91, 32, 181, 182, 183, 184, 185, 186, 187, 188, 189, 190, 191, 192, 193, 194, 195, 196, 197, 198, 199, 110, 200, 201, 202, 203, 204, 205, 109, 111, 206, 207, 208, 209, 210, 211, 212, 213, 214, 215, 216, 217, 218, 219, 220, 221, 222, 223, 224, 225, 226, 227, 228, 229, 230, 231, 232, 233, 234, 235, 236, 237, 238, 239, 240, 241, 242, 243, 244, 245, 246, 247, 248, 249, 250, 251, 252, 253, 254, 255, 256, 257, 258, 259, 260, 261, 262, 263, 264, 265, 266, 267, 60, 61, 62, 18, 63, 41, 268, 135, 136, 22, 137, 47, 295, 296, 297, 298, 299, 300, 301, 302, 119, 303, 279, 275, 280, 277, 281, 282, 283, 284, 285, 304, 305, 306, 307, 269, 270, 271, 272, 273, 274, 276, 278, 308, 309, 310, 311, 312, 313, 314, 315, 316, 317, 318, 319, 320, 321, 322, 323, 324, 325, 293, 326, 327, 328, 329, 330, 331, 332, 333, 334, 335, 336, 337, 338, 339, 340, 341, 342, 343, 344, 345, 346, 347, 348, 349, 350, 351, 352, 353, 354, 355, 356, 357, 358, 359, 360, 361, 362, 363, 364, 365, 366, 367, 368, 369, 370, 371, 372, 373, 374, 375, 376, 377, 378, 379, 380, 432, 433, 434, 435, 436, 437, 438, 439, 440, 441, 442, 443, 444, 445] (by decide +kernel) (by decide +kernel) : GoodIn wsL_law _) w)
set_option maxRecDepth 20000 in
theorem gL_law_L_hangs : GoodIn wsL_law (va_wsS RL 76 yL_hangs wsL_hangs) := goodIn_app (goodIn_of _ (by decide +kernel)) ggL_law_L_hangs
set_option maxRecDepth 20000 in
theorem ggL_law_L_cell : GoodIn wsL_law wsL_cell := goodIn_r _ [383, 384, 385] (by decide +kernel) (by decide +kernel)
set_option maxRecDepth 20000 in
theorem gL_law_L_cell : GoodIn wsL_law (va_wsS RL 80 yL_cell wsL_cell) := goodIn_app (goodIn_of _ (by decide +kernel)) ggL_law_L_cell
set_option maxRecDepth 20000 in
theorem ggL_law_X9_ifLetter : GoodIn wsL_law wsX9_ifLetter := goodIn_r _ [389, 12, 390, 391, 2, 392, 393, 394, 395, 396, 151, 152, 11, 153, 33, 397, 398, 399, 400, 13, 401, 402, 403, 404, 112, 73, 74, 75, 76, 77, 78, 79, 80, 81, 82, 83, 84, 85, 86, 87, 88, 89, 90, 91, 32, 92, 93, 94, 95, 120, 113, 254, 255, 248, 256, 257, 247, 249, 250, 251, 252, 253, 405, 193, 190, 194, 195, 196, 197, 198, 199, 110, 200, 201, 202, 203, 204, 205, 109, 111, 307, 226, 222, 227, 228, 229, 230, 231, 232, 233, 234, 235, 236, 237, 238, 239, 240, 241, 242, 243, 244, 245, 246, 432, 433, 434, 435, 436, 437, 438, 439, 440] (by decide +kernel) (by decide +kernel)
set_option maxRecDepth 20000 in
theorem gL_law_X9_ifLetter : GoodIn wsL_law (wsV RL 84 RX9 yX9_ifLetter wsX9_ifLetter) := goodIn_app (goodIn_of _ (by decide +kernel)) ggL_law_X9_ifLetter
set_option maxRecDepth 20000 in
theorem ggL_law_L_acts : GoodIn wsL_law wsL_acts := goodIn_r _ [408, 286, 287, 288, 2, 289, 12, 13, 113, 81, 82, 11, 83, 33, 118, 77, 78, 79, 290, 85, 86, 87, 88, 89, 90, 91, 32, 92, 93, 94, 95, 100, 101, 102, 103, 19, 104, 105, 106, 18, 107, 40, 39, 41, 108, 109, 110, 111, 68, 69, 70, 71, 72, 73, 74, 75, 76, 80, 84, 112, 409, 410, 411, 412, 299, 300, 301, 302, 390, 391, 392, 119, 120, 114, 115, 116, 117, 121, 122, 123, 124, 413, 414, 415, 416, 417, 418, 419, 420, 351, 352, 353, 354, 421, 422, 423, 424, 396, 151, 152, 153, 401, 402, 403, 404, 254, 255, 248, 256, 257, 247, 249, 250, 251, 252, 253, 432, 433, 434, 435, 436, 437, 438, 439, 440, 441, 442, 443] (by decide +kernel) (by decide +kernel)
set_option maxRecDepth 20000 in
theorem gL_law_L_acts : GoodIn wsL_law (va_wsS RL 87 yL_acts wsL_acts) := goodIn_app (goodIn_of _ (by decide +kernel)) ggL_law_L_acts
set_option maxRecDepth 20000 in
theorem ggL_law_X9_at : GoodIn wsL_law wsX9_at := goodIn_r _ [298, 12, 299, 300, 301, 11, 302, 33, 119, 89, 90, 91, 32, 303, 279, 275, 280, 277, 81, 82, 83, 281, 282, 283, 284, 232, 233, 234, 235, 199, 110, 200, 88, 285, 304, 305, 238, 306, 240, 241, 242, 243, 244, 245, 246, 247, 248, 249, 250, 251, 252, 253, 307, 226, 222, 227, 228, 229, 230, 231, 432, 433, 434, 435, 436, 437, 438, 439, 440] (by decide +kernel) (by decide +kernel)
set_option maxRecDepth 20000 in
theorem gL_law_X9_at : GoodIn wsL_law (wsV RL 32 RX9 yX9_at wsX9_at) := goodIn_app (goodIn_of _ (by decide +kernel)) ggL_law_X9_at
set_option maxRecDepth 20000 in
theorem ggL_law_L_factors : GoodIn wsL_law wsL_factors := goodIn_r _ [427, 173, 174, 175, 2, 176, 12, 19, 23, 113, 81, 82, 11, 83, 33, 177, 178, 179, 180, 88, 89, 90, 91, 32, 181, 182, 183, 184, 185, 186, 187, 188, 189, 190, 191, 192, 193, 194, 195, 196, 197, 198, 199, 110, 200, 201, 202, 203, 204, 205, 109, 111, 206, 207, 208, 209, 210, 211, 212, 213, 214, 215, 216, 217, 218, 219, 220, 221, 222, 223, 224, 225, 226, 227, 228, 229, 230, 231, 232, 233, 234, 235, 236, 237, 238, 239, 240, 241, 242, 243, 244, 245, 246, 247, 248, 249, 250, 251, 252, 253, 254, 255, 256, 257, 258, 259, 260, 261, 262, 263, 264, 265, 266, 267, 60, 61, 62, 18, 63, 41, 268, 135, 136, 22, 137, 47, 347, 348, 349, 350, 351, 352, 353, 354, 355, 356, 357, 358, 359, 360, 361, 362, 363, 364, 365, 366, 367, 368, 369, 370, 371, 372, 373, 374, 375, 376, 377, 378, 379, 380, 324, 325, 293, 326, 295, 296, 297, 298, 299, 300, 301, 302, 119, 303, 279, 275, 280, 277, 281, 282, 283, 284, 285, 304, 305, 306, 307, 432, 433, 434, 435, 436, 437, 438, 439, 440, 441, 442, 443, 444, 445] (by decide +kernel) (by decide +kernel)
set_option maxRecDepth 20000 in
theorem gL_law_L_factors : GoodIn wsL_law (va_wsS RL 91 yL_factors wsL_factors) := goodIn_app (goodIn_of _ (by decide +kernel)) ggL_law_L_factors
set_option maxRecDepth 20000 in
theorem ggL_law_X9_bestLetter : GoodIn wsL_law wsX9_bestLetter := goodIn_r _ [431, 12, 393, 394, 2, 395, 396, 151, 152, 11, 153, 33, 397, 398, 399, 400, 13, 401, 402, 403, 404, 112, 73, 74, 75, 76, 77, 78, 79, 80, 81, 82, 83, 84, 85, 86, 87, 88, 89, 90, 91, 32, 92, 93, 94, 95, 120, 113, 254, 255, 248, 256, 257, 247, 249, 250, 251, 252, 253, 405, 193, 190, 194, 195, 196, 197, 198, 199, 110, 200, 201, 202, 203, 204, 205, 109, 111, 307, 226, 222, 227, 228, 229, 230, 231, 232, 233, 234, 235, 236, 237, 238, 239, 240, 241, 242, 243, 244, 245, 246, 432, 433, 434, 435, 436, 437, 438, 439, 440] (by decide +kernel) (by decide +kernel)
set_option maxRecDepth 20000 in
theorem gL_law_X9_bestLetter : GoodIn wsL_law (wsV RL 95 RX9 yX9_bestLetter wsX9_bestLetter) := goodIn_app (goodIn_of _ (by decide +kernel)) ggL_law_X9_bestLetter
set_option maxRecDepth 20000 in
theorem ggL_law_X9_add : GoodIn wsL_law wsX9_add := goodIn_r _ [424, 12, 13, 390, 391, 2, 392, 396, 151, 152, 11, 153, 33, 401, 402, 403, 404, 112, 73, 74, 75, 76, 77, 78, 79, 80, 81, 82, 83, 84, 85, 86, 87, 88, 89, 90, 91, 32, 92, 93, 94, 95, 120, 100, 101, 102, 103, 19, 104, 105, 106, 18, 107, 40, 39, 41, 108, 109, 110, 111, 68, 69, 70, 71, 72, 113, 254, 255, 248, 256, 257, 247, 249, 250, 251, 252, 253, 432, 433, 434, 435, 436, 437, 438, 439, 440, 441, 442, 443] (by decide +kernel) (by decide +kernel)
set_option maxRecDepth 20000 in
theorem gL_law_X9_add : GoodIn wsL_law (wsV RL 29 RX9 yX9_add wsX9_add) := goodIn_app (goodIn_of _ (by decide +kernel)) ggL_law_X9_add
set_option maxRecDepth 20000 in
theorem ggL_law_X9_change : GoodIn wsL_law wsX9_change := goodIn_r _ [412, 12, 13, 299, 300, 301, 11, 302, 33, 390, 391, 2, 392, 119, 89, 90, 91, 32, 118, 77, 78, 79, 290, 85, 86, 87, 88, 92, 93, 94, 95, 120, 113, 81, 82, 83, 100, 101, 102, 103, 19, 104, 105, 106, 18, 107, 40, 39, 41, 108, 109, 110, 111, 68, 69, 70, 71, 72, 73, 74, 75, 76, 80, 84, 112, 432, 433, 434, 435, 436, 437, 438, 439, 440, 441, 442, 443] (by decide +kernel) (by decide +kernel)
set_option maxRecDepth 20000 in
theorem gL_law_X9_change : GoodIn wsL_law (wsV RL 15 RX9 yX9_change wsX9_change) := goodIn_app (goodIn_of _ (by decide +kernel)) ggL_law_X9_change
set_option maxRecDepth 20000 in
theorem ggL_law_X9_turn : GoodIn wsL_law wsX9_turn := goodIn_r _ [416, 12, 13, 113, 81, 82, 11, 83, 33, 118, 77, 78, 79, 290, 85, 86, 87, 88, 89, 90, 91, 32, 92, 93, 94, 95, 121, 122, 123, 124, 80, 100, 101, 102, 2, 103, 19, 104, 105, 106, 18, 107, 40, 39, 41, 108, 109, 110, 111, 68, 69, 70, 71, 72, 73, 74, 75, 76, 84, 112, 119, 432, 433, 434, 435, 436, 437, 438, 439, 440, 441, 442, 443] (by decide +kernel) (by decide +kernel)
set_option maxRecDepth 20000 in
theorem gL_law_X9_turn : GoodIn wsL_law (wsV RL 23 RX9 yX9_turn wsX9_turn) := goodIn_app (goodIn_of _ (by decide +kernel)) ggL_law_X9_turn
set_option maxRecDepth 20000 in
theorem ggL_law_X9_fold : GoodIn wsL_law wsX9_fold := goodIn_r _ [420, 12, 13, 351, 352, 353, 11, 354, 33, 113, 81, 82, 83, 112, 73, 74, 75, 76, 77, 78, 79, 80, 84, 85, 86, 87, 88, 89, 90, 91, 32, 92, 93, 94, 95, 290, 100, 101, 102, 2, 103, 19, 104, 105, 106, 18, 107, 40, 39, 41, 108, 109, 110, 111, 68, 69, 70, 71, 72, 432, 433, 434, 435, 436, 437, 438, 439, 440, 441, 442, 443] (by decide +kernel) (by decide +kernel)
set_option maxRecDepth 20000 in
theorem gL_law_X9_fold : GoodIn wsL_law (wsV RL 26 RX9 yX9_fold wsX9_fold) := goodIn_app (goodIn_of _ (by decide +kernel)) ggL_law_X9_fold
set_option maxRecDepth 20000 in
theorem ggL_law_X9_border : GoodIn wsL_law wsX9_border := goodIn_r _ [320, 12, 113, 81, 82, 11, 83, 33, 321, 322, 248, 323, 250, 251, 252, 253, 89, 90, 91, 32, 432, 433, 434, 435, 436, 437, 438, 439, 440] (by decide +kernel) (by decide +kernel)
set_option maxRecDepth 20000 in
theorem gL_law_X9_border : GoodIn wsL_law (wsV RL 57 RX9 yX9_border wsX9_border) := goodIn_app (goodIn_of _ (by decide +kernel)) ggL_law_X9_border
set_option maxRecDepth 20000 in
theorem ggL_law_X9_alike : GoodIn wsL_law wsX9_alike := goodIn_r _ [315, 12, 299, 300, 301, 11, 302, 33, 316, 232, 233, 234, 235, 199, 110, 200, 88, 89, 90, 91, 32, 432, 433, 434, 435, 436, 437, 438, 439, 440] (by decide +kernel) (by decide +kernel)
set_option maxRecDepth 20000 in
theorem gL_law_X9_alike : GoodIn wsL_law (wsV RL 54 RX9 yX9_alike wsX9_alike) := goodIn_app (goodIn_of _ (by decide +kernel)) ggL_law_X9_alike
set_option maxRecDepth 20000 in
theorem ggL_law_X9_square : GoodIn wsL_law wsX9_square := goodIn_r _ [330, 12, 331, 332, 222, 333, 224, 81, 82, 11, 83, 33, 228, 229, 230, 231, 232, 233, 234, 235, 199, 110, 200, 88, 89, 90, 91, 32, 432, 433, 434, 435, 436, 437, 438, 439, 440] (by decide +kernel) (by decide +kernel)
set_option maxRecDepth 20000 in
theorem gL_law_X9_square : GoodIn wsL_law (wsV RL 60 RX9 yX9_square wsX9_square) := goodIn_app (goodIn_of _ (by decide +kernel)) ggL_law_X9_square
set_option maxRecDepth 20000 in
theorem ggL_law_X9_run : GoodIn wsL_law wsX9_run := goodIn_r _ [337, 12, 338, 339, 238, 340, 240, 81, 82, 11, 83, 33, 241, 242, 243, 244, 89, 90, 91, 32, 245, 232, 233, 234, 235, 199, 110, 200, 88, 246, 247, 248, 249, 250, 251, 252, 253, 341, 342, 343, 344, 345, 346, 432, 433, 434, 435, 436, 437, 438, 439, 440] (by decide +kernel) (by decide +kernel)
set_option maxRecDepth 20000 in
theorem gL_law_X9_run : GoodIn wsL_law (wsV RL 63 RX9 yX9_run wsX9_run) := goodIn_app (goodIn_of _ (by decide +kernel)) ggL_law_X9_run
theorem dL_law_0 : decode cL_law 0 = .ok (.new 10, 3) := by decide +kernel
theorem dL_law_3 : decode cL_law 3 = .ok (.dup, 1) := by decide +kernel
theorem dL_law_4 : decode cL_law 4 = .ok (.invokespecial 66, 3) := by decide +kernel
theorem dL_law_7 : decode cL_law 7 = .ok (.astore_n 1, 1) := by decide +kernel
theorem dL_law_8 : decode cL_law 8 = .ok (.aload_n 1, 1) := by decide +kernel
theorem dL_law_9 : decode cL_law 9 = .ok (.invokevirtual 67, 3) := by decide +kernel
theorem dL_law_12 : decode cL_law 12 = .ok (.bipush (-4), 2) := by decide +kernel
theorem dL_law_14 : decode cL_law 14 = .ok (.if_icmp .ne 69, 3) := by decide +kernel
theorem dL_law_17 : decode cL_law 17 = .ok (.aload_n 1, 1) := by decide +kernel
theorem dL_law_18 : decode cL_law 18 = .ok (.invokevirtual 70, 3) := by decide +kernel
theorem dL_law_21 : decode cL_law 21 = .ok (.bipush (-4), 2) := by decide +kernel
theorem dL_law_23 : decode cL_law 23 = .ok (.if_icmp .ne 60, 3) := by decide +kernel
theorem dL_law_26 : decode cL_law 26 = .ok (.aload_n 1, 1) := by decide +kernel
theorem dL_law_27 : decode cL_law 27 = .ok (.invokevirtual 19, 3) := by decide +kernel
theorem dL_law_30 : decode cL_law 30 = .ok (.bipush (-4), 2) := by decide +kernel
theorem dL_law_32 : decode cL_law 32 = .ok (.if_icmp .ne 51, 3) := by decide +kernel
theorem dL_law_35 : decode cL_law 35 = .ok (.aload_n 1, 1) := by decide +kernel
theorem dL_law_36 : decode cL_law 36 = .ok (.invokevirtual 73, 3) := by decide +kernel
theorem dL_law_39 : decode cL_law 39 = .ok (.bipush (-100), 2) := by decide +kernel
theorem dL_law_41 : decode cL_law 41 = .ok (.if_icmp .ne 42, 3) := by decide +kernel
theorem dL_law_44 : decode cL_law 44 = .ok (.aload_n 1, 1) := by decide +kernel
theorem dL_law_45 : decode cL_law 45 = .ok (.bipush 7, 2) := by decide +kernel
theorem dL_law_47 : decode cL_law 47 = .ok (.invokevirtual 35, 3) := by decide +kernel
theorem dL_law_50 : decode cL_law 50 = .ok (.ifCond .ne 33, 3) := by decide +kernel
theorem dL_law_53 : decode cL_law 53 = .ok (.aload_n 1, 1) := by decide +kernel
theorem dL_law_54 : decode cL_law 54 = .ok (.iconst 0, 1) := by decide +kernel
theorem dL_law_55 : decode cL_law 55 = .ok (.invokevirtual 48, 3) := by decide +kernel
theorem dL_law_58 : decode cL_law 58 = .ok (.bipush (-4), 2) := by decide +kernel
theorem dL_law_60 : decode cL_law 60 = .ok (.if_icmp .ne 23, 3) := by decide +kernel
theorem dL_law_63 : decode cL_law 63 = .ok (.aload_n 1, 1) := by decide +kernel
theorem dL_law_64 : decode cL_law 64 = .ok (.iconst 1, 1) := by decide +kernel
theorem dL_law_65 : decode cL_law 65 = .ok (.invokevirtual 9, 3) := by decide +kernel
theorem dL_law_68 : decode cL_law 68 = .ok (.iconst (-1), 1) := by decide +kernel
theorem dL_law_69 : decode cL_law 69 = .ok (.if_icmp .ne 14, 3) := by decide +kernel
theorem dL_law_72 : decode cL_law 72 = .ok (.aload_n 1, 1) := by decide +kernel
theorem dL_law_73 : decode cL_law 73 = .ok (.invokestatic 76, 3) := by decide +kernel
theorem dL_law_76 : decode cL_law 76 = .ok (.ifCond .eq 7, 3) := by decide +kernel
theorem dL_law_79 : decode cL_law 79 = .ok (.iconst 1, 1) := by decide +kernel
theorem dL_law_80 : decode cL_law 80 = .ok (.goto 4, 3) := by decide +kernel
theorem dL_law_83 : decode cL_law 83 = .ok (.iconst 0, 1) := by decide +kernel
theorem dL_law_84 : decode cL_law 84 = .ok (.istore_n 2, 1) := by decide +kernel
theorem dL_law_85 : decode cL_law 85 = .ok (.iconst 0, 1) := by decide +kernel
theorem dL_law_86 : decode cL_law 86 = .ok (.istore_n 3, 1) := by decide +kernel
theorem dL_law_87 : decode cL_law 87 = .ok (.iload_n 3, 1) := by decide +kernel
theorem dL_law_88 : decode cL_law 88 = .ok (.bipush 22, 2) := by decide +kernel
theorem dL_law_90 : decode cL_law 90 = .ok (.if_icmp .ge 334, 3) := by decide +kernel
theorem dL_law_93 : decode cL_law 93 = .ok (.iload_n 2, 1) := by decide +kernel
theorem dL_law_94 : decode cL_law 94 = .ok (.ifCond .eq 330, 3) := by decide +kernel
theorem dL_law_97 : decode cL_law 97 = .ok (.aload_n 0, 1) := by decide +kernel
theorem dL_law_98 : decode cL_law 98 = .ok (.iload_n 3, 1) := by decide +kernel
theorem dL_law_99 : decode cL_law 99 = .ok (.invokestatic 80, 3) := by decide +kernel
theorem dL_law_102 : decode cL_law 102 = .ok (.istore 4, 2) := by decide +kernel
theorem dL_law_104 : decode cL_law 104 = .ok (.aload_n 1, 1) := by decide +kernel
theorem dL_law_105 : decode cL_law 105 = .ok (.bipush 10, 2) := by decide +kernel
theorem dL_law_107 : decode cL_law 107 = .ok (.invokevirtual 35, 3) := by decide +kernel
theorem dL_law_110 : decode cL_law 110 = .ok (.istore 5, 2) := by decide +kernel
theorem dL_law_112 : decode cL_law 112 = .ok (.aload_n 1, 1) := by decide +kernel
theorem dL_law_113 : decode cL_law 113 = .ok (.iconst 0, 1) := by decide +kernel
theorem dL_law_114 : decode cL_law 114 = .ok (.invokevirtual 35, 3) := by decide +kernel
theorem dL_law_117 : decode cL_law 117 = .ok (.istore 6, 2) := by decide +kernel
theorem dL_law_119 : decode cL_law 119 = .ok (.iload 4, 2) := by decide +kernel
theorem dL_law_121 : decode cL_law 121 = .ok (.bipush 16, 2) := by decide +kernel
theorem dL_law_123 : decode cL_law 123 = .ok (.idiv, 1) := by decide +kernel
theorem dL_law_124 : decode cL_law 124 = .ok (.bipush 16, 2) := by decide +kernel
theorem dL_law_126 : decode cL_law 126 = .ok (.irem, 1) := by decide +kernel
theorem dL_law_127 : decode cL_law 127 = .ok (.ifCond .ne 7, 3) := by decide +kernel
theorem dL_law_130 : decode cL_law 130 = .ok (.iconst 2, 1) := by decide +kernel
theorem dL_law_131 : decode cL_law 131 = .ok (.goto 10, 3) := by decide +kernel
theorem dL_law_134 : decode cL_law 134 = .ok (.iload 4, 2) := by decide +kernel
theorem dL_law_136 : decode cL_law 136 = .ok (.bipush 16, 2) := by decide +kernel
theorem dL_law_138 : decode cL_law 138 = .ok (.idiv, 1) := by decide +kernel
theorem dL_law_139 : decode cL_law 139 = .ok (.iconst 2, 1) := by decide +kernel
theorem dL_law_140 : decode cL_law 140 = .ok (.irem, 1) := by decide +kernel
theorem dL_law_141 : decode cL_law 141 = .ok (.istore 7, 2) := by decide +kernel
theorem dL_law_143 : decode cL_law 143 = .ok (.iload 4, 2) := by decide +kernel
theorem dL_law_145 : decode cL_law 145 = .ok (.bipush 16, 2) := by decide +kernel
theorem dL_law_147 : decode cL_law 147 = .ok (.irem, 1) := by decide +kernel
theorem dL_law_148 : decode cL_law 148 = .ok (.bipush 6, 2) := by decide +kernel
theorem dL_law_150 : decode cL_law 150 = .ok (.if_icmp .le 7, 3) := by decide +kernel
theorem dL_law_153 : decode cL_law 153 = .ok (.iconst 1, 1) := by decide +kernel
theorem dL_law_154 : decode cL_law 154 = .ok (.goto 4, 3) := by decide +kernel
theorem dL_law_157 : decode cL_law 157 = .ok (.iconst 0, 1) := by decide +kernel
theorem dL_law_158 : decode cL_law 158 = .ok (.istore 8, 2) := by decide +kernel
theorem dL_law_160 : decode cL_law 160 = .ok (.aload_n 1, 1) := by decide +kernel
theorem dL_law_161 : decode cL_law 161 = .ok (.iload 7, 2) := by decide +kernel
theorem dL_law_163 : decode cL_law 163 = .ok (.iconst 0, 1) := by decide +kernel
theorem dL_law_164 : decode cL_law 164 = .ok (.invokevirtual 84, 3) := by decide +kernel
theorem dL_law_167 : decode cL_law 167 = .ok (.istore 9, 2) := by decide +kernel
theorem dL_law_169 : decode cL_law 169 = .ok (.aload_n 1, 1) := by decide +kernel
theorem dL_law_170 : decode cL_law 170 = .ok (.iload 7, 2) := by decide +kernel
theorem dL_law_172 : decode cL_law 172 = .ok (.iconst 1, 1) := by decide +kernel
theorem dL_law_173 : decode cL_law 173 = .ok (.invokevirtual 84, 3) := by decide +kernel
theorem dL_law_176 : decode cL_law 176 = .ok (.istore 10, 2) := by decide +kernel
theorem dL_law_178 : decode cL_law 178 = .ok (.aload_n 1, 1) := by decide +kernel
theorem dL_law_179 : decode cL_law 179 = .ok (.iload 7, 2) := by decide +kernel
theorem dL_law_181 : decode cL_law 181 = .ok (.iconst 2, 1) := by decide +kernel
theorem dL_law_182 : decode cL_law 182 = .ok (.invokevirtual 84, 3) := by decide +kernel
theorem dL_law_185 : decode cL_law 185 = .ok (.istore 11, 2) := by decide +kernel
theorem dL_law_187 : decode cL_law 187 = .ok (.aload_n 1, 1) := by decide +kernel
theorem dL_law_188 : decode cL_law 188 = .ok (.iload 7, 2) := by decide +kernel
theorem dL_law_190 : decode cL_law 190 = .ok (.iconst 3, 1) := by decide +kernel
theorem dL_law_191 : decode cL_law 191 = .ok (.invokevirtual 84, 3) := by decide +kernel
theorem dL_law_194 : decode cL_law 194 = .ok (.istore 12, 2) := by decide +kernel
theorem dL_law_196 : decode cL_law 196 = .ok (.aload_n 1, 1) := by decide +kernel
theorem dL_law_197 : decode cL_law 197 = .ok (.iconst 2, 1) := by decide +kernel
theorem dL_law_198 : decode cL_law 198 = .ok (.invokevirtual 35, 3) := by decide +kernel
theorem dL_law_201 : decode cL_law 201 = .ok (.istore 13, 2) := by decide +kernel
theorem dL_law_203 : decode cL_law 203 = .ok (.aload_n 1, 1) := by decide +kernel
theorem dL_law_204 : decode cL_law 204 = .ok (.iconst 4, 1) := by decide +kernel
theorem dL_law_205 : decode cL_law 205 = .ok (.invokevirtual 35, 3) := by decide +kernel
theorem dL_law_208 : decode cL_law 208 = .ok (.istore 14, 2) := by decide +kernel
theorem dL_law_210 : decode cL_law 210 = .ok (.aload_n 1, 1) := by decide +kernel
theorem dL_law_211 : decode cL_law 211 = .ok (.iload 4, 2) := by decide +kernel
theorem dL_law_213 : decode cL_law 213 = .ok (.invokestatic 87, 3) := by decide +kernel
theorem dL_law_216 : decode cL_law 216 = .ok (.istore 15, 2) := by decide +kernel
theorem dL_law_218 : decode cL_law 218 = .ok (.iload 15, 2) := by decide +kernel
theorem dL_law_220 : decode cL_law 220 = .ok (.ifCond .lt 34, 3) := by decide +kernel
theorem dL_law_223 : decode cL_law 223 = .ok (.aload_n 1, 1) := by decide +kernel
theorem dL_law_224 : decode cL_law 224 = .ok (.bipush 10, 2) := by decide +kernel
theorem dL_law_226 : decode cL_law 226 = .ok (.invokevirtual 35, 3) := by decide +kernel
theorem dL_law_229 : decode cL_law 229 = .ok (.iload 5, 2) := by decide +kernel
theorem dL_law_231 : decode cL_law 231 = .ok (.iconst 4, 1) := by decide +kernel
theorem dL_law_232 : decode cL_law 232 = .ok (.if_icmp .ne 7, 3) := by decide +kernel
theorem dL_law_235 : decode cL_law 235 = .ok (.iconst 4, 1) := by decide +kernel
theorem dL_law_236 : decode cL_law 236 = .ok (.goto 7, 3) := by decide +kernel
theorem dL_law_239 : decode cL_law 239 = .ok (.iload 5, 2) := by decide +kernel
theorem dL_law_241 : decode cL_law 241 = .ok (.iconst 1, 1) := by decide +kernel
theorem dL_law_242 : decode cL_law 242 = .ok (.iadd, 1) := by decide +kernel
theorem dL_law_243 : decode cL_law 243 = .ok (.if_icmp .ne 7, 3) := by decide +kernel
theorem dL_law_246 : decode cL_law 246 = .ok (.iconst 1, 1) := by decide +kernel
theorem dL_law_247 : decode cL_law 247 = .ok (.goto 43, 3) := by decide +kernel
theorem dL_law_250 : decode cL_law 250 = .ok (.iconst 0, 1) := by decide +kernel
theorem dL_law_251 : decode cL_law 251 = .ok (.goto 39, 3) := by decide +kernel
theorem dL_law_254 : decode cL_law 254 = .ok (.aload_n 1, 1) := by decide +kernel
theorem dL_law_255 : decode cL_law 255 = .ok (.bipush 10, 2) := by decide +kernel
theorem dL_law_257 : decode cL_law 257 = .ok (.invokevirtual 35, 3) := by decide +kernel
theorem dL_law_260 : decode cL_law 260 = .ok (.iload 5, 2) := by decide +kernel
theorem dL_law_262 : decode cL_law 262 = .ok (.if_icmp .ne 27, 3) := by decide +kernel
theorem dL_law_265 : decode cL_law 265 = .ok (.aload_n 1, 1) := by decide +kernel
theorem dL_law_266 : decode cL_law 266 = .ok (.iconst 0, 1) := by decide +kernel
theorem dL_law_267 : decode cL_law 267 = .ok (.invokevirtual 35, 3) := by decide +kernel
theorem dL_law_270 : decode cL_law 270 = .ok (.iload 6, 2) := by decide +kernel
theorem dL_law_272 : decode cL_law 272 = .ok (.if_icmp .ne 17, 3) := by decide +kernel
theorem dL_law_275 : decode cL_law 275 = .ok (.aload_n 1, 1) := by decide +kernel
theorem dL_law_276 : decode cL_law 276 = .ok (.iconst 2, 1) := by decide +kernel
theorem dL_law_277 : decode cL_law 277 = .ok (.invokevirtual 35, 3) := by decide +kernel
theorem dL_law_280 : decode cL_law 280 = .ok (.iload 13, 2) := by decide +kernel
theorem dL_law_282 : decode cL_law 282 = .ok (.if_icmp .ne 7, 3) := by decide +kernel
theorem dL_law_285 : decode cL_law 285 = .ok (.iconst 1, 1) := by decide +kernel
theorem dL_law_286 : decode cL_law 286 = .ok (.goto 4, 3) := by decide +kernel
theorem dL_law_289 : decode cL_law 289 = .ok (.iconst 0, 1) := by decide +kernel
theorem dL_law_290 : decode cL_law 290 = .ok (.istore_n 2, 1) := by decide +kernel
theorem dL_law_291 : decode cL_law 291 = .ok (.iload_n 2, 1) := by decide +kernel
theorem dL_law_292 : decode cL_law 292 = .ok (.ifCond .eq 91, 3) := by decide +kernel
theorem dL_law_295 : decode cL_law 295 = .ok (.iload 8, 2) := by decide +kernel
theorem dL_law_297 : decode cL_law 297 = .ok (.ifCond .eq 82, 3) := by decide +kernel
theorem dL_law_300 : decode cL_law 300 = .ok (.iload 6, 2) := by decide +kernel
theorem dL_law_302 : decode cL_law 302 = .ok (.bipush 40, 2) := by decide +kernel
theorem dL_law_304 : decode cL_law 304 = .ok (.if_icmp .ne 20, 3) := by decide +kernel
theorem dL_law_307 : decode cL_law 307 = .ok (.iload 15, 2) := by decide +kernel
theorem dL_law_309 : decode cL_law 309 = .ok (.bipush (-3), 2) := by decide +kernel
theorem dL_law_311 : decode cL_law 311 = .ok (.if_icmp .ne 72, 3) := by decide +kernel
theorem dL_law_314 : decode cL_law 314 = .ok (.iload 9, 2) := by decide +kernel
theorem dL_law_316 : decode cL_law 316 = .ok (.bipush (-3), 2) := by decide +kernel
theorem dL_law_318 : decode cL_law 318 = .ok (.if_icmp .ne 65, 3) := by decide +kernel
theorem dL_law_321 : decode cL_law 321 = .ok (.goto 58, 3) := by decide +kernel
theorem dL_law_324 : decode cL_law 324 = .ok (.iload 15, 2) := by decide +kernel
theorem dL_law_326 : decode cL_law 326 = .ok (.iload 9, 2) := by decide +kernel
theorem dL_law_328 : decode cL_law 328 = .ok (.if_icmp .ne 55, 3) := by decide +kernel
theorem dL_law_331 : decode cL_law 331 = .ok (.aload_n 1, 1) := by decide +kernel
theorem dL_law_332 : decode cL_law 332 = .ok (.iconst 2, 1) := by decide +kernel
theorem dL_law_333 : decode cL_law 333 = .ok (.invokevirtual 35, 3) := by decide +kernel
theorem dL_law_336 : decode cL_law 336 = .ok (.iload 13, 2) := by decide +kernel
theorem dL_law_338 : decode cL_law 338 = .ok (.iload 10, 2) := by decide +kernel
theorem dL_law_340 : decode cL_law 340 = .ok (.iadd, 1) := by decide +kernel
theorem dL_law_341 : decode cL_law 341 = .ok (.if_icmp .ne 42, 3) := by decide +kernel
theorem dL_law_344 : decode cL_law 344 = .ok (.aload_n 1, 1) := by decide +kernel
theorem dL_law_345 : decode cL_law 345 = .ok (.iconst 4, 1) := by decide +kernel
theorem dL_law_346 : decode cL_law 346 = .ok (.invokevirtual 35, 3) := by decide +kernel
theorem dL_law_349 : decode cL_law 349 = .ok (.iload 14, 2) := by decide +kernel
theorem dL_law_351 : decode cL_law 351 = .ok (.iload 11, 2) := by decide +kernel
theorem dL_law_353 : decode cL_law 353 = .ok (.iadd, 1) := by decide +kernel
theorem dL_law_354 : decode cL_law 354 = .ok (.if_icmp .ne 29, 3) := by decide +kernel
theorem dL_law_357 : decode cL_law 357 = .ok (.aload_n 1, 1) := by decide +kernel
theorem dL_law_358 : decode cL_law 358 = .ok (.iload 6, 2) := by decide +kernel
theorem dL_law_360 : decode cL_law 360 = .ok (.iconst 3, 1) := by decide +kernel
theorem dL_law_361 : decode cL_law 361 = .ok (.invokevirtual 32, 3) := by decide +kernel
theorem dL_law_364 : decode cL_law 364 = .ok (.iload 11, 2) := by decide +kernel
theorem dL_law_366 : decode cL_law 366 = .ok (.if_icmp .ne 17, 3) := by decide +kernel
theorem dL_law_369 : decode cL_law 369 = .ok (.aload_n 1, 1) := by decide +kernel
theorem dL_law_370 : decode cL_law 370 = .ok (.iconst 5, 1) := by decide +kernel
theorem dL_law_371 : decode cL_law 371 = .ok (.invokevirtual 35, 3) := by decide +kernel
theorem dL_law_374 : decode cL_law 374 = .ok (.iload 12, 2) := by decide +kernel
theorem dL_law_376 : decode cL_law 376 = .ok (.if_icmp .ne 7, 3) := by decide +kernel
theorem dL_law_379 : decode cL_law 379 = .ok (.iconst 1, 1) := by decide +kernel
theorem dL_law_380 : decode cL_law 380 = .ok (.goto 4, 3) := by decide +kernel
theorem dL_law_383 : decode cL_law 383 = .ok (.iconst 0, 1) := by decide +kernel
theorem dL_law_384 : decode cL_law 384 = .ok (.istore_n 2, 1) := by decide +kernel
theorem dL_law_385 : decode cL_law 385 = .ok (.iload_n 2, 1) := by decide +kernel
theorem dL_law_386 : decode cL_law 386 = .ok (.ifCond .eq 30, 3) := by decide +kernel
theorem dL_law_389 : decode cL_law 389 = .ok (.iload_n 3, 1) := by decide +kernel
theorem dL_law_390 : decode cL_law 390 = .ok (.bipush 7, 2) := by decide +kernel
theorem dL_law_392 : decode cL_law 392 = .ok (.irem, 1) := by decide +kernel
theorem dL_law_393 : decode cL_law 393 = .ok (.ifCond .gt 10, 3) := by decide +kernel
theorem dL_law_396 : decode cL_law 396 = .ok (.aload_n 1, 1) := by decide +kernel
theorem dL_law_397 : decode cL_law 397 = .ok (.invokestatic 76, 3) := by decide +kernel
theorem dL_law_400 : decode cL_law 400 = .ok (.ifCond .eq 16, 3) := by decide +kernel
theorem dL_law_403 : decode cL_law 403 = .ok (.aload_n 1, 1) := by decide +kernel
theorem dL_law_404 : decode cL_law 404 = .ok (.iload 4, 2) := by decide +kernel
theorem dL_law_406 : decode cL_law 406 = .ok (.invokestatic 91, 3) := by decide +kernel
theorem dL_law_409 : decode cL_law 409 = .ok (.ifCond .eq 7, 3) := by decide +kernel
theorem dL_law_412 : decode cL_law 412 = .ok (.iconst 1, 1) := by decide +kernel
theorem dL_law_413 : decode cL_law 413 = .ok (.goto 4, 3) := by decide +kernel
theorem dL_law_416 : decode cL_law 416 = .ok (.iconst 0, 1) := by decide +kernel
theorem dL_law_417 : decode cL_law 417 = .ok (.istore_n 2, 1) := by decide +kernel
theorem dL_law_418 : decode cL_law 418 = .ok (.iinc 3 1, 3) := by decide +kernel
theorem dL_law_421 : decode cL_law 421 = .ok (.goto (-334), 3) := by decide +kernel
theorem dL_law_424 : decode cL_law 424 = .ok (.aload_n 1, 1) := by decide +kernel
theorem dL_law_425 : decode cL_law 425 = .ok (.iconst 0, 1) := by decide +kernel
theorem dL_law_426 : decode cL_law 426 = .ok (.invokevirtual 35, 3) := by decide +kernel
theorem dL_law_429 : decode cL_law 429 = .ok (.istore_n 3, 1) := by decide +kernel
theorem dL_law_430 : decode cL_law 430 = .ok (.iload_n 2, 1) := by decide +kernel
theorem dL_law_431 : decode cL_law 431 = .ok (.ifCond .eq 105, 3) := by decide +kernel
theorem dL_law_434 : decode cL_law 434 = .ok (.iload_n 3, 1) := by decide +kernel
theorem dL_law_435 : decode cL_law 435 = .ok (.bipush 40, 2) := by decide +kernel
theorem dL_law_437 : decode cL_law 437 = .ok (.if_icmp .ge 99, 3) := by decide +kernel
theorem dL_law_440 : decode cL_law 440 = .ok (.aload_n 0, 1) := by decide +kernel
theorem dL_law_441 : decode cL_law 441 = .ok (.bipush 23, 2) := by decide +kernel
theorem dL_law_443 : decode cL_law 443 = .ok (.invokestatic 80, 3) := by decide +kernel
theorem dL_law_446 : decode cL_law 446 = .ok (.iconst 3, 1) := by decide +kernel
theorem dL_law_447 : decode cL_law 447 = .ok (.irem, 1) := by decide +kernel
theorem dL_law_448 : decode cL_law 448 = .ok (.istore 4, 2) := by decide +kernel
theorem dL_law_450 : decode cL_law 450 = .ok (.aload_n 1, 1) := by decide +kernel
theorem dL_law_451 : decode cL_law 451 = .ok (.iload 4, 2) := by decide +kernel
theorem dL_law_453 : decode cL_law 453 = .ok (.invokevirtual 95, 3) := by decide +kernel
theorem dL_law_456 : decode cL_law 456 = .ok (.istore 5, 2) := by decide +kernel
theorem dL_law_458 : decode cL_law 458 = .ok (.iconst 0, 1) := by decide +kernel
theorem dL_law_459 : decode cL_law 459 = .ok (.istore 6, 2) := by decide +kernel
theorem dL_law_461 : decode cL_law 461 = .ok (.iload 6, 2) := by decide +kernel
theorem dL_law_463 : decode cL_law 463 = .ok (.iconst 4, 1) := by decide +kernel
theorem dL_law_464 : decode cL_law 464 = .ok (.if_icmp .ge 72, 3) := by decide +kernel
theorem dL_law_467 : decode cL_law 467 = .ok (.iload_n 2, 1) := by decide +kernel
theorem dL_law_468 : decode cL_law 468 = .ok (.ifCond .eq 68, 3) := by decide +kernel
theorem dL_law_471 : decode cL_law 471 = .ok (.iload 6, 2) := by decide +kernel
theorem dL_law_473 : decode cL_law 473 = .ok (.iload 5, 2) := by decide +kernel
theorem dL_law_475 : decode cL_law 475 = .ok (.if_icmp .ge 30, 3) := by decide +kernel
theorem dL_law_478 : decode cL_law 478 = .ok (.aload_n 1, 1) := by decide +kernel
theorem dL_law_479 : decode cL_law 479 = .ok (.iload 6, 2) := by decide +kernel
theorem dL_law_481 : decode cL_law 481 = .ok (.iload 4, 2) := by decide +kernel
theorem dL_law_483 : decode cL_law 483 = .ok (.invokevirtual 84, 3) := by decide +kernel
theorem dL_law_486 : decode cL_law 486 = .ok (.aload_n 1, 1) := by decide +kernel
theorem dL_law_487 : decode cL_law 487 = .ok (.iload 5, 2) := by decide +kernel
theorem dL_law_489 : decode cL_law 489 = .ok (.iload 4, 2) := by decide +kernel
theorem dL_law_491 : decode cL_law 491 = .ok (.invokevirtual 84, 3) := by decide +kernel
theorem dL_law_494 : decode cL_law 494 = .ok (.if_icmp .ge 7, 3) := by decide +kernel
theorem dL_law_497 : decode cL_law 497 = .ok (.iconst 1, 1) := by decide +kernel
theorem dL_law_498 : decode cL_law 498 = .ok (.goto 31, 3) := by decide +kernel
theorem dL_law_501 : decode cL_law 501 = .ok (.iconst 0, 1) := by decide +kernel
theorem dL_law_502 : decode cL_law 502 = .ok (.goto 27, 3) := by decide +kernel
theorem dL_law_505 : decode cL_law 505 = .ok (.aload_n 1, 1) := by decide +kernel
theorem dL_law_506 : decode cL_law 506 = .ok (.iload 6, 2) := by decide +kernel
theorem dL_law_508 : decode cL_law 508 = .ok (.iload 4, 2) := by decide +kernel
theorem dL_law_510 : decode cL_law 510 = .ok (.invokevirtual 84, 3) := by decide +kernel
theorem dL_law_513 : decode cL_law 513 = .ok (.aload_n 1, 1) := by decide +kernel
theorem dL_law_514 : decode cL_law 514 = .ok (.iload 5, 2) := by decide +kernel
theorem dL_law_516 : decode cL_law 516 = .ok (.iload 4, 2) := by decide +kernel
theorem dL_law_518 : decode cL_law 518 = .ok (.invokevirtual 84, 3) := by decide +kernel
theorem dL_law_521 : decode cL_law 521 = .ok (.if_icmp .gt 7, 3) := by decide +kernel
theorem dL_law_524 : decode cL_law 524 = .ok (.iconst 1, 1) := by decide +kernel
theorem dL_law_525 : decode cL_law 525 = .ok (.goto 4, 3) := by decide +kernel
theorem dL_law_528 : decode cL_law 528 = .ok (.iconst 0, 1) := by decide +kernel
theorem dL_law_529 : decode cL_law 529 = .ok (.istore_n 2, 1) := by decide +kernel
theorem dL_law_530 : decode cL_law 530 = .ok (.iinc 6 1, 3) := by decide +kernel
theorem dL_law_533 : decode cL_law 533 = .ok (.goto (-72), 3) := by decide +kernel
theorem dL_law_536 : decode cL_law 536 = .ok (.iload_n 2, 1) := by decide +kernel
theorem dL_law_537 : decode cL_law 537 = .ok (.ifCond .eq 173, 3) := by decide +kernel
theorem dL_law_540 : decode cL_law 540 = .ok (.aload_n 1, 1) := by decide +kernel
theorem dL_law_541 : decode cL_law 541 = .ok (.invokestatic 76, 3) := by decide +kernel
theorem dL_law_544 : decode cL_law 544 = .ok (.ifCond .eq 166, 3) := by decide +kernel
theorem dL_law_547 : decode cL_law 547 = .ok (.aload_n 1, 1) := by decide +kernel
theorem dL_law_548 : decode cL_law 548 = .ok (.bipush 26, 2) := by decide +kernel
theorem dL_law_550 : decode cL_law 550 = .ok (.invokevirtual 29, 3) := by decide +kernel
theorem dL_law_553 : decode cL_law 553 = .ok (.bipush (-2), 2) := by decide +kernel
theorem dL_law_555 : decode cL_law 555 = .ok (.if_icmp .ne 155, 3) := by decide +kernel
theorem dL_law_558 : decode cL_law 558 = .ok (.aload_n 1, 1) := by decide +kernel
theorem dL_law_559 : decode cL_law 559 = .ok (.iconst 0, 1) := by decide +kernel
theorem dL_law_560 : decode cL_law 560 = .ok (.invokevirtual 9, 3) := by decide +kernel
theorem dL_law_563 : decode cL_law 563 = .ok (.bipush (-2), 2) := by decide +kernel
theorem dL_law_565 : decode cL_law 565 = .ok (.if_icmp .ne 145, 3) := by decide +kernel
theorem dL_law_568 : decode cL_law 568 = .ok (.aload_n 1, 1) := by decide +kernel
theorem dL_law_569 : decode cL_law 569 = .ok (.bipush 41, 2) := by decide +kernel
theorem dL_law_571 : decode cL_law 571 = .ok (.invokevirtual 9, 3) := by decide +kernel
theorem dL_law_574 : decode cL_law 574 = .ok (.bipush (-2), 2) := by decide +kernel
theorem dL_law_576 : decode cL_law 576 = .ok (.if_icmp .ne 134, 3) := by decide +kernel
theorem dL_law_579 : decode cL_law 579 = .ok (.aload_n 1, 1) := by decide +kernel
theorem dL_law_580 : decode cL_law 580 = .ok (.iconst (-1), 1) := by decide +kernel
theorem dL_law_581 : decode cL_law 581 = .ok (.iconst 0, 1) := by decide +kernel
theorem dL_law_582 : decode cL_law 582 = .ok (.invokevirtual 15, 3) := by decide +kernel
theorem dL_law_585 : decode cL_law 585 = .ok (.iconst (-1), 1) := by decide +kernel
theorem dL_law_586 : decode cL_law 586 = .ok (.if_icmp .ne 124, 3) := by decide +kernel
theorem dL_law_589 : decode cL_law 589 = .ok (.aload_n 1, 1) := by decide +kernel
theorem dL_law_590 : decode cL_law 590 = .ok (.bipush 40, 2) := by decide +kernel
theorem dL_law_592 : decode cL_law 592 = .ok (.invokevirtual 23, 3) := by decide +kernel
theorem dL_law_595 : decode cL_law 595 = .ok (.bipush (-2), 2) := by decide +kernel
theorem dL_law_597 : decode cL_law 597 = .ok (.if_icmp .ne 113, 3) := by decide +kernel
theorem dL_law_600 : decode cL_law 600 = .ok (.aload_n 1, 1) := by decide +kernel
theorem dL_law_601 : decode cL_law 601 = .ok (.iconst 3, 1) := by decide +kernel
theorem dL_law_602 : decode cL_law 602 = .ok (.iconst 3, 1) := by decide +kernel
theorem dL_law_603 : decode cL_law 603 = .ok (.invokevirtual 26, 3) := by decide +kernel
theorem dL_law_606 : decode cL_law 606 = .ok (.iconst (-1), 1) := by decide +kernel
theorem dL_law_607 : decode cL_law 607 = .ok (.if_icmp .ne 103, 3) := by decide +kernel
theorem dL_law_610 : decode cL_law 610 = .ok (.aload_n 1, 1) := by decide +kernel
theorem dL_law_611 : decode cL_law 611 = .ok (.iconst 0, 1) := by decide +kernel
theorem dL_law_612 : decode cL_law 612 = .ok (.iconst 0, 1) := by decide +kernel
theorem dL_law_613 : decode cL_law 613 = .ok (.invokevirtual 57, 3) := by decide +kernel
theorem dL_law_616 : decode cL_law 616 = .ok (.iconst (-1), 1) := by decide +kernel
theorem dL_law_617 : decode cL_law 617 = .ok (.if_icmp .ne 93, 3) := by decide +kernel
theorem dL_law_620 : decode cL_law 620 = .ok (.aload_n 1, 1) := by decide +kernel
theorem dL_law_621 : decode cL_law 621 = .ok (.iconst 0, 1) := by decide +kernel
theorem dL_law_622 : decode cL_law 622 = .ok (.bipush 40, 2) := by decide +kernel
theorem dL_law_624 : decode cL_law 624 = .ok (.invokevirtual 54, 3) := by decide +kernel
theorem dL_law_627 : decode cL_law 627 = .ok (.iconst (-1), 1) := by decide +kernel
theorem dL_law_628 : decode cL_law 628 = .ok (.if_icmp .ne 82, 3) := by decide +kernel
theorem dL_law_631 : decode cL_law 631 = .ok (.aload_n 1, 1) := by decide +kernel
theorem dL_law_632 : decode cL_law 632 = .ok (.iconst (-1), 1) := by decide +kernel
theorem dL_law_633 : decode cL_law 633 = .ok (.invokevirtual 48, 3) := by decide +kernel
theorem dL_law_636 : decode cL_law 636 = .ok (.bipush (-2), 2) := by decide +kernel
theorem dL_law_638 : decode cL_law 638 = .ok (.if_icmp .ne 72, 3) := by decide +kernel
theorem dL_law_641 : decode cL_law 641 = .ok (.aload_n 1, 1) := by decide +kernel
theorem dL_law_642 : decode cL_law 642 = .ok (.iconst (-1), 1) := by decide +kernel
theorem dL_law_643 : decode cL_law 643 = .ok (.iconst 0, 1) := by decide +kernel
theorem dL_law_644 : decode cL_law 644 = .ok (.invokevirtual 60, 3) := by decide +kernel
theorem dL_law_647 : decode cL_law 647 = .ok (.bipush (-2), 2) := by decide +kernel
theorem dL_law_649 : decode cL_law 649 = .ok (.if_icmp .ne 61, 3) := by decide +kernel
theorem dL_law_652 : decode cL_law 652 = .ok (.aload_n 1, 1) := by decide +kernel
theorem dL_law_653 : decode cL_law 653 = .ok (.iconst 0, 1) := by decide +kernel
theorem dL_law_654 : decode cL_law 654 = .ok (.iconst 2, 1) := by decide +kernel
theorem dL_law_655 : decode cL_law 655 = .ok (.invokevirtual 60, 3) := by decide +kernel
theorem dL_law_658 : decode cL_law 658 = .ok (.bipush (-2), 2) := by decide +kernel
theorem dL_law_660 : decode cL_law 660 = .ok (.if_icmp .ne 50, 3) := by decide +kernel
theorem dL_law_663 : decode cL_law 663 = .ok (.aload_n 1, 1) := by decide +kernel
theorem dL_law_664 : decode cL_law 664 = .ok (.iconst 0, 1) := by decide +kernel
theorem dL_law_665 : decode cL_law 665 = .ok (.iconst 5, 1) := by decide +kernel
theorem dL_law_666 : decode cL_law 666 = .ok (.invokevirtual 63, 3) := by decide +kernel
theorem dL_law_669 : decode cL_law 669 = .ok (.bipush (-2), 2) := by decide +kernel
theorem dL_law_671 : decode cL_law 671 = .ok (.if_icmp .ne 39, 3) := by decide +kernel
theorem dL_law_674 : decode cL_law 674 = .ok (.aload_n 1, 1) := by decide +kernel
theorem dL_law_675 : decode cL_law 675 = .ok (.iconst 0, 1) := by decide +kernel
theorem dL_law_676 : decode cL_law 676 = .ok (.iconst 4, 1) := by decide +kernel
theorem dL_law_677 : decode cL_law 677 = .ok (.invokevirtual 84, 3) := by decide +kernel
theorem dL_law_680 : decode cL_law 680 = .ok (.bipush (-2), 2) := by decide +kernel
theorem dL_law_682 : decode cL_law 682 = .ok (.if_icmp .ne 28, 3) := by decide +kernel
theorem dL_law_685 : decode cL_law 685 = .ok (.aload_n 1, 1) := by decide +kernel
theorem dL_law_686 : decode cL_law 686 = .ok (.iconst 4, 1) := by decide +kernel
theorem dL_law_687 : decode cL_law 687 = .ok (.invokevirtual 95, 3) := by decide +kernel
theorem dL_law_690 : decode cL_law 690 = .ok (.bipush (-2), 2) := by decide +kernel
theorem dL_law_692 : decode cL_law 692 = .ok (.if_icmp .ne 18, 3) := by decide +kernel
theorem dL_law_695 : decode cL_law 695 = .ok (.aload_n 1, 1) := by decide +kernel
theorem dL_law_696 : decode cL_law 696 = .ok (.bipush 12, 2) := by decide +kernel
theorem dL_law_698 : decode cL_law 698 = .ok (.invokevirtual 35, 3) := by decide +kernel
theorem dL_law_701 : decode cL_law 701 = .ok (.bipush (-2), 2) := by decide +kernel
theorem dL_law_703 : decode cL_law 703 = .ok (.if_icmp .ne 7, 3) := by decide +kernel
theorem dL_law_706 : decode cL_law 706 = .ok (.iconst 1, 1) := by decide +kernel
theorem dL_law_707 : decode cL_law 707 = .ok (.goto 4, 3) := by decide +kernel
theorem dL_law_710 : decode cL_law 710 = .ok (.iconst 0, 1) := by decide +kernel
theorem dL_law_711 : decode cL_law 711 = .ok (.ireturn, 1) := by decide +kernel
abbrev vwCl : List vw_C := [(RX1, TX1, 3), (RX3, TX3, 4), (RX7, TX7, 2), (RX8, TX8, 2), (RX9, TX9, 7)]
