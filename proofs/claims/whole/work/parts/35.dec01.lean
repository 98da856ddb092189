theorem dlw_455 : decode code 455 = .ok (.invokevirtual 170, 3) := by decide +kernel
theorem dlw_458 : decode code 458 = .ok (.iload 5, 2) := by decide +kernel
theorem dlw_460 : decode code 460 = .ok (.if_icmp .eq 5, 3) := by decide +kernel
theorem dlw_463 : decode code 463 = .ok (.iconst 0, 1) := by decide +kernel
theorem dlw_464 : decode code 464 = .ok (.ireturn, 1) := by decide +kernel
theorem dlw_465 : decode code 465 = .ok (.iload 5, 2) := by decide +kernel
theorem dlw_467 : decode code 467 = .ok (.ifCond .ne 15, 3) := by decide +kernel
theorem dlw_470 : decode code 470 = .ok (.aload_n 3, 1) := by decide +kernel
theorem dlw_471 : decode code 471 = .ok (.iconst 0, 1) := by decide +kernel
theorem dlw_472 : decode code 472 = .ok (.laload, 1) := by decide +kernel
theorem dlw_473 : decode code 473 = .ok (.iload 6, 2) := by decide +kernel
theorem dlw_475 : decode code 475 = .ok (.i2l, 1) := by decide +kernel
theorem dlw_476 : decode code 476 = .ok (.lcmp, 1) := by decide +kernel
theorem dlw_477 : decode code 477 = .ok (.ifCond .eq 5, 3) := by decide +kernel
theorem dlw_480 : decode code 480 = .ok (.iconst 0, 1) := by decide +kernel
theorem dlw_481 : decode code 481 = .ok (.ireturn, 1) := by decide +kernel
theorem dlw_482 : decode code 482 = .ok (.goto 2705, 3) := by decide +kernel
theorem dlw_485 : decode code 485 = .ok (.aload_n 1, 1) := by decide +kernel
theorem dlw_486 : decode code 486 = .ok (.aload_n 3, 1) := by decide +kernel
theorem dlw_487 : decode code 487 = .ok (.invokestatic 185, 3) := by decide +kernel
theorem dlw_490 : decode code 490 = .ok (.istore 5, 2) := by decide +kernel
theorem dlw_492 : decode code 492 = .ok (.aload_n 2, 1) := by decide +kernel
theorem dlw_493 : decode code 493 = .ok (.invokevirtual 187, 3) := by decide +kernel
theorem dlw_496 : decode code 496 = .ok (.istore 6, 2) := by decide +kernel
theorem dlw_498 : decode code 498 = .ok (.aload_n 2, 1) := by decide +kernel
theorem dlw_499 : decode code 499 = .ok (.invokevirtual 170, 3) := by decide +kernel
theorem dlw_502 : decode code 502 = .ok (.iload 5, 2) := by decide +kernel
theorem dlw_504 : decode code 504 = .ok (.if_icmp .eq 5, 3) := by decide +kernel
theorem dlw_507 : decode code 507 = .ok (.iconst 0, 1) := by decide +kernel
theorem dlw_508 : decode code 508 = .ok (.ireturn, 1) := by decide +kernel
theorem dlw_509 : decode code 509 = .ok (.iload 5, 2) := by decide +kernel
theorem dlw_511 : decode code 511 = .ok (.ifCond .ne 15, 3) := by decide +kernel
theorem dlw_514 : decode code 514 = .ok (.aload_n 3, 1) := by decide +kernel
theorem dlw_515 : decode code 515 = .ok (.iconst 0, 1) := by decide +kernel
theorem dlw_516 : decode code 516 = .ok (.laload, 1) := by decide +kernel
theorem dlw_517 : decode code 517 = .ok (.iload 6, 2) := by decide +kernel
theorem dlw_519 : decode code 519 = .ok (.i2l, 1) := by decide +kernel
theorem dlw_520 : decode code 520 = .ok (.lcmp, 1) := by decide +kernel
theorem dlw_521 : decode code 521 = .ok (.ifCond .eq 5, 3) := by decide +kernel
theorem dlw_524 : decode code 524 = .ok (.iconst 0, 1) := by decide +kernel
theorem dlw_525 : decode code 525 = .ok (.ireturn, 1) := by decide +kernel
theorem dlw_526 : decode code 526 = .ok (.goto 2661, 3) := by decide +kernel
theorem dlw_529 : decode code 529 = .ok (.aload_n 1, 1) := by decide +kernel
theorem dlw_530 : decode code 530 = .ok (.aload_n 0, 1) := by decide +kernel
theorem dlw_531 : decode code 531 = .ok (.iload 4, 2) := by decide +kernel
theorem dlw_533 : decode code 533 = .ok (.iconst 1, 1) := by decide +kernel
theorem dlw_534 : decode code 534 = .ok (.iadd, 1) := by decide +kernel
theorem dlw_535 : decode code 535 = .ok (.iaload, 1) := by decide +kernel
theorem dlw_536 : decode code 536 = .ok (.aload_n 0, 1) := by decide +kernel
theorem dlw_537 : decode code 537 = .ok (.iload 4, 2) := by decide +kernel
theorem dlw_539 : decode code 539 = .ok (.iconst 2, 1) := by decide +kernel
theorem dlw_540 : decode code 540 = .ok (.iadd, 1) := by decide +kernel
theorem dlw_541 : decode code 541 = .ok (.iaload, 1) := by decide +kernel
theorem dlw_542 : decode code 542 = .ok (.aload_n 0, 1) := by decide +kernel
theorem dlw_543 : decode code 543 = .ok (.iload 4, 2) := by decide +kernel
theorem dlw_545 : decode code 545 = .ok (.iconst 3, 1) := by decide +kernel
theorem dlw_546 : decode code 546 = .ok (.iadd, 1) := by decide +kernel
theorem dlw_547 : decode code 547 = .ok (.iaload, 1) := by decide +kernel
theorem dlw_548 : decode code 548 = .ok (.aload_n 3, 1) := by decide +kernel
theorem dlw_549 : decode code 549 = .ok (.invokestatic 188, 3) := by decide +kernel
theorem dlw_552 : decode code 552 = .ok (.istore 5, 2) := by decide +kernel
theorem dlw_554 : decode code 554 = .ok (.aload_n 2, 1) := by decide +kernel
theorem dlw_555 : decode code 555 = .ok (.aload_n 0, 1) := by decide +kernel
theorem dlw_556 : decode code 556 = .ok (.iload 4, 2) := by decide +kernel
theorem dlw_558 : decode code 558 = .ok (.iconst 1, 1) := by decide +kernel
theorem dlw_559 : decode code 559 = .ok (.iadd, 1) := by decide +kernel
theorem dlw_560 : decode code 560 = .ok (.iaload, 1) := by decide +kernel
theorem dlw_561 : decode code 561 = .ok (.aload_n 0, 1) := by decide +kernel
theorem dlw_562 : decode code 562 = .ok (.iload 4, 2) := by decide +kernel
theorem dlw_564 : decode code 564 = .ok (.iconst 2, 1) := by decide +kernel
theorem dlw_565 : decode code 565 = .ok (.iadd, 1) := by decide +kernel
theorem dlw_566 : decode code 566 = .ok (.iaload, 1) := by decide +kernel
theorem dlw_567 : decode code 567 = .ok (.aload_n 0, 1) := by decide +kernel
theorem dlw_568 : decode code 568 = .ok (.iload 4, 2) := by decide +kernel
theorem dlw_570 : decode code 570 = .ok (.iconst 3, 1) := by decide +kernel
theorem dlw_571 : decode code 571 = .ok (.iadd, 1) := by decide +kernel
theorem dlw_572 : decode code 572 = .ok (.iaload, 1) := by decide +kernel
theorem dlw_573 : decode code 573 = .ok (.invokevirtual 191, 3) := by decide +kernel
theorem dlw_576 : decode code 576 = .ok (.istore 6, 2) := by decide +kernel
theorem dlw_578 : decode code 578 = .ok (.aload_n 2, 1) := by decide +kernel
theorem dlw_579 : decode code 579 = .ok (.invokevirtual 170, 3) := by decide +kernel
theorem dlw_582 : decode code 582 = .ok (.iload 5, 2) := by decide +kernel
theorem dlw_584 : decode code 584 = .ok (.if_icmp .eq 5, 3) := by decide +kernel
theorem dlw_587 : decode code 587 = .ok (.iconst 0, 1) := by decide +kernel
theorem dlw_588 : decode code 588 = .ok (.ireturn, 1) := by decide +kernel
theorem dlw_589 : decode code 589 = .ok (.iload 5, 2) := by decide +kernel
theorem dlw_591 : decode code 591 = .ok (.ifCond .ne 15, 3) := by decide +kernel
theorem dlw_594 : decode code 594 = .ok (.aload_n 3, 1) := by decide +kernel
theorem dlw_595 : decode code 595 = .ok (.iconst 0, 1) := by decide +kernel
theorem dlw_596 : decode code 596 = .ok (.laload, 1) := by decide +kernel
theorem dlw_597 : decode code 597 = .ok (.iload 6, 2) := by decide +kernel
theorem dlw_599 : decode code 599 = .ok (.i2l, 1) := by decide +kernel
theorem dlw_600 : decode code 600 = .ok (.lcmp, 1) := by decide +kernel
theorem dlw_601 : decode code 601 = .ok (.ifCond .eq 5, 3) := by decide +kernel
theorem dlw_604 : decode code 604 = .ok (.iconst 0, 1) := by decide +kernel
theorem dlw_605 : decode code 605 = .ok (.ireturn, 1) := by decide +kernel
theorem dlw_606 : decode code 606 = .ok (.goto 2581, 3) := by decide +kernel
theorem dlw_609 : decode code 609 = .ok (.aload_n 1, 1) := by decide +kernel
theorem dlw_610 : decode code 610 = .ok (.aload_n 0, 1) := by decide +kernel
theorem dlw_611 : decode code 611 = .ok (.iload 4, 2) := by decide +kernel
theorem dlw_613 : decode code 613 = .ok (.iconst 1, 1) := by decide +kernel
theorem dlw_614 : decode code 614 = .ok (.iadd, 1) := by decide +kernel
theorem dlw_615 : decode code 615 = .ok (.iaload, 1) := by decide +kernel
theorem dlw_616 : decode code 616 = .ok (.aload_n 3, 1) := by decide +kernel
theorem dlw_617 : decode code 617 = .ok (.invokestatic 192, 3) := by decide +kernel
theorem dlw_620 : decode code 620 = .ok (.istore 5, 2) := by decide +kernel
theorem dlw_622 : decode code 622 = .ok (.aload_n 2, 1) := by decide +kernel
theorem dlw_623 : decode code 623 = .ok (.aload_n 0, 1) := by decide +kernel
theorem dlw_624 : decode code 624 = .ok (.iload 4, 2) := by decide +kernel
theorem dlw_626 : decode code 626 = .ok (.iconst 1, 1) := by decide +kernel
theorem dlw_627 : decode code 627 = .ok (.iadd, 1) := by decide +kernel
theorem dlw_628 : decode code 628 = .ok (.iaload, 1) := by decide +kernel
theorem dlw_629 : decode code 629 = .ok (.invokevirtual 194, 3) := by decide +kernel
theorem dlw_632 : decode code 632 = .ok (.istore 6, 2) := by decide +kernel
theorem dlw_634 : decode code 634 = .ok (.aload_n 2, 1) := by decide +kernel
theorem dlw_635 : decode code 635 = .ok (.invokevirtual 170, 3) := by decide +kernel
theorem dlw_638 : decode code 638 = .ok (.iload 5, 2) := by decide +kernel
theorem dlw_640 : decode code 640 = .ok (.if_icmp .eq 5, 3) := by decide +kernel
theorem dlw_643 : decode code 643 = .ok (.iconst 0, 1) := by decide +kernel
theorem dlw_644 : decode code 644 = .ok (.ireturn, 1) := by decide +kernel
theorem dlw_645 : decode code 645 = .ok (.iload 5, 2) := by decide +kernel
theorem dlw_647 : decode code 647 = .ok (.ifCond .ne 15, 3) := by decide +kernel
theorem dlw_650 : decode code 650 = .ok (.aload_n 3, 1) := by decide +kernel
theorem dlw_651 : decode code 651 = .ok (.iconst 0, 1) := by decide +kernel
theorem dlw_652 : decode code 652 = .ok (.laload, 1) := by decide +kernel
theorem dlw_653 : decode code 653 = .ok (.iload 6, 2) := by decide +kernel
theorem dlw_655 : decode code 655 = .ok (.i2l, 1) := by decide +kernel
theorem dlw_656 : decode code 656 = .ok (.lcmp, 1) := by decide +kernel
theorem dlw_657 : decode code 657 = .ok (.ifCond .eq 5, 3) := by decide +kernel
theorem dlw_660 : decode code 660 = .ok (.iconst 0, 1) := by decide +kernel
theorem dlw_661 : decode code 661 = .ok (.ireturn, 1) := by decide +kernel
theorem dlw_662 : decode code 662 = .ok (.goto 2525, 3) := by decide +kernel
theorem dlw_665 : decode code 665 = .ok (.aload_n 1, 1) := by decide +kernel
theorem dlw_666 : decode code 666 = .ok (.aload_n 0, 1) := by decide +kernel
theorem dlw_667 : decode code 667 = .ok (.iload 4, 2) := by decide +kernel
theorem dlw_669 : decode code 669 = .ok (.iconst 1, 1) := by decide +kernel
theorem dlw_670 : decode code 670 = .ok (.iadd, 1) := by decide +kernel
theorem dlw_671 : decode code 671 = .ok (.iaload, 1) := by decide +kernel
theorem dlw_672 : decode code 672 = .ok (.aload_n 0, 1) := by decide +kernel
theorem dlw_673 : decode code 673 = .ok (.iload 4, 2) := by decide +kernel
theorem dlw_675 : decode code 675 = .ok (.iconst 2, 1) := by decide +kernel
theorem dlw_676 : decode code 676 = .ok (.iadd, 1) := by decide +kernel
theorem dlw_677 : decode code 677 = .ok (.iaload, 1) := by decide +kernel
theorem dlw_678 : decode code 678 = .ok (.aload_n 3, 1) := by decide +kernel
theorem dlw_679 : decode code 679 = .ok (.invokestatic 195, 3) := by decide +kernel
theorem dlw_682 : decode code 682 = .ok (.istore 5, 2) := by decide +kernel
theorem dlw_684 : decode code 684 = .ok (.aload_n 2, 1) := by decide +kernel
theorem dlw_685 : decode code 685 = .ok (.aload_n 0, 1) := by decide +kernel
theorem dlw_686 : decode code 686 = .ok (.iload 4, 2) := by decide +kernel
theorem dlw_688 : decode code 688 = .ok (.iconst 1, 1) := by decide +kernel
