/-! decode rows of the law -/
theorem d_L_law_430 : decode b_L_law 430 = .ok (.iaload, 1) := by decide +kernel
theorem d_L_law_431 : decode b_L_law 431 = .ok (.invokevirtual 122, 3) := by decide +kernel
theorem d_L_law_434 : decode b_L_law 434 = .ok (.lstore 6, 2) := by decide +kernel
theorem d_L_law_436 : decode b_L_law 436 = .ok (.aload_n 2, 1) := by decide +kernel
theorem d_L_law_437 : decode b_L_law 437 = .ok (.invokevirtual 106, 3) := by decide +kernel
theorem d_L_law_440 : decode b_L_law 440 = .ok (.iload 5, 2) := by decide +kernel
theorem d_L_law_442 : decode b_L_law 442 = .ok (.if_icmp .eq 5, 3) := by decide +kernel
theorem d_L_law_445 : decode b_L_law 445 = .ok (.iconst 0, 1) := by decide +kernel
theorem d_L_law_446 : decode b_L_law 446 = .ok (.ireturn, 1) := by decide +kernel
theorem d_L_law_447 : decode b_L_law 447 = .ok (.iload 5, 2) := by decide +kernel
theorem d_L_law_449 : decode b_L_law 449 = .ok (.ifCond .ne 14, 3) := by decide +kernel
theorem d_L_law_452 : decode b_L_law 452 = .ok (.aload_n 3, 1) := by decide +kernel
theorem d_L_law_453 : decode b_L_law 453 = .ok (.iconst 0, 1) := by decide +kernel
theorem d_L_law_454 : decode b_L_law 454 = .ok (.laload, 1) := by decide +kernel
theorem d_L_law_455 : decode b_L_law 455 = .ok (.lload 6, 2) := by decide +kernel
theorem d_L_law_457 : decode b_L_law 457 = .ok (.lcmp, 1) := by decide +kernel
theorem d_L_law_458 : decode b_L_law 458 = .ok (.ifCond .eq 5, 3) := by decide +kernel
theorem d_L_law_461 : decode b_L_law 461 = .ok (.iconst 0, 1) := by decide +kernel
theorem d_L_law_462 : decode b_L_law 462 = .ok (.ireturn, 1) := by decide +kernel
theorem d_L_law_463 : decode b_L_law 463 = .ok (.goto 1264, 3) := by decide +kernel
theorem d_L_law_466 : decode b_L_law 466 = .ok (.aload_n 1, 1) := by decide +kernel
theorem d_L_law_467 : decode b_L_law 467 = .ok (.aload_n 0, 1) := by decide +kernel
theorem d_L_law_468 : decode b_L_law 468 = .ok (.iload 4, 2) := by decide +kernel
theorem d_L_law_470 : decode b_L_law 470 = .ok (.iconst 1, 1) := by decide +kernel
theorem d_L_law_471 : decode b_L_law 471 = .ok (.iadd, 1) := by decide +kernel
theorem d_L_law_472 : decode b_L_law 472 = .ok (.iaload, 1) := by decide +kernel
theorem d_L_law_473 : decode b_L_law 473 = .ok (.aload_n 0, 1) := by decide +kernel
theorem d_L_law_474 : decode b_L_law 474 = .ok (.iload 4, 2) := by decide +kernel
theorem d_L_law_476 : decode b_L_law 476 = .ok (.iconst 2, 1) := by decide +kernel
theorem d_L_law_477 : decode b_L_law 477 = .ok (.iadd, 1) := by decide +kernel
theorem d_L_law_478 : decode b_L_law 478 = .ok (.iaload, 1) := by decide +kernel
theorem d_L_law_479 : decode b_L_law 479 = .ok (.aload_n 0, 1) := by decide +kernel
theorem d_L_law_480 : decode b_L_law 480 = .ok (.iload 4, 2) := by decide +kernel
theorem d_L_law_482 : decode b_L_law 482 = .ok (.iconst 3, 1) := by decide +kernel
theorem d_L_law_483 : decode b_L_law 483 = .ok (.iadd, 1) := by decide +kernel
theorem d_L_law_484 : decode b_L_law 484 = .ok (.iaload, 1) := by decide +kernel
theorem d_L_law_485 : decode b_L_law 485 = .ok (.aload_n 3, 1) := by decide +kernel
theorem d_L_law_486 : decode b_L_law 486 = .ok (.invokestatic 123, 3) := by decide +kernel
theorem d_L_law_489 : decode b_L_law 489 = .ok (.istore 5, 2) := by decide +kernel
theorem d_L_law_491 : decode b_L_law 491 = .ok (.aload_n 2, 1) := by decide +kernel
theorem d_L_law_492 : decode b_L_law 492 = .ok (.aload_n 0, 1) := by decide +kernel
theorem d_L_law_493 : decode b_L_law 493 = .ok (.iload 4, 2) := by decide +kernel
theorem d_L_law_495 : decode b_L_law 495 = .ok (.iconst 1, 1) := by decide +kernel
theorem d_L_law_496 : decode b_L_law 496 = .ok (.iadd, 1) := by decide +kernel
theorem d_L_law_497 : decode b_L_law 497 = .ok (.iaload, 1) := by decide +kernel
theorem d_L_law_498 : decode b_L_law 498 = .ok (.aload_n 0, 1) := by decide +kernel
theorem d_L_law_499 : decode b_L_law 499 = .ok (.iload 4, 2) := by decide +kernel
theorem d_L_law_501 : decode b_L_law 501 = .ok (.iconst 2, 1) := by decide +kernel
theorem d_L_law_502 : decode b_L_law 502 = .ok (.iadd, 1) := by decide +kernel
theorem d_L_law_503 : decode b_L_law 503 = .ok (.iaload, 1) := by decide +kernel
theorem d_L_law_504 : decode b_L_law 504 = .ok (.aload_n 0, 1) := by decide +kernel
theorem d_L_law_505 : decode b_L_law 505 = .ok (.iload 4, 2) := by decide +kernel
theorem d_L_law_507 : decode b_L_law 507 = .ok (.iconst 3, 1) := by decide +kernel
theorem d_L_law_508 : decode b_L_law 508 = .ok (.iadd, 1) := by decide +kernel
theorem d_L_law_509 : decode b_L_law 509 = .ok (.iaload, 1) := by decide +kernel
theorem d_L_law_510 : decode b_L_law 510 = .ok (.invokevirtual 125, 3) := by decide +kernel
theorem d_L_law_513 : decode b_L_law 513 = .ok (.istore 6, 2) := by decide +kernel
theorem d_L_law_515 : decode b_L_law 515 = .ok (.aload_n 2, 1) := by decide +kernel
theorem d_L_law_516 : decode b_L_law 516 = .ok (.invokevirtual 106, 3) := by decide +kernel
theorem d_L_law_519 : decode b_L_law 519 = .ok (.iload 5, 2) := by decide +kernel
theorem d_L_law_521 : decode b_L_law 521 = .ok (.if_icmp .eq 5, 3) := by decide +kernel
theorem d_L_law_524 : decode b_L_law 524 = .ok (.iconst 0, 1) := by decide +kernel
theorem d_L_law_525 : decode b_L_law 525 = .ok (.ireturn, 1) := by decide +kernel
theorem d_L_law_526 : decode b_L_law 526 = .ok (.iload 5, 2) := by decide +kernel
theorem d_L_law_528 : decode b_L_law 528 = .ok (.ifCond .ne 15, 3) := by decide +kernel
theorem d_L_law_531 : decode b_L_law 531 = .ok (.aload_n 3, 1) := by decide +kernel
theorem d_L_law_532 : decode b_L_law 532 = .ok (.iconst 0, 1) := by decide +kernel
theorem d_L_law_533 : decode b_L_law 533 = .ok (.laload, 1) := by decide +kernel
theorem d_L_law_534 : decode b_L_law 534 = .ok (.iload 6, 2) := by decide +kernel
theorem d_L_law_536 : decode b_L_law 536 = .ok (.i2l, 1) := by decide +kernel
theorem d_L_law_537 : decode b_L_law 537 = .ok (.lcmp, 1) := by decide +kernel
theorem d_L_law_538 : decode b_L_law 538 = .ok (.ifCond .eq 5, 3) := by decide +kernel
theorem d_L_law_541 : decode b_L_law 541 = .ok (.iconst 0, 1) := by decide +kernel
theorem d_L_law_542 : decode b_L_law 542 = .ok (.ireturn, 1) := by decide +kernel
theorem d_L_law_543 : decode b_L_law 543 = .ok (.goto 1184, 3) := by decide +kernel
theorem d_L_law_546 : decode b_L_law 546 = .ok (.aload_n 1, 1) := by decide +kernel
theorem d_L_law_547 : decode b_L_law 547 = .ok (.aload_n 0, 1) := by decide +kernel
theorem d_L_law_548 : decode b_L_law 548 = .ok (.iload 4, 2) := by decide +kernel
theorem d_L_law_550 : decode b_L_law 550 = .ok (.iconst 1, 1) := by decide +kernel
theorem d_L_law_551 : decode b_L_law 551 = .ok (.iadd, 1) := by decide +kernel
theorem d_L_law_552 : decode b_L_law 552 = .ok (.iaload, 1) := by decide +kernel
theorem d_L_law_553 : decode b_L_law 553 = .ok (.aload_n 0, 1) := by decide +kernel
theorem d_L_law_554 : decode b_L_law 554 = .ok (.iload 4, 2) := by decide +kernel
theorem d_L_law_556 : decode b_L_law 556 = .ok (.iconst 2, 1) := by decide +kernel
theorem d_L_law_557 : decode b_L_law 557 = .ok (.iadd, 1) := by decide +kernel
theorem d_L_law_558 : decode b_L_law 558 = .ok (.iaload, 1) := by decide +kernel
theorem d_L_law_559 : decode b_L_law 559 = .ok (.aload_n 0, 1) := by decide +kernel
theorem d_L_law_560 : decode b_L_law 560 = .ok (.iload 4, 2) := by decide +kernel
theorem d_L_law_562 : decode b_L_law 562 = .ok (.iconst 3, 1) := by decide +kernel
theorem d_L_law_563 : decode b_L_law 563 = .ok (.iadd, 1) := by decide +kernel
theorem d_L_law_564 : decode b_L_law 564 = .ok (.iaload, 1) := by decide +kernel
theorem d_L_law_565 : decode b_L_law 565 = .ok (.aload_n 3, 1) := by decide +kernel
theorem d_L_law_566 : decode b_L_law 566 = .ok (.invokestatic 126, 3) := by decide +kernel
theorem d_L_law_569 : decode b_L_law 569 = .ok (.istore 5, 2) := by decide +kernel
theorem d_L_law_571 : decode b_L_law 571 = .ok (.aload_n 2, 1) := by decide +kernel
theorem d_L_law_572 : decode b_L_law 572 = .ok (.aload_n 0, 1) := by decide +kernel
theorem d_L_law_573 : decode b_L_law 573 = .ok (.iload 4, 2) := by decide +kernel
theorem d_L_law_575 : decode b_L_law 575 = .ok (.iconst 1, 1) := by decide +kernel
theorem d_L_law_576 : decode b_L_law 576 = .ok (.iadd, 1) := by decide +kernel
theorem d_L_law_577 : decode b_L_law 577 = .ok (.iaload, 1) := by decide +kernel
theorem d_L_law_578 : decode b_L_law 578 = .ok (.aload_n 0, 1) := by decide +kernel
theorem d_L_law_579 : decode b_L_law 579 = .ok (.iload 4, 2) := by decide +kernel
theorem d_L_law_581 : decode b_L_law 581 = .ok (.iconst 2, 1) := by decide +kernel
theorem d_L_law_582 : decode b_L_law 582 = .ok (.iadd, 1) := by decide +kernel
theorem d_L_law_583 : decode b_L_law 583 = .ok (.iaload, 1) := by decide +kernel
theorem d_L_law_584 : decode b_L_law 584 = .ok (.aload_n 0, 1) := by decide +kernel
theorem d_L_law_585 : decode b_L_law 585 = .ok (.iload 4, 2) := by decide +kernel
theorem d_L_law_587 : decode b_L_law 587 = .ok (.iconst 3, 1) := by decide +kernel
theorem d_L_law_588 : decode b_L_law 588 = .ok (.iadd, 1) := by decide +kernel
theorem d_L_law_589 : decode b_L_law 589 = .ok (.iaload, 1) := by decide +kernel
theorem d_L_law_590 : decode b_L_law 590 = .ok (.invokevirtual 128, 3) := by decide +kernel
theorem d_L_law_593 : decode b_L_law 593 = .ok (.istore 6, 2) := by decide +kernel
theorem d_L_law_595 : decode b_L_law 595 = .ok (.aload_n 2, 1) := by decide +kernel
theorem d_L_law_596 : decode b_L_law 596 = .ok (.invokevirtual 106, 3) := by decide +kernel
theorem d_L_law_599 : decode b_L_law 599 = .ok (.iload 5, 2) := by decide +kernel
theorem d_L_law_601 : decode b_L_law 601 = .ok (.if_icmp .eq 5, 3) := by decide +kernel
theorem d_L_law_604 : decode b_L_law 604 = .ok (.iconst 0, 1) := by decide +kernel
theorem d_L_law_605 : decode b_L_law 605 = .ok (.ireturn, 1) := by decide +kernel
theorem d_L_law_606 : decode b_L_law 606 = .ok (.iload 5, 2) := by decide +kernel
theorem d_L_law_608 : decode b_L_law 608 = .ok (.ifCond .ne 15, 3) := by decide +kernel
theorem d_L_law_611 : decode b_L_law 611 = .ok (.aload_n 3, 1) := by decide +kernel
theorem d_L_law_612 : decode b_L_law 612 = .ok (.iconst 0, 1) := by decide +kernel
theorem d_L_law_613 : decode b_L_law 613 = .ok (.laload, 1) := by decide +kernel
theorem d_L_law_614 : decode b_L_law 614 = .ok (.iload 6, 2) := by decide +kernel
theorem d_L_law_616 : decode b_L_law 616 = .ok (.i2l, 1) := by decide +kernel
theorem d_L_law_617 : decode b_L_law 617 = .ok (.lcmp, 1) := by decide +kernel
theorem d_L_law_618 : decode b_L_law 618 = .ok (.ifCond .eq 5, 3) := by decide +kernel
theorem d_L_law_621 : decode b_L_law 621 = .ok (.iconst 0, 1) := by decide +kernel
theorem d_L_law_622 : decode b_L_law 622 = .ok (.ireturn, 1) := by decide +kernel
theorem d_L_law_623 : decode b_L_law 623 = .ok (.goto 1104, 3) := by decide +kernel
theorem d_L_law_626 : decode b_L_law 626 = .ok (.aload_n 1, 1) := by decide +kernel
theorem d_L_law_627 : decode b_L_law 627 = .ok (.aload_n 0, 1) := by decide +kernel
theorem d_L_law_628 : decode b_L_law 628 = .ok (.iload 4, 2) := by decide +kernel
theorem d_L_law_630 : decode b_L_law 630 = .ok (.iconst 1, 1) := by decide +kernel
theorem d_L_law_631 : decode b_L_law 631 = .ok (.iadd, 1) := by decide +kernel
theorem d_L_law_632 : decode b_L_law 632 = .ok (.iaload, 1) := by decide +kernel
theorem d_L_law_633 : decode b_L_law 633 = .ok (.aload_n 0, 1) := by decide +kernel
theorem d_L_law_634 : decode b_L_law 634 = .ok (.iload 4, 2) := by decide +kernel
theorem d_L_law_636 : decode b_L_law 636 = .ok (.iconst 2, 1) := by decide +kernel
theorem d_L_law_637 : decode b_L_law 637 = .ok (.iadd, 1) := by decide +kernel
theorem d_L_law_638 : decode b_L_law 638 = .ok (.iaload, 1) := by decide +kernel
theorem d_L_law_639 : decode b_L_law 639 = .ok (.aload_n 0, 1) := by decide +kernel
theorem d_L_law_640 : decode b_L_law 640 = .ok (.iload 4, 2) := by decide +kernel
theorem d_L_law_642 : decode b_L_law 642 = .ok (.iconst 3, 1) := by decide +kernel
theorem d_L_law_643 : decode b_L_law 643 = .ok (.iadd, 1) := by decide +kernel
theorem d_L_law_644 : decode b_L_law 644 = .ok (.iaload, 1) := by decide +kernel
theorem d_L_law_645 : decode b_L_law 645 = .ok (.aload_n 3, 1) := by decide +kernel
theorem d_L_law_646 : decode b_L_law 646 = .ok (.invokestatic 129, 3) := by decide +kernel
theorem d_L_law_649 : decode b_L_law 649 = .ok (.istore 5, 2) := by decide +kernel
theorem d_L_law_651 : decode b_L_law 651 = .ok (.aload_n 2, 1) := by decide +kernel
theorem d_L_law_652 : decode b_L_law 652 = .ok (.aload_n 0, 1) := by decide +kernel
theorem d_L_law_653 : decode b_L_law 653 = .ok (.iload 4, 2) := by decide +kernel
theorem d_L_law_655 : decode b_L_law 655 = .ok (.iconst 1, 1) := by decide +kernel
theorem d_L_law_656 : decode b_L_law 656 = .ok (.iadd, 1) := by decide +kernel
theorem d_L_law_657 : decode b_L_law 657 = .ok (.iaload, 1) := by decide +kernel
theorem d_L_law_658 : decode b_L_law 658 = .ok (.aload_n 0, 1) := by decide +kernel
theorem d_L_law_659 : decode b_L_law 659 = .ok (.iload 4, 2) := by decide +kernel
theorem d_L_law_661 : decode b_L_law 661 = .ok (.iconst 2, 1) := by decide +kernel
theorem d_L_law_662 : decode b_L_law 662 = .ok (.iadd, 1) := by decide +kernel
theorem d_L_law_663 : decode b_L_law 663 = .ok (.iaload, 1) := by decide +kernel
theorem d_L_law_664 : decode b_L_law 664 = .ok (.aload_n 0, 1) := by decide +kernel
theorem d_L_law_665 : decode b_L_law 665 = .ok (.iload 4, 2) := by decide +kernel
theorem d_L_law_667 : decode b_L_law 667 = .ok (.iconst 3, 1) := by decide +kernel
theorem d_L_law_668 : decode b_L_law 668 = .ok (.iadd, 1) := by decide +kernel
theorem d_L_law_669 : decode b_L_law 669 = .ok (.iaload, 1) := by decide +kernel
theorem d_L_law_670 : decode b_L_law 670 = .ok (.invokevirtual 131, 3) := by decide +kernel
theorem d_L_law_673 : decode b_L_law 673 = .ok (.istore 6, 2) := by decide +kernel
theorem d_L_law_675 : decode b_L_law 675 = .ok (.aload_n 2, 1) := by decide +kernel
theorem d_L_law_676 : decode b_L_law 676 = .ok (.invokevirtual 106, 3) := by decide +kernel
theorem d_L_law_679 : decode b_L_law 679 = .ok (.iload 5, 2) := by decide +kernel
theorem d_L_law_681 : decode b_L_law 681 = .ok (.if_icmp .eq 5, 3) := by decide +kernel
theorem d_L_law_684 : decode b_L_law 684 = .ok (.iconst 0, 1) := by decide +kernel
theorem d_L_law_685 : decode b_L_law 685 = .ok (.ireturn, 1) := by decide +kernel
theorem d_L_law_686 : decode b_L_law 686 = .ok (.iload 5, 2) := by decide +kernel
theorem d_L_law_688 : decode b_L_law 688 = .ok (.ifCond .ne 15, 3) := by decide +kernel
theorem d_L_law_691 : decode b_L_law 691 = .ok (.aload_n 3, 1) := by decide +kernel
theorem d_L_law_692 : decode b_L_law 692 = .ok (.iconst 0, 1) := by decide +kernel
theorem d_L_law_693 : decode b_L_law 693 = .ok (.laload, 1) := by decide +kernel
theorem d_L_law_694 : decode b_L_law 694 = .ok (.iload 6, 2) := by decide +kernel
theorem d_L_law_696 : decode b_L_law 696 = .ok (.i2l, 1) := by decide +kernel
theorem d_L_law_697 : decode b_L_law 697 = .ok (.lcmp, 1) := by decide +kernel
theorem d_L_law_698 : decode b_L_law 698 = .ok (.ifCond .eq 5, 3) := by decide +kernel
theorem d_L_law_701 : decode b_L_law 701 = .ok (.iconst 0, 1) := by decide +kernel
theorem d_L_law_702 : decode b_L_law 702 = .ok (.ireturn, 1) := by decide +kernel
theorem d_L_law_703 : decode b_L_law 703 = .ok (.goto 1024, 3) := by decide +kernel
theorem d_L_law_706 : decode b_L_law 706 = .ok (.aload_n 1, 1) := by decide +kernel
theorem d_L_law_707 : decode b_L_law 707 = .ok (.aload_n 0, 1) := by decide +kernel
theorem d_L_law_708 : decode b_L_law 708 = .ok (.iload 4, 2) := by decide +kernel
theorem d_L_law_710 : decode b_L_law 710 = .ok (.iconst 1, 1) := by decide +kernel
theorem d_L_law_711 : decode b_L_law 711 = .ok (.iadd, 1) := by decide +kernel
theorem d_L_law_712 : decode b_L_law 712 = .ok (.iaload, 1) := by decide +kernel
theorem d_L_law_713 : decode b_L_law 713 = .ok (.aload_n 0, 1) := by decide +kernel
theorem d_L_law_714 : decode b_L_law 714 = .ok (.iload 4, 2) := by decide +kernel
theorem d_L_law_716 : decode b_L_law 716 = .ok (.iconst 2, 1) := by decide +kernel
theorem d_L_law_717 : decode b_L_law 717 = .ok (.iadd, 1) := by decide +kernel
theorem d_L_law_718 : decode b_L_law 718 = .ok (.iaload, 1) := by decide +kernel
theorem d_L_law_719 : decode b_L_law 719 = .ok (.aload_n 0, 1) := by decide +kernel
theorem d_L_law_720 : decode b_L_law 720 = .ok (.iload 4, 2) := by decide +kernel
theorem d_L_law_722 : decode b_L_law 722 = .ok (.iconst 3, 1) := by decide +kernel
theorem d_L_law_723 : decode b_L_law 723 = .ok (.iadd, 1) := by decide +kernel
theorem d_L_law_724 : decode b_L_law 724 = .ok (.iaload, 1) := by decide +kernel
theorem d_L_law_725 : decode b_L_law 725 = .ok (.aload_n 3, 1) := by decide +kernel
theorem d_L_law_726 : decode b_L_law 726 = .ok (.invokestatic 132, 3) := by decide +kernel
theorem d_L_law_729 : decode b_L_law 729 = .ok (.istore 5, 2) := by decide +kernel
theorem d_L_law_731 : decode b_L_law 731 = .ok (.aload_n 2, 1) := by decide +kernel
theorem d_L_law_732 : decode b_L_law 732 = .ok (.aload_n 0, 1) := by decide +kernel
theorem d_L_law_733 : decode b_L_law 733 = .ok (.iload 4, 2) := by decide +kernel
theorem d_L_law_735 : decode b_L_law 735 = .ok (.iconst 1, 1) := by decide +kernel
theorem d_L_law_736 : decode b_L_law 736 = .ok (.iadd, 1) := by decide +kernel
theorem d_L_law_737 : decode b_L_law 737 = .ok (.iaload, 1) := by decide +kernel
theorem d_L_law_738 : decode b_L_law 738 = .ok (.aload_n 0, 1) := by decide +kernel
theorem d_L_law_739 : decode b_L_law 739 = .ok (.iload 4, 2) := by decide +kernel
theorem d_L_law_741 : decode b_L_law 741 = .ok (.iconst 2, 1) := by decide +kernel
theorem d_L_law_742 : decode b_L_law 742 = .ok (.iadd, 1) := by decide +kernel
theorem d_L_law_743 : decode b_L_law 743 = .ok (.iaload, 1) := by decide +kernel
theorem d_L_law_744 : decode b_L_law 744 = .ok (.aload_n 0, 1) := by decide +kernel
theorem d_L_law_745 : decode b_L_law 745 = .ok (.iload 4, 2) := by decide +kernel
theorem d_L_law_747 : decode b_L_law 747 = .ok (.iconst 3, 1) := by decide +kernel
theorem d_L_law_748 : decode b_L_law 748 = .ok (.iadd, 1) := by decide +kernel
theorem d_L_law_749 : decode b_L_law 749 = .ok (.iaload, 1) := by decide +kernel
theorem d_L_law_750 : decode b_L_law 750 = .ok (.invokevirtual 134, 3) := by decide +kernel
theorem d_L_law_753 : decode b_L_law 753 = .ok (.istore 6, 2) := by decide +kernel
theorem d_L_law_755 : decode b_L_law 755 = .ok (.aload_n 2, 1) := by decide +kernel
theorem d_L_law_756 : decode b_L_law 756 = .ok (.invokevirtual 106, 3) := by decide +kernel
theorem d_L_law_759 : decode b_L_law 759 = .ok (.iload 5, 2) := by decide +kernel
theorem d_L_law_761 : decode b_L_law 761 = .ok (.if_icmp .eq 5, 3) := by decide +kernel
theorem d_L_law_764 : decode b_L_law 764 = .ok (.iconst 0, 1) := by decide +kernel
theorem d_L_law_765 : decode b_L_law 765 = .ok (.ireturn, 1) := by decide +kernel
theorem d_L_law_766 : decode b_L_law 766 = .ok (.iload 5, 2) := by decide +kernel
theorem d_L_law_768 : decode b_L_law 768 = .ok (.ifCond .ne 15, 3) := by decide +kernel
