/-! the law's own methods: their instructions -/
theorem dL_acts_447 : decode cL_acts 447 = .ok (.invokevirtual 33, 3) := by decide +kernel
theorem dL_acts_450 : decode cL_acts 450 = .ok (.aload_n 0, 1) := by decide +kernel
theorem dL_acts_451 : decode cL_acts 451 = .ok (.iconst 2, 1) := by decide +kernel
theorem dL_acts_452 : decode cL_acts 452 = .ok (.invokevirtual 33, 3) := by decide +kernel
theorem dL_acts_455 : decode cL_acts 455 = .ok (.iadd, 1) := by decide +kernel
theorem dL_acts_456 : decode cL_acts 456 = .ok (.aload_n 0, 1) := by decide +kernel
theorem dL_acts_457 : decode cL_acts 457 = .ok (.iconst 3, 1) := by decide +kernel
theorem dL_acts_458 : decode cL_acts 458 = .ok (.invokevirtual 33, 3) := by decide +kernel
theorem dL_acts_461 : decode cL_acts 461 = .ok (.iadd, 1) := by decide +kernel
theorem dL_acts_462 : decode cL_acts 462 = .ok (.istore 12, 2) := by decide +kernel
theorem dL_acts_464 : decode cL_acts 464 = .ok (.iload_n 1, 1) := by decide +kernel
theorem dL_acts_465 : decode cL_acts 465 = .ok (.bipush 9, 2) := by decide +kernel
theorem dL_acts_467 : decode cL_acts 467 = .ok (.ishr, 1) := by decide +kernel
theorem dL_acts_468 : decode cL_acts 468 = .ok (.iconst 3, 1) := by decide +kernel
theorem dL_acts_469 : decode cL_acts 469 = .ok (.irem, 1) := by decide +kernel
theorem dL_acts_470 : decode cL_acts 470 = .ok (.ifCond .le 8, 3) := by decide +kernel
theorem dL_acts_473 : decode cL_acts 473 = .ok (.bipush (-9), 2) := by decide +kernel
theorem dL_acts_475 : decode cL_acts 475 = .ok (.goto 10, 3) := by decide +kernel
theorem dL_acts_478 : decode cL_acts 478 = .ok (.aload_n 0, 1) := by decide +kernel
theorem dL_acts_479 : decode cL_acts 479 = .ok (.iload 10, 2) := by decide +kernel
theorem dL_acts_481 : decode cL_acts 481 = .ok (.iload_n 3, 1) := by decide +kernel
theorem dL_acts_482 : decode cL_acts 482 = .ok (.invokevirtual 80, 3) := by decide +kernel
theorem dL_acts_485 : decode cL_acts 485 = .ok (.istore 13, 2) := by decide +kernel
theorem dL_acts_487 : decode cL_acts 487 = .ok (.iload 13, 2) := by decide +kernel
theorem dL_acts_489 : decode cL_acts 489 = .ok (.bipush (-9), 2) := by decide +kernel
theorem dL_acts_491 : decode cL_acts 491 = .ok (.if_icmp .eq 43, 3) := by decide +kernel
theorem dL_acts_494 : decode cL_acts 494 = .ok (.iload 13, 2) := by decide +kernel
theorem dL_acts_496 : decode cL_acts 496 = .ok (.iload 11, 2) := by decide +kernel
theorem dL_acts_498 : decode cL_acts 498 = .ok (.if_icmp .ne 40, 3) := by decide +kernel
theorem dL_acts_501 : decode cL_acts 501 = .ok (.aload_n 0, 1) := by decide +kernel
theorem dL_acts_502 : decode cL_acts 502 = .ok (.iconst 1, 1) := by decide +kernel
theorem dL_acts_503 : decode cL_acts 503 = .ok (.invokevirtual 33, 3) := by decide +kernel
theorem dL_acts_506 : decode cL_acts 506 = .ok (.aload_n 0, 1) := by decide +kernel
theorem dL_acts_507 : decode cL_acts 507 = .ok (.iconst 2, 1) := by decide +kernel
theorem dL_acts_508 : decode cL_acts 508 = .ok (.invokevirtual 33, 3) := by decide +kernel
theorem dL_acts_511 : decode cL_acts 511 = .ok (.iadd, 1) := by decide +kernel
theorem dL_acts_512 : decode cL_acts 512 = .ok (.aload_n 0, 1) := by decide +kernel
theorem dL_acts_513 : decode cL_acts 513 = .ok (.iconst 3, 1) := by decide +kernel
theorem dL_acts_514 : decode cL_acts 514 = .ok (.invokevirtual 33, 3) := by decide +kernel
theorem dL_acts_517 : decode cL_acts 517 = .ok (.iadd, 1) := by decide +kernel
theorem dL_acts_518 : decode cL_acts 518 = .ok (.iload 12, 2) := by decide +kernel
theorem dL_acts_520 : decode cL_acts 520 = .ok (.iload 11, 2) := by decide +kernel
theorem dL_acts_522 : decode cL_acts 522 = .ok (.ifCond .ge 7, 3) := by decide +kernel
theorem dL_acts_525 : decode cL_acts 525 = .ok (.iconst 0, 1) := by decide +kernel
theorem dL_acts_526 : decode cL_acts 526 = .ok (.goto 4, 3) := by decide +kernel
theorem dL_acts_529 : decode cL_acts 529 = .ok (.iconst 1, 1) := by decide +kernel
theorem dL_acts_530 : decode cL_acts 530 = .ok (.isub, 1) := by decide +kernel
theorem dL_acts_531 : decode cL_acts 531 = .ok (.if_icmp .ne 7, 3) := by decide +kernel
theorem dL_acts_534 : decode cL_acts 534 = .ok (.iconst 1, 1) := by decide +kernel
theorem dL_acts_535 : decode cL_acts 535 = .ok (.goto 4, 3) := by decide +kernel
theorem dL_acts_538 : decode cL_acts 538 = .ok (.iconst 0, 1) := by decide +kernel
theorem dL_acts_539 : decode cL_acts 539 = .ok (.ireturn, 1) := by decide +kernel
theorem dL_acts_540 : decode cL_acts 540 = .ok (.iload_n 1, 1) := by decide +kernel
theorem dL_acts_541 : decode cL_acts 541 = .ok (.iconst 4, 1) := by decide +kernel
theorem dL_acts_542 : decode cL_acts 542 = .ok (.ishr, 1) := by decide +kernel
theorem dL_acts_543 : decode cL_acts 543 = .ok (.iconst 4, 1) := by decide +kernel
theorem dL_acts_544 : decode cL_acts 544 = .ok (.irem, 1) := by decide +kernel
theorem dL_acts_545 : decode cL_acts 545 = .ok (.istore 14, 2) := by decide +kernel
theorem dL_acts_547 : decode cL_acts 547 = .ok (.iload 14, 2) := by decide +kernel
theorem dL_acts_549 : decode cL_acts 549 = .ok (.iconst 2, 1) := by decide +kernel
theorem dL_acts_550 : decode cL_acts 550 = .ok (.if_icmp .ge 13, 3) := by decide +kernel
theorem dL_acts_553 : decode cL_acts 553 = .ok (.iload_n 1, 1) := by decide +kernel
theorem dL_acts_554 : decode cL_acts 554 = .ok (.bipush 8, 2) := by decide +kernel
theorem dL_acts_556 : decode cL_acts 556 = .ok (.ishr, 1) := by decide +kernel
theorem dL_acts_557 : decode cL_acts 557 = .ok (.bipush 10, 2) := by decide +kernel
theorem dL_acts_559 : decode cL_acts 559 = .ok (.irem, 1) := by decide +kernel
theorem dL_acts_560 : decode cL_acts 560 = .ok (.goto 29, 3) := by decide +kernel
theorem dL_acts_563 : decode cL_acts 563 = .ok (.iload 14, 2) := by decide +kernel
theorem dL_acts_565 : decode cL_acts 565 = .ok (.iconst 2, 1) := by decide +kernel
theorem dL_acts_566 : decode cL_acts 566 = .ok (.if_icmp .ne 15, 3) := by decide +kernel
theorem dL_acts_569 : decode cL_acts 569 = .ok (.iconst 1, 1) := by decide +kernel
theorem dL_acts_570 : decode cL_acts 570 = .ok (.iload_n 1, 1) := by decide +kernel
theorem dL_acts_571 : decode cL_acts 571 = .ok (.bipush 8, 2) := by decide +kernel
theorem dL_acts_573 : decode cL_acts 573 = .ok (.ishr, 1) := by decide +kernel
theorem dL_acts_574 : decode cL_acts 574 = .ok (.bipush 9, 2) := by decide +kernel
theorem dL_acts_576 : decode cL_acts 576 = .ok (.irem, 1) := by decide +kernel
theorem dL_acts_577 : decode cL_acts 577 = .ok (.iadd, 1) := by decide +kernel
theorem dL_acts_578 : decode cL_acts 578 = .ok (.goto 11, 3) := by decide +kernel
theorem dL_acts_581 : decode cL_acts 581 = .ok (.iconst 1, 1) := by decide +kernel
theorem dL_acts_582 : decode cL_acts 582 = .ok (.iload_n 1, 1) := by decide +kernel
theorem dL_acts_583 : decode cL_acts 583 = .ok (.bipush 8, 2) := by decide +kernel
theorem dL_acts_585 : decode cL_acts 585 = .ok (.ishr, 1) := by decide +kernel
theorem dL_acts_586 : decode cL_acts 586 = .ok (.iconst 3, 1) := by decide +kernel
theorem dL_acts_587 : decode cL_acts 587 = .ok (.irem, 1) := by decide +kernel
theorem dL_acts_588 : decode cL_acts 588 = .ok (.iadd, 1) := by decide +kernel
theorem dL_acts_589 : decode cL_acts 589 = .ok (.istore 15, 2) := by decide +kernel
theorem dL_acts_591 : decode cL_acts 591 = .ok (.aload_n 0, 1) := by decide +kernel
theorem dL_acts_592 : decode cL_acts 592 = .ok (.bipush 7, 2) := by decide +kernel
theorem dL_acts_594 : decode cL_acts 594 = .ok (.iload 14, 2) := by decide +kernel
theorem dL_acts_596 : decode cL_acts 596 = .ok (.iadd, 1) := by decide +kernel
theorem dL_acts_597 : decode cL_acts 597 = .ok (.invokevirtual 33, 3) := by decide +kernel
theorem dL_acts_600 : decode cL_acts 600 = .ok (.istore 16, 2) := by decide +kernel
theorem dL_acts_602 : decode cL_acts 602 = .ok (.aload_n 0, 1) := by decide +kernel
theorem dL_acts_603 : decode cL_acts 603 = .ok (.iload 14, 2) := by decide +kernel
theorem dL_acts_605 : decode cL_acts 605 = .ok (.iload 15, 2) := by decide +kernel
theorem dL_acts_607 : decode cL_acts 607 = .ok (.invokevirtual 83, 3) := by decide +kernel
theorem dL_acts_610 : decode cL_acts 610 = .ok (.iload 16, 2) := by decide +kernel
theorem dL_acts_612 : decode cL_acts 612 = .ok (.if_icmp .ne 21, 3) := by decide +kernel
theorem dL_acts_615 : decode cL_acts 615 = .ok (.aload_n 0, 1) := by decide +kernel
theorem dL_acts_616 : decode cL_acts 616 = .ok (.bipush 7, 2) := by decide +kernel
theorem dL_acts_618 : decode cL_acts 618 = .ok (.iload 14, 2) := by decide +kernel
theorem dL_acts_620 : decode cL_acts 620 = .ok (.iadd, 1) := by decide +kernel
theorem dL_acts_621 : decode cL_acts 621 = .ok (.invokevirtual 33, 3) := by decide +kernel
theorem dL_acts_624 : decode cL_acts 624 = .ok (.iload 15, 2) := by decide +kernel
theorem dL_acts_626 : decode cL_acts 626 = .ok (.if_icmp .ne 7, 3) := by decide +kernel
theorem dL_acts_629 : decode cL_acts 629 = .ok (.iconst 1, 1) := by decide +kernel
theorem dL_acts_630 : decode cL_acts 630 = .ok (.goto 4, 3) := by decide +kernel
theorem dL_acts_633 : decode cL_acts 633 = .ok (.iconst 0, 1) := by decide +kernel
theorem dL_acts_634 : decode cL_acts 634 = .ok (.ireturn, 1) := by decide +kernel
theorem dL_acts_635 : decode cL_acts 635 = .ok (.aload_n 0, 1) := by decide +kernel
theorem dL_acts_636 : decode cL_acts 636 = .ok (.iload_n 3, 1) := by decide +kernel
theorem dL_acts_637 : decode cL_acts 637 = .ok (.iconst 2, 1) := by decide +kernel
theorem dL_acts_638 : decode cL_acts 638 = .ok (.invokevirtual 9, 3) := by decide +kernel
theorem dL_acts_641 : decode cL_acts 641 = .ok (.istore 17, 2) := by decide +kernel
theorem dL_acts_643 : decode cL_acts 643 = .ok (.iload_n 1, 1) := by decide +kernel
theorem dL_acts_644 : decode cL_acts 644 = .ok (.bipush 8, 2) := by decide +kernel
theorem dL_acts_646 : decode cL_acts 646 = .ok (.ishr, 1) := by decide +kernel
theorem dL_acts_647 : decode cL_acts 647 = .ok (.bipush 32, 2) := by decide +kernel
theorem dL_acts_649 : decode cL_acts 649 = .ok (.irem, 1) := by decide +kernel
theorem dL_acts_650 : decode cL_acts 650 = .ok (.istore 18, 2) := by decide +kernel
theorem dL_acts_652 : decode cL_acts 652 = .ok (.aload_n 0, 1) := by decide +kernel
theorem dL_acts_653 : decode cL_acts 653 = .ok (.iload_n 3, 1) := by decide +kernel
theorem dL_acts_654 : decode cL_acts 654 = .ok (.iload 18, 2) := by decide +kernel
theorem dL_acts_656 : decode cL_acts 656 = .ok (.invokevirtual 86, 3) := by decide +kernel
theorem dL_acts_659 : decode cL_acts 659 = .ok (.istore 19, 2) := by decide +kernel
theorem dL_acts_661 : decode cL_acts 661 = .ok (.iload 17, 2) := by decide +kernel
theorem dL_acts_663 : decode cL_acts 663 = .ok (.ifCond .ge 17, 3) := by decide +kernel
theorem dL_acts_666 : decode cL_acts 666 = .ok (.iload 19, 2) := by decide +kernel
theorem dL_acts_668 : decode cL_acts 668 = .ok (.iconst (-1), 1) := by decide +kernel
theorem dL_acts_669 : decode cL_acts 669 = .ok (.if_icmp .ne 7, 3) := by decide +kernel
theorem dL_acts_672 : decode cL_acts 672 = .ok (.iconst 1, 1) := by decide +kernel
theorem dL_acts_673 : decode cL_acts 673 = .ok (.goto 55, 3) := by decide +kernel
theorem dL_acts_676 : decode cL_acts 676 = .ok (.iconst 0, 1) := by decide +kernel
theorem dL_acts_677 : decode cL_acts 677 = .ok (.goto 51, 3) := by decide +kernel
theorem dL_acts_680 : decode cL_acts 680 = .ok (.iload 17, 2) := by decide +kernel
theorem dL_acts_682 : decode cL_acts 682 = .ok (.bipush 6, 2) := by decide +kernel
theorem dL_acts_684 : decode cL_acts 684 = .ok (.if_icmp .ne 18, 3) := by decide +kernel
theorem dL_acts_687 : decode cL_acts 687 = .ok (.iload 19, 2) := by decide +kernel
theorem dL_acts_689 : decode cL_acts 689 = .ok (.bipush (-3), 2) := by decide +kernel
theorem dL_acts_691 : decode cL_acts 691 = .ok (.if_icmp .ne 7, 3) := by decide +kernel
theorem dL_acts_694 : decode cL_acts 694 = .ok (.iconst 1, 1) := by decide +kernel
theorem dL_acts_695 : decode cL_acts 695 = .ok (.goto 33, 3) := by decide +kernel
theorem dL_acts_698 : decode cL_acts 698 = .ok (.iconst 0, 1) := by decide +kernel
theorem dL_acts_699 : decode cL_acts 699 = .ok (.goto 29, 3) := by decide +kernel
theorem dL_acts_702 : decode cL_acts 702 = .ok (.iload 19, 2) := by decide +kernel
theorem dL_acts_704 : decode cL_acts 704 = .ok (.iload 17, 2) := by decide +kernel
theorem dL_acts_706 : decode cL_acts 706 = .ok (.iconst 1, 1) := by decide +kernel
theorem dL_acts_707 : decode cL_acts 707 = .ok (.iadd, 1) := by decide +kernel
theorem dL_acts_708 : decode cL_acts 708 = .ok (.if_icmp .ne 19, 3) := by decide +kernel
theorem dL_acts_711 : decode cL_acts 711 = .ok (.aload_n 0, 1) := by decide +kernel
theorem dL_acts_712 : decode cL_acts 712 = .ok (.iload_n 3, 1) := by decide +kernel
theorem dL_acts_713 : decode cL_acts 713 = .ok (.iload 17, 2) := by decide +kernel
theorem dL_acts_715 : decode cL_acts 715 = .ok (.invokevirtual 24, 3) := by decide +kernel
theorem dL_acts_718 : decode cL_acts 718 = .ok (.iload 18, 2) := by decide +kernel
theorem dL_acts_720 : decode cL_acts 720 = .ok (.if_icmp .ne 7, 3) := by decide +kernel
theorem dL_acts_723 : decode cL_acts 723 = .ok (.iconst 1, 1) := by decide +kernel
theorem dL_acts_724 : decode cL_acts 724 = .ok (.goto 4, 3) := by decide +kernel
theorem dL_acts_727 : decode cL_acts 727 = .ok (.iconst 0, 1) := by decide +kernel
theorem dL_acts_728 : decode cL_acts 728 = .ok (.ireturn, 1) := by decide +kernel
theorem dL_acts_729 : decode cL_acts 729 = .ok (.iconst 1, 1) := by decide +kernel
theorem dL_acts_730 : decode cL_acts 730 = .ok (.iload_n 1, 1) := by decide +kernel
theorem dL_acts_731 : decode cL_acts 731 = .ok (.iconst 4, 1) := by decide +kernel
theorem dL_acts_732 : decode cL_acts 732 = .ok (.ishr, 1) := by decide +kernel
theorem dL_acts_733 : decode cL_acts 733 = .ok (.bipush 60, 2) := by decide +kernel
theorem dL_acts_735 : decode cL_acts 735 = .ok (.irem, 1) := by decide +kernel
theorem dL_acts_736 : decode cL_acts 736 = .ok (.iadd, 1) := by decide +kernel
theorem dL_acts_737 : decode cL_acts 737 = .ok (.istore 20, 2) := by decide +kernel
theorem dL_acts_739 : decode cL_acts 739 = .ok (.aload_n 0, 1) := by decide +kernel
theorem dL_acts_740 : decode cL_acts 740 = .ok (.iconst 0, 1) := by decide +kernel
theorem dL_acts_741 : decode cL_acts 741 = .ok (.invokevirtual 33, 3) := by decide +kernel
theorem dL_acts_744 : decode cL_acts 744 = .ok (.istore 21, 2) := by decide +kernel
theorem dL_acts_746 : decode cL_acts 746 = .ok (.aload_n 0, 1) := by decide +kernel
theorem dL_acts_747 : decode cL_acts 747 = .ok (.iconst 2, 1) := by decide +kernel
theorem dL_acts_748 : decode cL_acts 748 = .ok (.invokevirtual 40, 3) := by decide +kernel
theorem dL_acts_751 : decode cL_acts 751 = .ok (.istore 22, 2) := by decide +kernel
theorem dL_acts_753 : decode cL_acts 753 = .ok (.aload_n 0, 1) := by decide +kernel
theorem dL_acts_754 : decode cL_acts 754 = .ok (.iload 20, 2) := by decide +kernel
theorem dL_acts_756 : decode cL_acts 756 = .ok (.invokevirtual 54, 3) := by decide +kernel
theorem dL_acts_759 : decode cL_acts 759 = .ok (.aload_n 0, 1) := by decide +kernel
theorem dL_acts_760 : decode cL_acts 760 = .ok (.iconst 2, 1) := by decide +kernel
theorem dL_acts_761 : decode cL_acts 761 = .ok (.invokevirtual 40, 3) := by decide +kernel
theorem dL_acts_764 : decode cL_acts 764 = .ok (.iload 22, 2) := by decide +kernel
theorem dL_acts_766 : decode cL_acts 766 = .ok (.isub, 1) := by decide +kernel
theorem dL_acts_767 : decode cL_acts 767 = .ok (.if_icmp .ne 20, 3) := by decide +kernel
theorem dL_acts_770 : decode cL_acts 770 = .ok (.aload_n 0, 1) := by decide +kernel
theorem dL_acts_771 : decode cL_acts 771 = .ok (.iconst 0, 1) := by decide +kernel
theorem dL_acts_772 : decode cL_acts 772 = .ok (.invokevirtual 33, 3) := by decide +kernel
theorem dL_acts_775 : decode cL_acts 775 = .ok (.iload 21, 2) := by decide +kernel
theorem dL_acts_777 : decode cL_acts 777 = .ok (.iload 20, 2) := by decide +kernel
theorem dL_acts_779 : decode cL_acts 779 = .ok (.iadd, 1) := by decide +kernel
theorem dL_acts_780 : decode cL_acts 780 = .ok (.if_icmp .ne 7, 3) := by decide +kernel
theorem dL_acts_783 : decode cL_acts 783 = .ok (.iconst 1, 1) := by decide +kernel
theorem dL_acts_784 : decode cL_acts 784 = .ok (.goto 4, 3) := by decide +kernel
theorem dL_acts_787 : decode cL_acts 787 = .ok (.iconst 0, 1) := by decide +kernel
theorem dL_acts_788 : decode cL_acts 788 = .ok (.ireturn, 1) := by decide +kernel
