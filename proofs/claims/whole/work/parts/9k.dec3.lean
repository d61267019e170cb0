theorem d_Law_500 : decode code 500 = .ok (.aload_n 0, 1) := by decide +kernel
theorem d_Law_501 : decode code 501 = .ok (.iload_n 3, 1) := by decide +kernel
theorem d_Law_502 : decode code 502 = .ok (.bipush 6, 2) := by decide +kernel
theorem d_Law_504 : decode code 504 = .ok (.iadd, 1) := by decide +kernel
theorem d_Law_505 : decode code 505 = .ok (.iaload, 1) := by decide +kernel
theorem d_Law_506 : decode code 506 = .ok (.aload_n 0, 1) := by decide +kernel
theorem d_Law_507 : decode code 507 = .ok (.iload_n 3, 1) := by decide +kernel
theorem d_Law_508 : decode code 508 = .ok (.bipush 7, 2) := by decide +kernel
theorem d_Law_510 : decode code 510 = .ok (.iadd, 1) := by decide +kernel
theorem d_Law_511 : decode code 511 = .ok (.iaload, 1) := by decide +kernel
theorem d_Law_512 : decode code 512 = .ok (.invokevirtual 57, 3) := by decide +kernel
theorem d_Law_515 : decode code 515 = .ok (.aload_n 2, 1) := by decide +kernel
theorem d_Law_516 : decode code 516 = .ok (.aload_n 0, 1) := by decide +kernel
theorem d_Law_517 : decode code 517 = .ok (.iload_n 3, 1) := by decide +kernel
theorem d_Law_518 : decode code 518 = .ok (.iconst 1, 1) := by decide +kernel
theorem d_Law_519 : decode code 519 = .ok (.iadd, 1) := by decide +kernel
theorem d_Law_520 : decode code 520 = .ok (.iaload, 1) := by decide +kernel
theorem d_Law_521 : decode code 521 = .ok (.aload_n 0, 1) := by decide +kernel
theorem d_Law_522 : decode code 522 = .ok (.iload_n 3, 1) := by decide +kernel
theorem d_Law_523 : decode code 523 = .ok (.iconst 2, 1) := by decide +kernel
theorem d_Law_524 : decode code 524 = .ok (.iadd, 1) := by decide +kernel
theorem d_Law_525 : decode code 525 = .ok (.iaload, 1) := by decide +kernel
theorem d_Law_526 : decode code 526 = .ok (.aload_n 0, 1) := by decide +kernel
theorem d_Law_527 : decode code 527 = .ok (.iload_n 3, 1) := by decide +kernel
theorem d_Law_528 : decode code 528 = .ok (.iconst 3, 1) := by decide +kernel
theorem d_Law_529 : decode code 529 = .ok (.iadd, 1) := by decide +kernel
theorem d_Law_530 : decode code 530 = .ok (.iaload, 1) := by decide +kernel
theorem d_Law_531 : decode code 531 = .ok (.aload_n 0, 1) := by decide +kernel
theorem d_Law_532 : decode code 532 = .ok (.iload_n 3, 1) := by decide +kernel
theorem d_Law_533 : decode code 533 = .ok (.iconst 4, 1) := by decide +kernel
theorem d_Law_534 : decode code 534 = .ok (.iadd, 1) := by decide +kernel
theorem d_Law_535 : decode code 535 = .ok (.iaload, 1) := by decide +kernel
theorem d_Law_536 : decode code 536 = .ok (.i2l, 1) := by decide +kernel
theorem d_Law_537 : decode code 537 = .ok (.bipush 32, 2) := by decide +kernel
theorem d_Law_539 : decode code 539 = .ok (.lshl, 1) := by decide +kernel
theorem d_Law_540 : decode code 540 = .ok (.aload_n 0, 1) := by decide +kernel
theorem d_Law_541 : decode code 541 = .ok (.iload_n 3, 1) := by decide +kernel
theorem d_Law_542 : decode code 542 = .ok (.iconst 5, 1) := by decide +kernel
theorem d_Law_543 : decode code 543 = .ok (.iadd, 1) := by decide +kernel
theorem d_Law_544 : decode code 544 = .ok (.iaload, 1) := by decide +kernel
theorem d_Law_545 : decode code 545 = .ok (.i2l, 1) := by decide +kernel
theorem d_Law_546 : decode code 546 = .ok (.ldc2_w 55, 3) := by decide +kernel
theorem d_Law_549 : decode code 549 = .ok (.land, 1) := by decide +kernel
theorem d_Law_550 : decode code 550 = .ok (.lor, 1) := by decide +kernel
theorem d_Law_551 : decode code 551 = .ok (.aload_n 0, 1) := by decide +kernel
theorem d_Law_552 : decode code 552 = .ok (.iload_n 3, 1) := by decide +kernel
theorem d_Law_553 : decode code 553 = .ok (.bipush 6, 2) := by decide +kernel
theorem d_Law_555 : decode code 555 = .ok (.iadd, 1) := by decide +kernel
theorem d_Law_556 : decode code 556 = .ok (.iaload, 1) := by decide +kernel
theorem d_Law_557 : decode code 557 = .ok (.aload_n 0, 1) := by decide +kernel
theorem d_Law_558 : decode code 558 = .ok (.iload_n 3, 1) := by decide +kernel
theorem d_Law_559 : decode code 559 = .ok (.bipush 7, 2) := by decide +kernel
theorem d_Law_561 : decode code 561 = .ok (.iadd, 1) := by decide +kernel
theorem d_Law_562 : decode code 562 = .ok (.iaload, 1) := by decide +kernel
theorem d_Law_563 : decode code 563 = .ok (.invokevirtual 61, 3) := by decide +kernel
theorem d_Law_566 : decode code 566 = .ok (.if_icmp .eq 174, 3) := by decide +kernel
theorem d_Law_569 : decode code 569 = .ok (.iconst 0, 1) := by decide +kernel
theorem d_Law_570 : decode code 570 = .ok (.ireturn, 1) := by decide +kernel
theorem d_Law_571 : decode code 571 = .ok (.aload_n 1, 1) := by decide +kernel
theorem d_Law_572 : decode code 572 = .ok (.aload_n 0, 1) := by decide +kernel
theorem d_Law_573 : decode code 573 = .ok (.iload_n 3, 1) := by decide +kernel
theorem d_Law_574 : decode code 574 = .ok (.iconst 1, 1) := by decide +kernel
theorem d_Law_575 : decode code 575 = .ok (.iadd, 1) := by decide +kernel
theorem d_Law_576 : decode code 576 = .ok (.iaload, 1) := by decide +kernel
theorem d_Law_577 : decode code 577 = .ok (.aload_n 0, 1) := by decide +kernel
theorem d_Law_578 : decode code 578 = .ok (.iload_n 3, 1) := by decide +kernel
theorem d_Law_579 : decode code 579 = .ok (.iconst 2, 1) := by decide +kernel
theorem d_Law_580 : decode code 580 = .ok (.iadd, 1) := by decide +kernel
theorem d_Law_581 : decode code 581 = .ok (.iaload, 1) := by decide +kernel
theorem d_Law_582 : decode code 582 = .ok (.aload_n 0, 1) := by decide +kernel
theorem d_Law_583 : decode code 583 = .ok (.iload_n 3, 1) := by decide +kernel
theorem d_Law_584 : decode code 584 = .ok (.iconst 3, 1) := by decide +kernel
theorem d_Law_585 : decode code 585 = .ok (.iadd, 1) := by decide +kernel
theorem d_Law_586 : decode code 586 = .ok (.iaload, 1) := by decide +kernel
theorem d_Law_587 : decode code 587 = .ok (.aload_n 0, 1) := by decide +kernel
theorem d_Law_588 : decode code 588 = .ok (.iload_n 3, 1) := by decide +kernel
theorem d_Law_589 : decode code 589 = .ok (.iconst 4, 1) := by decide +kernel
theorem d_Law_590 : decode code 590 = .ok (.iadd, 1) := by decide +kernel
theorem d_Law_591 : decode code 591 = .ok (.iaload, 1) := by decide +kernel
theorem d_Law_592 : decode code 592 = .ok (.aload_n 0, 1) := by decide +kernel
theorem d_Law_593 : decode code 593 = .ok (.iload_n 3, 1) := by decide +kernel
theorem d_Law_594 : decode code 594 = .ok (.iconst 5, 1) := by decide +kernel
theorem d_Law_595 : decode code 595 = .ok (.iadd, 1) := by decide +kernel
theorem d_Law_596 : decode code 596 = .ok (.iaload, 1) := by decide +kernel
theorem d_Law_597 : decode code 597 = .ok (.invokevirtual 62, 3) := by decide +kernel
theorem d_Law_600 : decode code 600 = .ok (.aload_n 2, 1) := by decide +kernel
theorem d_Law_601 : decode code 601 = .ok (.aload_n 0, 1) := by decide +kernel
theorem d_Law_602 : decode code 602 = .ok (.iload_n 3, 1) := by decide +kernel
theorem d_Law_603 : decode code 603 = .ok (.iconst 1, 1) := by decide +kernel
theorem d_Law_604 : decode code 604 = .ok (.iadd, 1) := by decide +kernel
theorem d_Law_605 : decode code 605 = .ok (.iaload, 1) := by decide +kernel
theorem d_Law_606 : decode code 606 = .ok (.aload_n 0, 1) := by decide +kernel
theorem d_Law_607 : decode code 607 = .ok (.iload_n 3, 1) := by decide +kernel
theorem d_Law_608 : decode code 608 = .ok (.iconst 2, 1) := by decide +kernel
theorem d_Law_609 : decode code 609 = .ok (.iadd, 1) := by decide +kernel
theorem d_Law_610 : decode code 610 = .ok (.iaload, 1) := by decide +kernel
theorem d_Law_611 : decode code 611 = .ok (.aload_n 0, 1) := by decide +kernel
theorem d_Law_612 : decode code 612 = .ok (.iload_n 3, 1) := by decide +kernel
theorem d_Law_613 : decode code 613 = .ok (.iconst 3, 1) := by decide +kernel
theorem d_Law_614 : decode code 614 = .ok (.iadd, 1) := by decide +kernel
theorem d_Law_615 : decode code 615 = .ok (.iaload, 1) := by decide +kernel
theorem d_Law_616 : decode code 616 = .ok (.aload_n 0, 1) := by decide +kernel
theorem d_Law_617 : decode code 617 = .ok (.iload_n 3, 1) := by decide +kernel
theorem d_Law_618 : decode code 618 = .ok (.iconst 4, 1) := by decide +kernel
theorem d_Law_619 : decode code 619 = .ok (.iadd, 1) := by decide +kernel
theorem d_Law_620 : decode code 620 = .ok (.iaload, 1) := by decide +kernel
theorem d_Law_621 : decode code 621 = .ok (.aload_n 0, 1) := by decide +kernel
theorem d_Law_622 : decode code 622 = .ok (.iload_n 3, 1) := by decide +kernel
theorem d_Law_623 : decode code 623 = .ok (.iconst 5, 1) := by decide +kernel
theorem d_Law_624 : decode code 624 = .ok (.iadd, 1) := by decide +kernel
theorem d_Law_625 : decode code 625 = .ok (.iaload, 1) := by decide +kernel
theorem d_Law_626 : decode code 626 = .ok (.invokevirtual 65, 3) := by decide +kernel
theorem d_Law_629 : decode code 629 = .ok (.if_icmp .eq 111, 3) := by decide +kernel
theorem d_Law_632 : decode code 632 = .ok (.iconst 0, 1) := by decide +kernel
theorem d_Law_633 : decode code 633 = .ok (.ireturn, 1) := by decide +kernel
theorem d_Law_634 : decode code 634 = .ok (.aload_n 1, 1) := by decide +kernel
theorem d_Law_635 : decode code 635 = .ok (.aload_n 0, 1) := by decide +kernel
theorem d_Law_636 : decode code 636 = .ok (.iload_n 3, 1) := by decide +kernel
theorem d_Law_637 : decode code 637 = .ok (.iconst 1, 1) := by decide +kernel
theorem d_Law_638 : decode code 638 = .ok (.iadd, 1) := by decide +kernel
theorem d_Law_639 : decode code 639 = .ok (.iaload, 1) := by decide +kernel
theorem d_Law_640 : decode code 640 = .ok (.aload_n 0, 1) := by decide +kernel
theorem d_Law_641 : decode code 641 = .ok (.iload_n 3, 1) := by decide +kernel
theorem d_Law_642 : decode code 642 = .ok (.iconst 2, 1) := by decide +kernel
theorem d_Law_643 : decode code 643 = .ok (.iadd, 1) := by decide +kernel
theorem d_Law_644 : decode code 644 = .ok (.iaload, 1) := by decide +kernel
theorem d_Law_645 : decode code 645 = .ok (.aload_n 0, 1) := by decide +kernel
theorem d_Law_646 : decode code 646 = .ok (.iload_n 3, 1) := by decide +kernel
theorem d_Law_647 : decode code 647 = .ok (.iconst 3, 1) := by decide +kernel
theorem d_Law_648 : decode code 648 = .ok (.iadd, 1) := by decide +kernel
theorem d_Law_649 : decode code 649 = .ok (.iaload, 1) := by decide +kernel
theorem d_Law_650 : decode code 650 = .ok (.i2l, 1) := by decide +kernel
theorem d_Law_651 : decode code 651 = .ok (.bipush 32, 2) := by decide +kernel
theorem d_Law_653 : decode code 653 = .ok (.lshl, 1) := by decide +kernel
theorem d_Law_654 : decode code 654 = .ok (.aload_n 0, 1) := by decide +kernel
theorem d_Law_655 : decode code 655 = .ok (.iload_n 3, 1) := by decide +kernel
theorem d_Law_656 : decode code 656 = .ok (.iconst 4, 1) := by decide +kernel
theorem d_Law_657 : decode code 657 = .ok (.iadd, 1) := by decide +kernel
theorem d_Law_658 : decode code 658 = .ok (.iaload, 1) := by decide +kernel
theorem d_Law_659 : decode code 659 = .ok (.i2l, 1) := by decide +kernel
theorem d_Law_660 : decode code 660 = .ok (.ldc2_w 55, 3) := by decide +kernel
theorem d_Law_663 : decode code 663 = .ok (.land, 1) := by decide +kernel
theorem d_Law_664 : decode code 664 = .ok (.lor, 1) := by decide +kernel
theorem d_Law_665 : decode code 665 = .ok (.invokevirtual 66, 3) := by decide +kernel
theorem d_Law_668 : decode code 668 = .ok (.aload_n 2, 1) := by decide +kernel
theorem d_Law_669 : decode code 669 = .ok (.aload_n 0, 1) := by decide +kernel
theorem d_Law_670 : decode code 670 = .ok (.iload_n 3, 1) := by decide +kernel
theorem d_Law_671 : decode code 671 = .ok (.iconst 1, 1) := by decide +kernel
theorem d_Law_672 : decode code 672 = .ok (.iadd, 1) := by decide +kernel
theorem d_Law_673 : decode code 673 = .ok (.iaload, 1) := by decide +kernel
theorem d_Law_674 : decode code 674 = .ok (.aload_n 0, 1) := by decide +kernel
theorem d_Law_675 : decode code 675 = .ok (.iload_n 3, 1) := by decide +kernel
theorem d_Law_676 : decode code 676 = .ok (.iconst 2, 1) := by decide +kernel
theorem d_Law_677 : decode code 677 = .ok (.iadd, 1) := by decide +kernel
theorem d_Law_678 : decode code 678 = .ok (.iaload, 1) := by decide +kernel
theorem d_Law_679 : decode code 679 = .ok (.aload_n 0, 1) := by decide +kernel
theorem d_Law_680 : decode code 680 = .ok (.iload_n 3, 1) := by decide +kernel
theorem d_Law_681 : decode code 681 = .ok (.iconst 3, 1) := by decide +kernel
theorem d_Law_682 : decode code 682 = .ok (.iadd, 1) := by decide +kernel
theorem d_Law_683 : decode code 683 = .ok (.iaload, 1) := by decide +kernel
theorem d_Law_684 : decode code 684 = .ok (.i2l, 1) := by decide +kernel
theorem d_Law_685 : decode code 685 = .ok (.bipush 32, 2) := by decide +kernel
theorem d_Law_687 : decode code 687 = .ok (.lshl, 1) := by decide +kernel
theorem d_Law_688 : decode code 688 = .ok (.aload_n 0, 1) := by decide +kernel
theorem d_Law_689 : decode code 689 = .ok (.iload_n 3, 1) := by decide +kernel
theorem d_Law_690 : decode code 690 = .ok (.iconst 4, 1) := by decide +kernel
theorem d_Law_691 : decode code 691 = .ok (.iadd, 1) := by decide +kernel
theorem d_Law_692 : decode code 692 = .ok (.iaload, 1) := by decide +kernel
theorem d_Law_693 : decode code 693 = .ok (.i2l, 1) := by decide +kernel
theorem d_Law_694 : decode code 694 = .ok (.ldc2_w 55, 3) := by decide +kernel
theorem d_Law_697 : decode code 697 = .ok (.land, 1) := by decide +kernel
theorem d_Law_698 : decode code 698 = .ok (.lor, 1) := by decide +kernel
theorem d_Law_699 : decode code 699 = .ok (.invokevirtual 70, 3) := by decide +kernel
theorem d_Law_702 : decode code 702 = .ok (.if_icmp .eq 38, 3) := by decide +kernel
theorem d_Law_705 : decode code 705 = .ok (.iconst 0, 1) := by decide +kernel
theorem d_Law_706 : decode code 706 = .ok (.ireturn, 1) := by decide +kernel
theorem d_Law_707 : decode code 707 = .ok (.aload_n 1, 1) := by decide +kernel
theorem d_Law_708 : decode code 708 = .ok (.aload_n 0, 1) := by decide +kernel
theorem d_Law_709 : decode code 709 = .ok (.iload_n 3, 1) := by decide +kernel
theorem d_Law_710 : decode code 710 = .ok (.iconst 1, 1) := by decide +kernel
theorem d_Law_711 : decode code 711 = .ok (.iadd, 1) := by decide +kernel
theorem d_Law_712 : decode code 712 = .ok (.iaload, 1) := by decide +kernel
theorem d_Law_713 : decode code 713 = .ok (.aload_n 0, 1) := by decide +kernel
theorem d_Law_714 : decode code 714 = .ok (.iload_n 3, 1) := by decide +kernel
theorem d_Law_715 : decode code 715 = .ok (.iconst 2, 1) := by decide +kernel
theorem d_Law_716 : decode code 716 = .ok (.iadd, 1) := by decide +kernel
theorem d_Law_717 : decode code 717 = .ok (.iaload, 1) := by decide +kernel
theorem d_Law_718 : decode code 718 = .ok (.invokevirtual 71, 3) := by decide +kernel
theorem d_Law_721 : decode code 721 = .ok (.aload_n 2, 1) := by decide +kernel
theorem d_Law_722 : decode code 722 = .ok (.aload_n 0, 1) := by decide +kernel
theorem d_Law_723 : decode code 723 = .ok (.iload_n 3, 1) := by decide +kernel
theorem d_Law_724 : decode code 724 = .ok (.iconst 1, 1) := by decide +kernel
theorem d_Law_725 : decode code 725 = .ok (.iadd, 1) := by decide +kernel
theorem d_Law_726 : decode code 726 = .ok (.iaload, 1) := by decide +kernel
theorem d_Law_727 : decode code 727 = .ok (.aload_n 0, 1) := by decide +kernel
theorem d_Law_728 : decode code 728 = .ok (.iload_n 3, 1) := by decide +kernel
theorem d_Law_729 : decode code 729 = .ok (.iconst 2, 1) := by decide +kernel
theorem d_Law_730 : decode code 730 = .ok (.iadd, 1) := by decide +kernel
theorem d_Law_731 : decode code 731 = .ok (.iaload, 1) := by decide +kernel
theorem d_Law_732 : decode code 732 = .ok (.invokevirtual 75, 3) := by decide +kernel
theorem d_Law_735 : decode code 735 = .ok (.if_icmp .eq 5, 3) := by decide +kernel
theorem d_Law_738 : decode code 738 = .ok (.iconst 0, 1) := by decide +kernel
theorem d_Law_739 : decode code 739 = .ok (.ireturn, 1) := by decide +kernel
theorem d_Law_740 : decode code 740 = .ok (.iinc 3 8, 3) := by decide +kernel
theorem d_Law_743 : decode code 743 = .ok (.goto (-725), 3) := by decide +kernel
theorem d_Law_746 : decode code 746 = .ok (.iconst 1, 1) := by decide +kernel
theorem d_Law_747 : decode code 747 = .ok (.ireturn, 1) := by decide +kernel
