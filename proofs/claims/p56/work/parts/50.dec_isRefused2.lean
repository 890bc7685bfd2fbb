theorem dL_isRefused_478 : decode cL_isRefused 478 = .ok (.iconst 0, 1) := by decide +kernel
theorem dL_isRefused_479 : decode cL_isRefused 479 = .ok (.invokestatic 241, 3) := by decide +kernel
theorem dL_isRefused_482 : decode cL_isRefused 482 = .ok (.sipush (-1261), 3) := by decide +kernel
theorem dL_isRefused_485 : decode cL_isRefused 485 = .ok (.if_icmp .ne 487, 3) := by decide +kernel
theorem dL_isRefused_488 : decode cL_isRefused 488 = .ok (.aload_n 0, 1) := by decide +kernel
theorem dL_isRefused_489 : decode cL_isRefused 489 = .ok (.bipush 14, 2) := by decide +kernel
theorem dL_isRefused_491 : decode cL_isRefused 491 = .ok (.iload 9, 2) := by decide +kernel
theorem dL_isRefused_493 : decode cL_isRefused 493 = .ok (.iconst 0, 1) := by decide +kernel
theorem dL_isRefused_494 : decode cL_isRefused 494 = .ok (.iconst (-1), 1) := by decide +kernel
theorem dL_isRefused_495 : decode cL_isRefused 495 = .ok (.iconst 0, 1) := by decide +kernel
theorem dL_isRefused_496 : decode cL_isRefused 496 = .ok (.iconst 0, 1) := by decide +kernel
theorem dL_isRefused_497 : decode cL_isRefused 497 = .ok (.invokestatic 241, 3) := by decide +kernel
theorem dL_isRefused_500 : decode cL_isRefused 500 = .ok (.sipush (-1261), 3) := by decide +kernel
theorem dL_isRefused_503 : decode cL_isRefused 503 = .ok (.if_icmp .ne 469, 3) := by decide +kernel
theorem dL_isRefused_506 : decode cL_isRefused 506 = .ok (.aload_n 0, 1) := by decide +kernel
theorem dL_isRefused_507 : decode cL_isRefused 507 = .ok (.bipush 14, 2) := by decide +kernel
theorem dL_isRefused_509 : decode cL_isRefused 509 = .ok (.iconst 0, 1) := by decide +kernel
theorem dL_isRefused_510 : decode cL_isRefused 510 = .ok (.iload 4, 2) := by decide +kernel
theorem dL_isRefused_512 : decode cL_isRefused 512 = .ok (.ifCond .eq 7, 3) := by decide +kernel
theorem dL_isRefused_515 : decode cL_isRefused 515 = .ok (.iconst (-1), 1) := by decide +kernel
theorem dL_isRefused_516 : decode cL_isRefused 516 = .ok (.goto 5, 3) := by decide +kernel
theorem dL_isRefused_519 : decode cL_isRefused 519 = .ok (.bipush 7, 2) := by decide +kernel
theorem dL_isRefused_521 : decode cL_isRefused 521 = .ok (.iconst (-1), 1) := by decide +kernel
theorem dL_isRefused_522 : decode cL_isRefused 522 = .ok (.iconst 0, 1) := by decide +kernel
theorem dL_isRefused_523 : decode cL_isRefused 523 = .ok (.iconst 0, 1) := by decide +kernel
theorem dL_isRefused_524 : decode cL_isRefused 524 = .ok (.invokestatic 241, 3) := by decide +kernel
theorem dL_isRefused_527 : decode cL_isRefused 527 = .ok (.sipush (-1261), 3) := by decide +kernel
theorem dL_isRefused_530 : decode cL_isRefused 530 = .ok (.if_icmp .ne 442, 3) := by decide +kernel
theorem dL_isRefused_533 : decode cL_isRefused 533 = .ok (.aload_n 0, 1) := by decide +kernel
theorem dL_isRefused_534 : decode cL_isRefused 534 = .ok (.bipush 14, 2) := by decide +kernel
theorem dL_isRefused_536 : decode cL_isRefused 536 = .ok (.iconst 0, 1) := by decide +kernel
theorem dL_isRefused_537 : decode cL_isRefused 537 = .ok (.iconst 0, 1) := by decide +kernel
theorem dL_isRefused_538 : decode cL_isRefused 538 = .ok (.iload 4, 2) := by decide +kernel
theorem dL_isRefused_540 : decode cL_isRefused 540 = .ok (.ifCond .eq 12, 3) := by decide +kernel
theorem dL_isRefused_543 : decode cL_isRefused 543 = .ok (.iconst (-1), 1) := by decide +kernel
theorem dL_isRefused_544 : decode cL_isRefused 544 = .ok (.iload_n 3, 1) := by decide +kernel
theorem dL_isRefused_545 : decode cL_isRefused 545 = .ok (.bipush 30, 2) := by decide +kernel
theorem dL_isRefused_547 : decode cL_isRefused 547 = .ok (.irem, 1) := by decide +kernel
theorem dL_isRefused_548 : decode cL_isRefused 548 = .ok (.isub, 1) := by decide +kernel
theorem dL_isRefused_549 : decode cL_isRefused 549 = .ok (.goto 5, 3) := by decide +kernel
theorem dL_isRefused_552 : decode cL_isRefused 552 = .ok (.bipush 64, 2) := by decide +kernel
theorem dL_isRefused_554 : decode cL_isRefused 554 = .ok (.iconst 0, 1) := by decide +kernel
theorem dL_isRefused_555 : decode cL_isRefused 555 = .ok (.iconst 0, 1) := by decide +kernel
theorem dL_isRefused_556 : decode cL_isRefused 556 = .ok (.invokestatic 241, 3) := by decide +kernel
theorem dL_isRefused_559 : decode cL_isRefused 559 = .ok (.sipush (-1262), 3) := by decide +kernel
theorem dL_isRefused_562 : decode cL_isRefused 562 = .ok (.if_icmp .ne 410, 3) := by decide +kernel
theorem dL_isRefused_565 : decode cL_isRefused 565 = .ok (.aload_n 0, 1) := by decide +kernel
theorem dL_isRefused_566 : decode cL_isRefused 566 = .ok (.bipush 16, 2) := by decide +kernel
theorem dL_isRefused_568 : decode cL_isRefused 568 = .ok (.iload 9, 2) := by decide +kernel
theorem dL_isRefused_570 : decode cL_isRefused 570 = .ok (.iconst 0, 1) := by decide +kernel
theorem dL_isRefused_571 : decode cL_isRefused 571 = .ok (.iconst 0, 1) := by decide +kernel
theorem dL_isRefused_572 : decode cL_isRefused 572 = .ok (.iconst 0, 1) := by decide +kernel
theorem dL_isRefused_573 : decode cL_isRefused 573 = .ok (.iconst 0, 1) := by decide +kernel
theorem dL_isRefused_574 : decode cL_isRefused 574 = .ok (.invokestatic 241, 3) := by decide +kernel
theorem dL_isRefused_577 : decode cL_isRefused 577 = .ok (.sipush (-1262), 3) := by decide +kernel
theorem dL_isRefused_580 : decode cL_isRefused 580 = .ok (.if_icmp .ne 392, 3) := by decide +kernel
theorem dL_isRefused_583 : decode cL_isRefused 583 = .ok (.aload_n 0, 1) := by decide +kernel
theorem dL_isRefused_584 : decode cL_isRefused 584 = .ok (.bipush 16, 2) := by decide +kernel
theorem dL_isRefused_586 : decode cL_isRefused 586 = .ok (.iconst 0, 1) := by decide +kernel
theorem dL_isRefused_587 : decode cL_isRefused 587 = .ok (.iconst 0, 1) := by decide +kernel
theorem dL_isRefused_588 : decode cL_isRefused 588 = .ok (.iload 4, 2) := by decide +kernel
theorem dL_isRefused_590 : decode cL_isRefused 590 = .ok (.ifCond .eq 7, 3) := by decide +kernel
theorem dL_isRefused_593 : decode cL_isRefused 593 = .ok (.iconst (-1), 1) := by decide +kernel
theorem dL_isRefused_594 : decode cL_isRefused 594 = .ok (.goto 5, 3) := by decide +kernel
theorem dL_isRefused_597 : decode cL_isRefused 597 = .ok (.bipush 32, 2) := by decide +kernel
theorem dL_isRefused_599 : decode cL_isRefused 599 = .ok (.iconst 0, 1) := by decide +kernel
theorem dL_isRefused_600 : decode cL_isRefused 600 = .ok (.iconst 0, 1) := by decide +kernel
theorem dL_isRefused_601 : decode cL_isRefused 601 = .ok (.invokestatic 241, 3) := by decide +kernel
theorem dL_isRefused_604 : decode cL_isRefused 604 = .ok (.sipush (-1262), 3) := by decide +kernel
theorem dL_isRefused_607 : decode cL_isRefused 607 = .ok (.if_icmp .ne 365, 3) := by decide +kernel
theorem dL_isRefused_610 : decode cL_isRefused 610 = .ok (.aload_n 0, 1) := by decide +kernel
theorem dL_isRefused_611 : decode cL_isRefused 611 = .ok (.bipush 17, 2) := by decide +kernel
theorem dL_isRefused_613 : decode cL_isRefused 613 = .ok (.iload 4, 2) := by decide +kernel
theorem dL_isRefused_615 : decode cL_isRefused 615 = .ok (.ifCond .eq 13, 3) := by decide +kernel
theorem dL_isRefused_618 : decode cL_isRefused 618 = .ok (.bipush 7, 2) := by decide +kernel
theorem dL_isRefused_620 : decode cL_isRefused 620 = .ok (.iload_n 3, 1) := by decide +kernel
theorem dL_isRefused_621 : decode cL_isRefused 621 = .ok (.bipush 30, 2) := by decide +kernel
theorem dL_isRefused_623 : decode cL_isRefused 623 = .ok (.irem, 1) := by decide +kernel
theorem dL_isRefused_624 : decode cL_isRefused 624 = .ok (.isub, 1) := by decide +kernel
theorem dL_isRefused_625 : decode cL_isRefused 625 = .ok (.goto 5, 3) := by decide +kernel
theorem dL_isRefused_628 : decode cL_isRefused 628 = .ok (.bipush 16, 2) := by decide +kernel
theorem dL_isRefused_630 : decode cL_isRefused 630 = .ok (.iconst 0, 1) := by decide +kernel
theorem dL_isRefused_631 : decode cL_isRefused 631 = .ok (.iconst 0, 1) := by decide +kernel
theorem dL_isRefused_632 : decode cL_isRefused 632 = .ok (.iconst 0, 1) := by decide +kernel
theorem dL_isRefused_633 : decode cL_isRefused 633 = .ok (.iconst 0, 1) := by decide +kernel
theorem dL_isRefused_634 : decode cL_isRefused 634 = .ok (.invokestatic 241, 3) := by decide +kernel
theorem dL_isRefused_637 : decode cL_isRefused 637 = .ok (.sipush (-1262), 3) := by decide +kernel
theorem dL_isRefused_640 : decode cL_isRefused 640 = .ok (.if_icmp .ne 332, 3) := by decide +kernel
theorem dL_isRefused_643 : decode cL_isRefused 643 = .ok (.aload_n 0, 1) := by decide +kernel
theorem dL_isRefused_644 : decode cL_isRefused 644 = .ok (.bipush 17, 2) := by decide +kernel
theorem dL_isRefused_646 : decode cL_isRefused 646 = .ok (.bipush 9, 2) := by decide +kernel
theorem dL_isRefused_648 : decode cL_isRefused 648 = .ok (.iload 4, 2) := by decide +kernel
theorem dL_isRefused_650 : decode cL_isRefused 650 = .ok (.ifCond .eq 12, 3) := by decide +kernel
theorem dL_isRefused_653 : decode cL_isRefused 653 = .ok (.iconst (-1), 1) := by decide +kernel
theorem dL_isRefused_654 : decode cL_isRefused 654 = .ok (.iload_n 3, 1) := by decide +kernel
theorem dL_isRefused_655 : decode cL_isRefused 655 = .ok (.bipush 30, 2) := by decide +kernel
theorem dL_isRefused_657 : decode cL_isRefused 657 = .ok (.irem, 1) := by decide +kernel
theorem dL_isRefused_658 : decode cL_isRefused 658 = .ok (.isub, 1) := by decide +kernel
theorem dL_isRefused_659 : decode cL_isRefused 659 = .ok (.goto 5, 3) := by decide +kernel
theorem dL_isRefused_662 : decode cL_isRefused 662 = .ok (.ldc 245, 2) := by decide +kernel
theorem dL_isRefused_664 : decode cL_isRefused 664 = .ok (.iconst 0, 1) := by decide +kernel
theorem dL_isRefused_665 : decode cL_isRefused 665 = .ok (.iconst 0, 1) := by decide +kernel
theorem dL_isRefused_666 : decode cL_isRefused 666 = .ok (.iconst 0, 1) := by decide +kernel
theorem dL_isRefused_667 : decode cL_isRefused 667 = .ok (.invokestatic 241, 3) := by decide +kernel
theorem dL_isRefused_670 : decode cL_isRefused 670 = .ok (.sipush (-1262), 3) := by decide +kernel
theorem dL_isRefused_673 : decode cL_isRefused 673 = .ok (.if_icmp .ne 299, 3) := by decide +kernel
theorem dL_isRefused_676 : decode cL_isRefused 676 = .ok (.aload_n 0, 1) := by decide +kernel
theorem dL_isRefused_677 : decode cL_isRefused 677 = .ok (.bipush 17, 2) := by decide +kernel
theorem dL_isRefused_679 : decode cL_isRefused 679 = .ok (.bipush 9, 2) := by decide +kernel
theorem dL_isRefused_681 : decode cL_isRefused 681 = .ok (.iconst 0, 1) := by decide +kernel
theorem dL_isRefused_682 : decode cL_isRefused 682 = .ok (.iload 4, 2) := by decide +kernel
theorem dL_isRefused_684 : decode cL_isRefused 684 = .ok (.ifCond .eq 12, 3) := by decide +kernel
theorem dL_isRefused_687 : decode cL_isRefused 687 = .ok (.iconst (-1), 1) := by decide +kernel
theorem dL_isRefused_688 : decode cL_isRefused 688 = .ok (.iload_n 3, 1) := by decide +kernel
theorem dL_isRefused_689 : decode cL_isRefused 689 = .ok (.bipush 30, 2) := by decide +kernel
theorem dL_isRefused_691 : decode cL_isRefused 691 = .ok (.irem, 1) := by decide +kernel
theorem dL_isRefused_692 : decode cL_isRefused 692 = .ok (.isub, 1) := by decide +kernel
theorem dL_isRefused_693 : decode cL_isRefused 693 = .ok (.goto 5, 3) := by decide +kernel
theorem dL_isRefused_696 : decode cL_isRefused 696 = .ok (.ldc 245, 2) := by decide +kernel
theorem dL_isRefused_698 : decode cL_isRefused 698 = .ok (.iconst 0, 1) := by decide +kernel
theorem dL_isRefused_699 : decode cL_isRefused 699 = .ok (.iconst 0, 1) := by decide +kernel
theorem dL_isRefused_700 : decode cL_isRefused 700 = .ok (.invokestatic 241, 3) := by decide +kernel
theorem dL_isRefused_703 : decode cL_isRefused 703 = .ok (.sipush (-1262), 3) := by decide +kernel
theorem dL_isRefused_706 : decode cL_isRefused 706 = .ok (.if_icmp .ne 266, 3) := by decide +kernel
theorem dL_isRefused_709 : decode cL_isRefused 709 = .ok (.aload_n 0, 1) := by decide +kernel
theorem dL_isRefused_710 : decode cL_isRefused 710 = .ok (.bipush 17, 2) := by decide +kernel
theorem dL_isRefused_712 : decode cL_isRefused 712 = .ok (.bipush 9, 2) := by decide +kernel
theorem dL_isRefused_714 : decode cL_isRefused 714 = .ok (.iconst 0, 1) := by decide +kernel
theorem dL_isRefused_715 : decode cL_isRefused 715 = .ok (.sipush 512, 3) := by decide +kernel
theorem dL_isRefused_718 : decode cL_isRefused 718 = .ok (.iconst 0, 1) := by decide +kernel
theorem dL_isRefused_719 : decode cL_isRefused 719 = .ok (.iconst 0, 1) := by decide +kernel
theorem dL_isRefused_720 : decode cL_isRefused 720 = .ok (.invokestatic 241, 3) := by decide +kernel
theorem dL_isRefused_723 : decode cL_isRefused 723 = .ok (.sipush (-1263), 3) := by decide +kernel
theorem dL_isRefused_726 : decode cL_isRefused 726 = .ok (.if_icmp .ne 246, 3) := by decide +kernel
theorem dL_isRefused_729 : decode cL_isRefused 729 = .ok (.aload_n 0, 1) := by decide +kernel
theorem dL_isRefused_730 : decode cL_isRefused 730 = .ok (.bipush 18, 2) := by decide +kernel
theorem dL_isRefused_732 : decode cL_isRefused 732 = .ok (.iload 4, 2) := by decide +kernel
theorem dL_isRefused_734 : decode cL_isRefused 734 = .ok (.ifCond .eq 12, 3) := by decide +kernel
theorem dL_isRefused_737 : decode cL_isRefused 737 = .ok (.iconst (-1), 1) := by decide +kernel
theorem dL_isRefused_738 : decode cL_isRefused 738 = .ok (.iload_n 3, 1) := by decide +kernel
theorem dL_isRefused_739 : decode cL_isRefused 739 = .ok (.bipush 30, 2) := by decide +kernel
theorem dL_isRefused_741 : decode cL_isRefused 741 = .ok (.irem, 1) := by decide +kernel
theorem dL_isRefused_742 : decode cL_isRefused 742 = .ok (.isub, 1) := by decide +kernel
theorem dL_isRefused_743 : decode cL_isRefused 743 = .ok (.goto 9, 3) := by decide +kernel
theorem dL_isRefused_746 : decode cL_isRefused 746 = .ok (.iconst 1, 1) := by decide +kernel
theorem dL_isRefused_747 : decode cL_isRefused 747 = .ok (.iload_n 3, 1) := by decide +kernel
theorem dL_isRefused_748 : decode cL_isRefused 748 = .ok (.bipush 30, 2) := by decide +kernel
theorem dL_isRefused_750 : decode cL_isRefused 750 = .ok (.irem, 1) := by decide +kernel
theorem dL_isRefused_751 : decode cL_isRefused 751 = .ok (.iadd, 1) := by decide +kernel
theorem dL_isRefused_752 : decode cL_isRefused 752 = .ok (.iconst 0, 1) := by decide +kernel
theorem dL_isRefused_753 : decode cL_isRefused 753 = .ok (.iconst 0, 1) := by decide +kernel
theorem dL_isRefused_754 : decode cL_isRefused 754 = .ok (.iconst 0, 1) := by decide +kernel
theorem dL_isRefused_755 : decode cL_isRefused 755 = .ok (.iconst 0, 1) := by decide +kernel
theorem dL_isRefused_756 : decode cL_isRefused 756 = .ok (.invokestatic 241, 3) := by decide +kernel
theorem dL_isRefused_759 : decode cL_isRefused 759 = .ok (.sipush (-1261), 3) := by decide +kernel
theorem dL_isRefused_762 : decode cL_isRefused 762 = .ok (.if_icmp .ne 210, 3) := by decide +kernel
theorem dL_isRefused_765 : decode cL_isRefused 765 = .ok (.aload_n 0, 1) := by decide +kernel
theorem dL_isRefused_766 : decode cL_isRefused 766 = .ok (.bipush 19, 2) := by decide +kernel
theorem dL_isRefused_768 : decode cL_isRefused 768 = .ok (.iload 9, 2) := by decide +kernel
theorem dL_isRefused_770 : decode cL_isRefused 770 = .ok (.bipush 9, 2) := by decide +kernel
theorem dL_isRefused_772 : decode cL_isRefused 772 = .ok (.iconst 0, 1) := by decide +kernel
theorem dL_isRefused_773 : decode cL_isRefused 773 = .ok (.iconst 0, 1) := by decide +kernel
theorem dL_isRefused_774 : decode cL_isRefused 774 = .ok (.iconst 0, 1) := by decide +kernel
theorem dL_isRefused_775 : decode cL_isRefused 775 = .ok (.invokestatic 241, 3) := by decide +kernel
theorem dL_isRefused_778 : decode cL_isRefused 778 = .ok (.sipush (-1261), 3) := by decide +kernel
theorem dL_isRefused_781 : decode cL_isRefused 781 = .ok (.if_icmp .ne 191, 3) := by decide +kernel
theorem dL_isRefused_784 : decode cL_isRefused 784 = .ok (.aload_n 0, 1) := by decide +kernel
theorem dL_isRefused_785 : decode cL_isRefused 785 = .ok (.bipush 19, 2) := by decide +kernel
theorem dL_isRefused_787 : decode cL_isRefused 787 = .ok (.iconst 0, 1) := by decide +kernel
theorem dL_isRefused_788 : decode cL_isRefused 788 = .ok (.iload 4, 2) := by decide +kernel
theorem dL_isRefused_790 : decode cL_isRefused 790 = .ok (.ifCond .eq 7, 3) := by decide +kernel
theorem dL_isRefused_793 : decode cL_isRefused 793 = .ok (.iconst (-1), 1) := by decide +kernel
theorem dL_isRefused_794 : decode cL_isRefused 794 = .ok (.goto 4, 3) := by decide +kernel
theorem dL_isRefused_797 : decode cL_isRefused 797 = .ok (.iconst 3, 1) := by decide +kernel
theorem dL_isRefused_798 : decode cL_isRefused 798 = .ok (.iconst 0, 1) := by decide +kernel
theorem dL_isRefused_799 : decode cL_isRefused 799 = .ok (.iconst 0, 1) := by decide +kernel
theorem dL_isRefused_800 : decode cL_isRefused 800 = .ok (.iconst 0, 1) := by decide +kernel
theorem dL_isRefused_801 : decode cL_isRefused 801 = .ok (.invokestatic 241, 3) := by decide +kernel
theorem dL_isRefused_804 : decode cL_isRefused 804 = .ok (.sipush (-1262), 3) := by decide +kernel
theorem dL_isRefused_807 : decode cL_isRefused 807 = .ok (.if_icmp .ne 165, 3) := by decide +kernel
theorem dL_isRefused_810 : decode cL_isRefused 810 = .ok (.aload_n 0, 1) := by decide +kernel
theorem dL_isRefused_811 : decode cL_isRefused 811 = .ok (.bipush 20, 2) := by decide +kernel
theorem dL_isRefused_813 : decode cL_isRefused 813 = .ok (.iload 5, 2) := by decide +kernel
theorem dL_isRefused_815 : decode cL_isRefused 815 = .ok (.iconst 0, 1) := by decide +kernel
theorem dL_isRefused_816 : decode cL_isRefused 816 = .ok (.iconst 0, 1) := by decide +kernel
theorem dL_isRefused_817 : decode cL_isRefused 817 = .ok (.iconst 0, 1) := by decide +kernel
theorem dL_isRefused_818 : decode cL_isRefused 818 = .ok (.iconst 0, 1) := by decide +kernel
theorem dL_isRefused_819 : decode cL_isRefused 819 = .ok (.invokestatic 241, 3) := by decide +kernel
theorem dL_isRefused_822 : decode cL_isRefused 822 = .ok (.sipush (-1261), 3) := by decide +kernel
theorem dL_isRefused_825 : decode cL_isRefused 825 = .ok (.if_icmp .ne 147, 3) := by decide +kernel
theorem dL_isRefused_828 : decode cL_isRefused 828 = .ok (.aload_n 0, 1) := by decide +kernel
theorem dL_isRefused_829 : decode cL_isRefused 829 = .ok (.bipush 21, 2) := by decide +kernel
theorem dL_isRefused_831 : decode cL_isRefused 831 = .ok (.iconst 0, 1) := by decide +kernel
theorem dL_isRefused_832 : decode cL_isRefused 832 = .ok (.iload 6, 2) := by decide +kernel
theorem dL_isRefused_834 : decode cL_isRefused 834 = .ok (.iconst 0, 1) := by decide +kernel
theorem dL_isRefused_835 : decode cL_isRefused 835 = .ok (.iconst 0, 1) := by decide +kernel
theorem dL_isRefused_836 : decode cL_isRefused 836 = .ok (.iconst 0, 1) := by decide +kernel
theorem dL_isRefused_837 : decode cL_isRefused 837 = .ok (.invokestatic 241, 3) := by decide +kernel
theorem dL_isRefused_840 : decode cL_isRefused 840 = .ok (.sipush (-1261), 3) := by decide +kernel
theorem dL_isRefused_843 : decode cL_isRefused 843 = .ok (.if_icmp .ne 129, 3) := by decide +kernel
theorem dL_isRefused_846 : decode cL_isRefused 846 = .ok (.aload_n 0, 1) := by decide +kernel
theorem dL_isRefused_847 : decode cL_isRefused 847 = .ok (.bipush 22, 2) := by decide +kernel
theorem dL_isRefused_849 : decode cL_isRefused 849 = .ok (.iload 4, 2) := by decide +kernel
theorem dL_isRefused_851 : decode cL_isRefused 851 = .ok (.ifCond .eq 12, 3) := by decide +kernel
theorem dL_isRefused_854 : decode cL_isRefused 854 = .ok (.iconst 0, 1) := by decide +kernel
theorem dL_isRefused_855 : decode cL_isRefused 855 = .ok (.iload_n 3, 1) := by decide +kernel
theorem dL_isRefused_856 : decode cL_isRefused 856 = .ok (.bipush 30, 2) := by decide +kernel
theorem dL_isRefused_858 : decode cL_isRefused 858 = .ok (.irem, 1) := by decide +kernel
theorem dL_isRefused_859 : decode cL_isRefused 859 = .ok (.isub, 1) := by decide +kernel
theorem dL_isRefused_860 : decode cL_isRefused 860 = .ok (.goto 5, 3) := by decide +kernel
theorem dL_isRefused_863 : decode cL_isRefused 863 = .ok (.bipush 101, 2) := by decide +kernel
theorem dL_isRefused_865 : decode cL_isRefused 865 = .ok (.iconst 0, 1) := by decide +kernel
theorem dL_isRefused_866 : decode cL_isRefused 866 = .ok (.iconst 0, 1) := by decide +kernel
theorem dL_isRefused_867 : decode cL_isRefused 867 = .ok (.iconst 0, 1) := by decide +kernel
theorem dL_isRefused_868 : decode cL_isRefused 868 = .ok (.iconst 0, 1) := by decide +kernel
theorem dL_isRefused_869 : decode cL_isRefused 869 = .ok (.invokestatic 241, 3) := by decide +kernel
theorem dL_isRefused_872 : decode cL_isRefused 872 = .ok (.sipush (-1262), 3) := by decide +kernel
theorem dL_isRefused_875 : decode cL_isRefused 875 = .ok (.if_icmp .ne 97, 3) := by decide +kernel
theorem dL_isRefused_878 : decode cL_isRefused 878 = .ok (.aload_n 0, 1) := by decide +kernel
theorem dL_isRefused_879 : decode cL_isRefused 879 = .ok (.bipush 23, 2) := by decide +kernel
theorem dL_isRefused_881 : decode cL_isRefused 881 = .ok (.iload 5, 2) := by decide +kernel
theorem dL_isRefused_883 : decode cL_isRefused 883 = .ok (.iconst 0, 1) := by decide +kernel
theorem dL_isRefused_884 : decode cL_isRefused 884 = .ok (.iconst 0, 1) := by decide +kernel
theorem dL_isRefused_885 : decode cL_isRefused 885 = .ok (.iconst 0, 1) := by decide +kernel
theorem dL_isRefused_886 : decode cL_isRefused 886 = .ok (.iconst 0, 1) := by decide +kernel
theorem dL_isRefused_887 : decode cL_isRefused 887 = .ok (.invokestatic 241, 3) := by decide +kernel
theorem dL_isRefused_890 : decode cL_isRefused 890 = .ok (.sipush (-1261), 3) := by decide +kernel
theorem dL_isRefused_893 : decode cL_isRefused 893 = .ok (.if_icmp .ne 79, 3) := by decide +kernel
theorem dL_isRefused_896 : decode cL_isRefused 896 = .ok (.aload_n 0, 1) := by decide +kernel
theorem dL_isRefused_897 : decode cL_isRefused 897 = .ok (.bipush 24, 2) := by decide +kernel
theorem dL_isRefused_899 : decode cL_isRefused 899 = .ok (.iload 9, 2) := by decide +kernel
theorem dL_isRefused_901 : decode cL_isRefused 901 = .ok (.iconst 0, 1) := by decide +kernel
theorem dL_isRefused_902 : decode cL_isRefused 902 = .ok (.iconst 1, 1) := by decide +kernel
theorem dL_isRefused_903 : decode cL_isRefused 903 = .ok (.iconst 0, 1) := by decide +kernel
theorem dL_isRefused_904 : decode cL_isRefused 904 = .ok (.iconst 0, 1) := by decide +kernel
theorem dL_isRefused_905 : decode cL_isRefused 905 = .ok (.invokestatic 241, 3) := by decide +kernel
theorem dL_isRefused_908 : decode cL_isRefused 908 = .ok (.sipush (-1261), 3) := by decide +kernel
theorem dL_isRefused_911 : decode cL_isRefused 911 = .ok (.if_icmp .ne 61, 3) := by decide +kernel
theorem dL_isRefused_914 : decode cL_isRefused 914 = .ok (.aload_n 0, 1) := by decide +kernel
theorem dL_isRefused_915 : decode cL_isRefused 915 = .ok (.bipush 25, 2) := by decide +kernel
theorem dL_isRefused_917 : decode cL_isRefused 917 = .ok (.iload 5, 2) := by decide +kernel
theorem dL_isRefused_919 : decode cL_isRefused 919 = .ok (.iconst 0, 1) := by decide +kernel
theorem dL_isRefused_920 : decode cL_isRefused 920 = .ok (.iconst 1, 1) := by decide +kernel
theorem dL_isRefused_921 : decode cL_isRefused 921 = .ok (.iconst 0, 1) := by decide +kernel
theorem dL_isRefused_922 : decode cL_isRefused 922 = .ok (.iconst 0, 1) := by decide +kernel
theorem dL_isRefused_923 : decode cL_isRefused 923 = .ok (.invokestatic 241, 3) := by decide +kernel
theorem dL_isRefused_926 : decode cL_isRefused 926 = .ok (.sipush (-1261), 3) := by decide +kernel
theorem dL_isRefused_929 : decode cL_isRefused 929 = .ok (.if_icmp .ne 43, 3) := by decide +kernel
theorem dL_isRefused_932 : decode cL_isRefused 932 = .ok (.aload_n 0, 1) := by decide +kernel
theorem dL_isRefused_933 : decode cL_isRefused 933 = .ok (.iconst 0, 1) := by decide +kernel
theorem dL_isRefused_934 : decode cL_isRefused 934 = .ok (.iload 6, 2) := by decide +kernel
theorem dL_isRefused_936 : decode cL_isRefused 936 = .ok (.iconst 0, 1) := by decide +kernel
theorem dL_isRefused_937 : decode cL_isRefused 937 = .ok (.iconst 0, 1) := by decide +kernel
theorem dL_isRefused_938 : decode cL_isRefused 938 = .ok (.iconst 0, 1) := by decide +kernel
theorem dL_isRefused_939 : decode cL_isRefused 939 = .ok (.iconst 0, 1) := by decide +kernel
theorem dL_isRefused_940 : decode cL_isRefused 940 = .ok (.invokestatic 246, 3) := by decide +kernel
theorem dL_isRefused_943 : decode cL_isRefused 943 = .ok (.sipush (-1261), 3) := by decide +kernel
theorem dL_isRefused_946 : decode cL_isRefused 946 = .ok (.if_icmp .ne 26, 3) := by decide +kernel
theorem dL_isRefused_949 : decode cL_isRefused 949 = .ok (.aload_n 0, 1) := by decide +kernel
theorem dL_isRefused_950 : decode cL_isRefused 950 = .ok (.iload 6, 2) := by decide +kernel
theorem dL_isRefused_952 : decode cL_isRefused 952 = .ok (.iconst 0, 1) := by decide +kernel
theorem dL_isRefused_953 : decode cL_isRefused 953 = .ok (.iconst 0, 1) := by decide +kernel
theorem dL_isRefused_954 : decode cL_isRefused 954 = .ok (.iconst 0, 1) := by decide +kernel
theorem dL_isRefused_955 : decode cL_isRefused 955 = .ok (.iconst 0, 1) := by decide +kernel
theorem dL_isRefused_956 : decode cL_isRefused 956 = .ok (.sipush 500, 3) := by decide +kernel
theorem dL_isRefused_959 : decode cL_isRefused 959 = .ok (.invokestatic 249, 3) := by decide +kernel
theorem dL_isRefused_962 : decode cL_isRefused 962 = .ok (.sipush (-1261), 3) := by decide +kernel
theorem dL_isRefused_965 : decode cL_isRefused 965 = .ok (.if_icmp .ne 7, 3) := by decide +kernel
theorem dL_isRefused_968 : decode cL_isRefused 968 = .ok (.iconst 1, 1) := by decide +kernel
theorem dL_isRefused_969 : decode cL_isRefused 969 = .ok (.goto 4, 3) := by decide +kernel
theorem dL_isRefused_972 : decode cL_isRefused 972 = .ok (.iconst 0, 1) := by decide +kernel
theorem dL_isRefused_973 : decode cL_isRefused 973 = .ok (.istore 12, 2) := by decide +kernel
theorem dL_isRefused_975 : decode cL_isRefused 975 = .ok (.iconst 0, 1) := by decide +kernel
theorem dL_isRefused_976 : decode cL_isRefused 976 = .ok (.istore 13, 2) := by decide +kernel
theorem dL_isRefused_978 : decode cL_isRefused 978 = .ok (.iload 13, 2) := by decide +kernel
theorem dL_isRefused_980 : decode cL_isRefused 980 = .ok (.aload_n 0, 1) := by decide +kernel
theorem dL_isRefused_981 : decode cL_isRefused 981 = .ok (.invokevirtual 187, 3) := by decide +kernel
theorem dL_isRefused_984 : decode cL_isRefused 984 = .ok (.if_icmp .ge 454, 3) := by decide +kernel
theorem dL_isRefused_987 : decode cL_isRefused 987 = .ok (.iload 12, 2) := by decide +kernel
theorem dL_isRefused_989 : decode cL_isRefused 989 = .ok (.ifCond .eq 449, 3) := by decide +kernel
theorem dL_isRefused_992 : decode cL_isRefused 992 = .ok (.iload 4, 2) := by decide +kernel
