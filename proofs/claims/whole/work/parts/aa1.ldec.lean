/-! the law's instructions -/
theorem dL_law_529 : decode mL_law.2.1 529 = .ok (.iadd, 1) := by decide +kernel
theorem dL_law_530 : decode mL_law.2.1 530 = .ok (.iaload, 1) := by decide +kernel
theorem dL_law_531 : decode mL_law.2.1 531 = .ok (.invokevirtual 64, 3) := by decide +kernel
theorem dL_law_534 : decode mL_law.2.1 534 = .ok (.aload_n 2, 1) := by decide +kernel
theorem dL_law_535 : decode mL_law.2.1 535 = .ok (.aload_n 0, 1) := by decide +kernel
theorem dL_law_536 : decode mL_law.2.1 536 = .ok (.iload 4, 2) := by decide +kernel
theorem dL_law_538 : decode mL_law.2.1 538 = .ok (.iconst 1, 1) := by decide +kernel
theorem dL_law_539 : decode mL_law.2.1 539 = .ok (.iadd, 1) := by decide +kernel
theorem dL_law_540 : decode mL_law.2.1 540 = .ok (.iaload, 1) := by decide +kernel
theorem dL_law_541 : decode mL_law.2.1 541 = .ok (.invokevirtual 67, 3) := by decide +kernel
theorem dL_law_544 : decode mL_law.2.1 544 = .ok (.if_icmp .eq 1013, 3) := by decide +kernel
theorem dL_law_547 : decode mL_law.2.1 547 = .ok (.iconst 0, 1) := by decide +kernel
theorem dL_law_548 : decode mL_law.2.1 548 = .ok (.ireturn, 1) := by decide +kernel
theorem dL_law_549 : decode mL_law.2.1 549 = .ok (.aload_n 1, 1) := by decide +kernel
theorem dL_law_550 : decode mL_law.2.1 550 = .ok (.aload_n 0, 1) := by decide +kernel
theorem dL_law_551 : decode mL_law.2.1 551 = .ok (.iload 4, 2) := by decide +kernel
theorem dL_law_553 : decode mL_law.2.1 553 = .ok (.iconst 1, 1) := by decide +kernel
theorem dL_law_554 : decode mL_law.2.1 554 = .ok (.iadd, 1) := by decide +kernel
theorem dL_law_555 : decode mL_law.2.1 555 = .ok (.iaload, 1) := by decide +kernel
theorem dL_law_556 : decode mL_law.2.1 556 = .ok (.invokevirtual 68, 3) := by decide +kernel
theorem dL_law_559 : decode mL_law.2.1 559 = .ok (.aload_n 2, 1) := by decide +kernel
theorem dL_law_560 : decode mL_law.2.1 560 = .ok (.aload_n 0, 1) := by decide +kernel
theorem dL_law_561 : decode mL_law.2.1 561 = .ok (.iload 4, 2) := by decide +kernel
theorem dL_law_563 : decode mL_law.2.1 563 = .ok (.iconst 1, 1) := by decide +kernel
theorem dL_law_564 : decode mL_law.2.1 564 = .ok (.iadd, 1) := by decide +kernel
theorem dL_law_565 : decode mL_law.2.1 565 = .ok (.iaload, 1) := by decide +kernel
theorem dL_law_566 : decode mL_law.2.1 566 = .ok (.invokevirtual 71, 3) := by decide +kernel
theorem dL_law_569 : decode mL_law.2.1 569 = .ok (.if_icmp .eq 988, 3) := by decide +kernel
theorem dL_law_572 : decode mL_law.2.1 572 = .ok (.iconst 0, 1) := by decide +kernel
theorem dL_law_573 : decode mL_law.2.1 573 = .ok (.ireturn, 1) := by decide +kernel
theorem dL_law_574 : decode mL_law.2.1 574 = .ok (.aload_n 1, 1) := by decide +kernel
theorem dL_law_575 : decode mL_law.2.1 575 = .ok (.aload_n 0, 1) := by decide +kernel
theorem dL_law_576 : decode mL_law.2.1 576 = .ok (.iload 4, 2) := by decide +kernel
theorem dL_law_578 : decode mL_law.2.1 578 = .ok (.iconst 1, 1) := by decide +kernel
theorem dL_law_579 : decode mL_law.2.1 579 = .ok (.iadd, 1) := by decide +kernel
theorem dL_law_580 : decode mL_law.2.1 580 = .ok (.iaload, 1) := by decide +kernel
theorem dL_law_581 : decode mL_law.2.1 581 = .ok (.invokevirtual 72, 3) := by decide +kernel
theorem dL_law_584 : decode mL_law.2.1 584 = .ok (.aload_n 2, 1) := by decide +kernel
theorem dL_law_585 : decode mL_law.2.1 585 = .ok (.aload_n 0, 1) := by decide +kernel
theorem dL_law_586 : decode mL_law.2.1 586 = .ok (.iload 4, 2) := by decide +kernel
theorem dL_law_588 : decode mL_law.2.1 588 = .ok (.iconst 1, 1) := by decide +kernel
theorem dL_law_589 : decode mL_law.2.1 589 = .ok (.iadd, 1) := by decide +kernel
theorem dL_law_590 : decode mL_law.2.1 590 = .ok (.iaload, 1) := by decide +kernel
theorem dL_law_591 : decode mL_law.2.1 591 = .ok (.invokevirtual 75, 3) := by decide +kernel
theorem dL_law_594 : decode mL_law.2.1 594 = .ok (.if_icmp .eq 963, 3) := by decide +kernel
theorem dL_law_597 : decode mL_law.2.1 597 = .ok (.iconst 0, 1) := by decide +kernel
theorem dL_law_598 : decode mL_law.2.1 598 = .ok (.ireturn, 1) := by decide +kernel
theorem dL_law_599 : decode mL_law.2.1 599 = .ok (.aload_n 1, 1) := by decide +kernel
theorem dL_law_600 : decode mL_law.2.1 600 = .ok (.aload_n 0, 1) := by decide +kernel
theorem dL_law_601 : decode mL_law.2.1 601 = .ok (.iload 4, 2) := by decide +kernel
theorem dL_law_603 : decode mL_law.2.1 603 = .ok (.iconst 1, 1) := by decide +kernel
theorem dL_law_604 : decode mL_law.2.1 604 = .ok (.iadd, 1) := by decide +kernel
theorem dL_law_605 : decode mL_law.2.1 605 = .ok (.iaload, 1) := by decide +kernel
theorem dL_law_606 : decode mL_law.2.1 606 = .ok (.aload_n 0, 1) := by decide +kernel
theorem dL_law_607 : decode mL_law.2.1 607 = .ok (.iload 4, 2) := by decide +kernel
theorem dL_law_609 : decode mL_law.2.1 609 = .ok (.iconst 2, 1) := by decide +kernel
theorem dL_law_610 : decode mL_law.2.1 610 = .ok (.iadd, 1) := by decide +kernel
theorem dL_law_611 : decode mL_law.2.1 611 = .ok (.iaload, 1) := by decide +kernel
theorem dL_law_612 : decode mL_law.2.1 612 = .ok (.invokevirtual 76, 3) := by decide +kernel
theorem dL_law_615 : decode mL_law.2.1 615 = .ok (.aload_n 2, 1) := by decide +kernel
theorem dL_law_616 : decode mL_law.2.1 616 = .ok (.aload_n 0, 1) := by decide +kernel
theorem dL_law_617 : decode mL_law.2.1 617 = .ok (.iload 4, 2) := by decide +kernel
theorem dL_law_619 : decode mL_law.2.1 619 = .ok (.iconst 1, 1) := by decide +kernel
theorem dL_law_620 : decode mL_law.2.1 620 = .ok (.iadd, 1) := by decide +kernel
theorem dL_law_621 : decode mL_law.2.1 621 = .ok (.iaload, 1) := by decide +kernel
theorem dL_law_622 : decode mL_law.2.1 622 = .ok (.aload_n 0, 1) := by decide +kernel
theorem dL_law_623 : decode mL_law.2.1 623 = .ok (.iload 4, 2) := by decide +kernel
theorem dL_law_625 : decode mL_law.2.1 625 = .ok (.iconst 2, 1) := by decide +kernel
theorem dL_law_626 : decode mL_law.2.1 626 = .ok (.iadd, 1) := by decide +kernel
theorem dL_law_627 : decode mL_law.2.1 627 = .ok (.iaload, 1) := by decide +kernel
theorem dL_law_628 : decode mL_law.2.1 628 = .ok (.invokevirtual 79, 3) := by decide +kernel
theorem dL_law_631 : decode mL_law.2.1 631 = .ok (.if_icmp .eq 926, 3) := by decide +kernel
theorem dL_law_634 : decode mL_law.2.1 634 = .ok (.iconst 0, 1) := by decide +kernel
theorem dL_law_635 : decode mL_law.2.1 635 = .ok (.ireturn, 1) := by decide +kernel
theorem dL_law_636 : decode mL_law.2.1 636 = .ok (.aload_n 1, 1) := by decide +kernel
theorem dL_law_637 : decode mL_law.2.1 637 = .ok (.aload_n 0, 1) := by decide +kernel
theorem dL_law_638 : decode mL_law.2.1 638 = .ok (.iload 4, 2) := by decide +kernel
theorem dL_law_640 : decode mL_law.2.1 640 = .ok (.iconst 1, 1) := by decide +kernel
theorem dL_law_641 : decode mL_law.2.1 641 = .ok (.iadd, 1) := by decide +kernel
theorem dL_law_642 : decode mL_law.2.1 642 = .ok (.iaload, 1) := by decide +kernel
theorem dL_law_643 : decode mL_law.2.1 643 = .ok (.invokevirtual 80, 3) := by decide +kernel
theorem dL_law_646 : decode mL_law.2.1 646 = .ok (.aload_n 2, 1) := by decide +kernel
theorem dL_law_647 : decode mL_law.2.1 647 = .ok (.aload_n 0, 1) := by decide +kernel
theorem dL_law_648 : decode mL_law.2.1 648 = .ok (.iload 4, 2) := by decide +kernel
theorem dL_law_650 : decode mL_law.2.1 650 = .ok (.iconst 1, 1) := by decide +kernel
theorem dL_law_651 : decode mL_law.2.1 651 = .ok (.iadd, 1) := by decide +kernel
theorem dL_law_652 : decode mL_law.2.1 652 = .ok (.iaload, 1) := by decide +kernel
theorem dL_law_653 : decode mL_law.2.1 653 = .ok (.invokevirtual 83, 3) := by decide +kernel
theorem dL_law_656 : decode mL_law.2.1 656 = .ok (.if_icmp .eq 901, 3) := by decide +kernel
theorem dL_law_659 : decode mL_law.2.1 659 = .ok (.iconst 0, 1) := by decide +kernel
theorem dL_law_660 : decode mL_law.2.1 660 = .ok (.ireturn, 1) := by decide +kernel
theorem dL_law_661 : decode mL_law.2.1 661 = .ok (.aload_n 1, 1) := by decide +kernel
theorem dL_law_662 : decode mL_law.2.1 662 = .ok (.aload_n 0, 1) := by decide +kernel
theorem dL_law_663 : decode mL_law.2.1 663 = .ok (.iload 4, 2) := by decide +kernel
theorem dL_law_665 : decode mL_law.2.1 665 = .ok (.iconst 1, 1) := by decide +kernel
theorem dL_law_666 : decode mL_law.2.1 666 = .ok (.iadd, 1) := by decide +kernel
theorem dL_law_667 : decode mL_law.2.1 667 = .ok (.iaload, 1) := by decide +kernel
theorem dL_law_668 : decode mL_law.2.1 668 = .ok (.aload_n 0, 1) := by decide +kernel
theorem dL_law_669 : decode mL_law.2.1 669 = .ok (.iload 4, 2) := by decide +kernel
theorem dL_law_671 : decode mL_law.2.1 671 = .ok (.iconst 2, 1) := by decide +kernel
theorem dL_law_672 : decode mL_law.2.1 672 = .ok (.iadd, 1) := by decide +kernel
theorem dL_law_673 : decode mL_law.2.1 673 = .ok (.iaload, 1) := by decide +kernel
theorem dL_law_674 : decode mL_law.2.1 674 = .ok (.i2l, 1) := by decide +kernel
theorem dL_law_675 : decode mL_law.2.1 675 = .ok (.bipush 32, 2) := by decide +kernel
theorem dL_law_677 : decode mL_law.2.1 677 = .ok (.lshl, 1) := by decide +kernel
theorem dL_law_678 : decode mL_law.2.1 678 = .ok (.aload_n 0, 1) := by decide +kernel
theorem dL_law_679 : decode mL_law.2.1 679 = .ok (.iload 4, 2) := by decide +kernel
theorem dL_law_681 : decode mL_law.2.1 681 = .ok (.iconst 3, 1) := by decide +kernel
theorem dL_law_682 : decode mL_law.2.1 682 = .ok (.iadd, 1) := by decide +kernel
theorem dL_law_683 : decode mL_law.2.1 683 = .ok (.iaload, 1) := by decide +kernel
theorem dL_law_684 : decode mL_law.2.1 684 = .ok (.i2l, 1) := by decide +kernel
theorem dL_law_685 : decode mL_law.2.1 685 = .ok (.ldc2_w 84, 3) := by decide +kernel
theorem dL_law_688 : decode mL_law.2.1 688 = .ok (.land, 1) := by decide +kernel
theorem dL_law_689 : decode mL_law.2.1 689 = .ok (.lor, 1) := by decide +kernel
theorem dL_law_690 : decode mL_law.2.1 690 = .ok (.invokevirtual 86, 3) := by decide +kernel
theorem dL_law_693 : decode mL_law.2.1 693 = .ok (.aload_n 2, 1) := by decide +kernel
theorem dL_law_694 : decode mL_law.2.1 694 = .ok (.aload_n 0, 1) := by decide +kernel
theorem dL_law_695 : decode mL_law.2.1 695 = .ok (.iload 4, 2) := by decide +kernel
theorem dL_law_697 : decode mL_law.2.1 697 = .ok (.iconst 1, 1) := by decide +kernel
theorem dL_law_698 : decode mL_law.2.1 698 = .ok (.iadd, 1) := by decide +kernel
theorem dL_law_699 : decode mL_law.2.1 699 = .ok (.iaload, 1) := by decide +kernel
theorem dL_law_700 : decode mL_law.2.1 700 = .ok (.aload_n 0, 1) := by decide +kernel
theorem dL_law_701 : decode mL_law.2.1 701 = .ok (.iload 4, 2) := by decide +kernel
theorem dL_law_703 : decode mL_law.2.1 703 = .ok (.iconst 2, 1) := by decide +kernel
theorem dL_law_704 : decode mL_law.2.1 704 = .ok (.iadd, 1) := by decide +kernel
theorem dL_law_705 : decode mL_law.2.1 705 = .ok (.iaload, 1) := by decide +kernel
theorem dL_law_706 : decode mL_law.2.1 706 = .ok (.i2l, 1) := by decide +kernel
theorem dL_law_707 : decode mL_law.2.1 707 = .ok (.bipush 32, 2) := by decide +kernel
theorem dL_law_709 : decode mL_law.2.1 709 = .ok (.lshl, 1) := by decide +kernel
theorem dL_law_710 : decode mL_law.2.1 710 = .ok (.aload_n 0, 1) := by decide +kernel
theorem dL_law_711 : decode mL_law.2.1 711 = .ok (.iload 4, 2) := by decide +kernel
theorem dL_law_713 : decode mL_law.2.1 713 = .ok (.iconst 3, 1) := by decide +kernel
theorem dL_law_714 : decode mL_law.2.1 714 = .ok (.iadd, 1) := by decide +kernel
theorem dL_law_715 : decode mL_law.2.1 715 = .ok (.iaload, 1) := by decide +kernel
theorem dL_law_716 : decode mL_law.2.1 716 = .ok (.i2l, 1) := by decide +kernel
theorem dL_law_717 : decode mL_law.2.1 717 = .ok (.ldc2_w 84, 3) := by decide +kernel
theorem dL_law_720 : decode mL_law.2.1 720 = .ok (.land, 1) := by decide +kernel
theorem dL_law_721 : decode mL_law.2.1 721 = .ok (.lor, 1) := by decide +kernel
theorem dL_law_722 : decode mL_law.2.1 722 = .ok (.invokevirtual 90, 3) := by decide +kernel
theorem dL_law_725 : decode mL_law.2.1 725 = .ok (.if_icmp .eq 832, 3) := by decide +kernel
theorem dL_law_728 : decode mL_law.2.1 728 = .ok (.iconst 0, 1) := by decide +kernel
theorem dL_law_729 : decode mL_law.2.1 729 = .ok (.ireturn, 1) := by decide +kernel
theorem dL_law_730 : decode mL_law.2.1 730 = .ok (.aload_n 1, 1) := by decide +kernel
theorem dL_law_731 : decode mL_law.2.1 731 = .ok (.invokevirtual 91, 3) := by decide +kernel
theorem dL_law_734 : decode mL_law.2.1 734 = .ok (.aload_n 2, 1) := by decide +kernel
theorem dL_law_735 : decode mL_law.2.1 735 = .ok (.invokevirtual 94, 3) := by decide +kernel
theorem dL_law_738 : decode mL_law.2.1 738 = .ok (.if_icmp .eq 819, 3) := by decide +kernel
theorem dL_law_741 : decode mL_law.2.1 741 = .ok (.iconst 0, 1) := by decide +kernel
theorem dL_law_742 : decode mL_law.2.1 742 = .ok (.ireturn, 1) := by decide +kernel
theorem dL_law_743 : decode mL_law.2.1 743 = .ok (.aload_n 1, 1) := by decide +kernel
theorem dL_law_744 : decode mL_law.2.1 744 = .ok (.aload_n 0, 1) := by decide +kernel
theorem dL_law_745 : decode mL_law.2.1 745 = .ok (.iload 4, 2) := by decide +kernel
theorem dL_law_747 : decode mL_law.2.1 747 = .ok (.iconst 1, 1) := by decide +kernel
theorem dL_law_748 : decode mL_law.2.1 748 = .ok (.iadd, 1) := by decide +kernel
theorem dL_law_749 : decode mL_law.2.1 749 = .ok (.iaload, 1) := by decide +kernel
theorem dL_law_750 : decode mL_law.2.1 750 = .ok (.aload_n 0, 1) := by decide +kernel
theorem dL_law_751 : decode mL_law.2.1 751 = .ok (.iload 4, 2) := by decide +kernel
theorem dL_law_753 : decode mL_law.2.1 753 = .ok (.iconst 2, 1) := by decide +kernel
theorem dL_law_754 : decode mL_law.2.1 754 = .ok (.iadd, 1) := by decide +kernel
theorem dL_law_755 : decode mL_law.2.1 755 = .ok (.iaload, 1) := by decide +kernel
theorem dL_law_756 : decode mL_law.2.1 756 = .ok (.invokevirtual 95, 3) := by decide +kernel
theorem dL_law_759 : decode mL_law.2.1 759 = .ok (.aload_n 2, 1) := by decide +kernel
theorem dL_law_760 : decode mL_law.2.1 760 = .ok (.aload_n 0, 1) := by decide +kernel
theorem dL_law_761 : decode mL_law.2.1 761 = .ok (.iload 4, 2) := by decide +kernel
theorem dL_law_763 : decode mL_law.2.1 763 = .ok (.iconst 1, 1) := by decide +kernel
theorem dL_law_764 : decode mL_law.2.1 764 = .ok (.iadd, 1) := by decide +kernel
theorem dL_law_765 : decode mL_law.2.1 765 = .ok (.iaload, 1) := by decide +kernel
theorem dL_law_766 : decode mL_law.2.1 766 = .ok (.aload_n 0, 1) := by decide +kernel
theorem dL_law_767 : decode mL_law.2.1 767 = .ok (.iload 4, 2) := by decide +kernel
theorem dL_law_769 : decode mL_law.2.1 769 = .ok (.iconst 2, 1) := by decide +kernel
theorem dL_law_770 : decode mL_law.2.1 770 = .ok (.iadd, 1) := by decide +kernel
theorem dL_law_771 : decode mL_law.2.1 771 = .ok (.iaload, 1) := by decide +kernel
theorem dL_law_772 : decode mL_law.2.1 772 = .ok (.invokevirtual 98, 3) := by decide +kernel
theorem dL_law_775 : decode mL_law.2.1 775 = .ok (.if_icmp .eq 782, 3) := by decide +kernel
theorem dL_law_778 : decode mL_law.2.1 778 = .ok (.iconst 0, 1) := by decide +kernel
theorem dL_law_779 : decode mL_law.2.1 779 = .ok (.ireturn, 1) := by decide +kernel
theorem dL_law_780 : decode mL_law.2.1 780 = .ok (.aload_n 1, 1) := by decide +kernel
theorem dL_law_781 : decode mL_law.2.1 781 = .ok (.aload_n 0, 1) := by decide +kernel
theorem dL_law_782 : decode mL_law.2.1 782 = .ok (.iload 4, 2) := by decide +kernel
theorem dL_law_784 : decode mL_law.2.1 784 = .ok (.iconst 1, 1) := by decide +kernel
theorem dL_law_785 : decode mL_law.2.1 785 = .ok (.iadd, 1) := by decide +kernel
theorem dL_law_786 : decode mL_law.2.1 786 = .ok (.iaload, 1) := by decide +kernel
theorem dL_law_787 : decode mL_law.2.1 787 = .ok (.aload_n 0, 1) := by decide +kernel
theorem dL_law_788 : decode mL_law.2.1 788 = .ok (.iload 4, 2) := by decide +kernel
theorem dL_law_790 : decode mL_law.2.1 790 = .ok (.iconst 2, 1) := by decide +kernel
theorem dL_law_791 : decode mL_law.2.1 791 = .ok (.iadd, 1) := by decide +kernel
theorem dL_law_792 : decode mL_law.2.1 792 = .ok (.iaload, 1) := by decide +kernel
theorem dL_law_793 : decode mL_law.2.1 793 = .ok (.aload_n 0, 1) := by decide +kernel
theorem dL_law_794 : decode mL_law.2.1 794 = .ok (.iload 4, 2) := by decide +kernel
theorem dL_law_796 : decode mL_law.2.1 796 = .ok (.iconst 3, 1) := by decide +kernel
theorem dL_law_797 : decode mL_law.2.1 797 = .ok (.iadd, 1) := by decide +kernel
theorem dL_law_798 : decode mL_law.2.1 798 = .ok (.iaload, 1) := by decide +kernel
theorem dL_law_799 : decode mL_law.2.1 799 = .ok (.invokevirtual 99, 3) := by decide +kernel
theorem dL_law_802 : decode mL_law.2.1 802 = .ok (.aload_n 2, 1) := by decide +kernel
theorem dL_law_803 : decode mL_law.2.1 803 = .ok (.aload_n 0, 1) := by decide +kernel
theorem dL_law_804 : decode mL_law.2.1 804 = .ok (.iload 4, 2) := by decide +kernel
theorem dL_law_806 : decode mL_law.2.1 806 = .ok (.iconst 1, 1) := by decide +kernel
theorem dL_law_807 : decode mL_law.2.1 807 = .ok (.iadd, 1) := by decide +kernel
theorem dL_law_808 : decode mL_law.2.1 808 = .ok (.iaload, 1) := by decide +kernel
theorem dL_law_809 : decode mL_law.2.1 809 = .ok (.aload_n 0, 1) := by decide +kernel
theorem dL_law_810 : decode mL_law.2.1 810 = .ok (.iload 4, 2) := by decide +kernel
theorem dL_law_812 : decode mL_law.2.1 812 = .ok (.iconst 2, 1) := by decide +kernel
theorem dL_law_813 : decode mL_law.2.1 813 = .ok (.iadd, 1) := by decide +kernel
theorem dL_law_814 : decode mL_law.2.1 814 = .ok (.iaload, 1) := by decide +kernel
theorem dL_law_815 : decode mL_law.2.1 815 = .ok (.aload_n 0, 1) := by decide +kernel
theorem dL_law_816 : decode mL_law.2.1 816 = .ok (.iload 4, 2) := by decide +kernel
theorem dL_law_818 : decode mL_law.2.1 818 = .ok (.iconst 3, 1) := by decide +kernel
theorem dL_law_819 : decode mL_law.2.1 819 = .ok (.iadd, 1) := by decide +kernel
theorem dL_law_820 : decode mL_law.2.1 820 = .ok (.iaload, 1) := by decide +kernel
theorem dL_law_821 : decode mL_law.2.1 821 = .ok (.invokevirtual 103, 3) := by decide +kernel
theorem dL_law_824 : decode mL_law.2.1 824 = .ok (.if_icmp .eq 733, 3) := by decide +kernel
theorem dL_law_827 : decode mL_law.2.1 827 = .ok (.iconst 0, 1) := by decide +kernel
theorem dL_law_828 : decode mL_law.2.1 828 = .ok (.ireturn, 1) := by decide +kernel
theorem dL_law_829 : decode mL_law.2.1 829 = .ok (.aload_n 1, 1) := by decide +kernel
theorem dL_law_830 : decode mL_law.2.1 830 = .ok (.aload_n 0, 1) := by decide +kernel
theorem dL_law_831 : decode mL_law.2.1 831 = .ok (.iload 4, 2) := by decide +kernel
theorem dL_law_833 : decode mL_law.2.1 833 = .ok (.iconst 1, 1) := by decide +kernel
theorem dL_law_834 : decode mL_law.2.1 834 = .ok (.iadd, 1) := by decide +kernel
theorem dL_law_835 : decode mL_law.2.1 835 = .ok (.iaload, 1) := by decide +kernel
theorem dL_law_836 : decode mL_law.2.1 836 = .ok (.aload_n 0, 1) := by decide +kernel
theorem dL_law_837 : decode mL_law.2.1 837 = .ok (.iload 4, 2) := by decide +kernel
theorem dL_law_839 : decode mL_law.2.1 839 = .ok (.iconst 2, 1) := by decide +kernel
theorem dL_law_840 : decode mL_law.2.1 840 = .ok (.iadd, 1) := by decide +kernel
theorem dL_law_841 : decode mL_law.2.1 841 = .ok (.iaload, 1) := by decide +kernel
theorem dL_law_842 : decode mL_law.2.1 842 = .ok (.invokevirtual 104, 3) := by decide +kernel
theorem dL_law_845 : decode mL_law.2.1 845 = .ok (.aload_n 2, 1) := by decide +kernel
theorem dL_law_846 : decode mL_law.2.1 846 = .ok (.aload_n 0, 1) := by decide +kernel
theorem dL_law_847 : decode mL_law.2.1 847 = .ok (.iload 4, 2) := by decide +kernel
theorem dL_law_849 : decode mL_law.2.1 849 = .ok (.iconst 1, 1) := by decide +kernel
theorem dL_law_850 : decode mL_law.2.1 850 = .ok (.iadd, 1) := by decide +kernel
theorem dL_law_851 : decode mL_law.2.1 851 = .ok (.iaload, 1) := by decide +kernel
theorem dL_law_852 : decode mL_law.2.1 852 = .ok (.aload_n 0, 1) := by decide +kernel
theorem dL_law_853 : decode mL_law.2.1 853 = .ok (.iload 4, 2) := by decide +kernel
theorem dL_law_855 : decode mL_law.2.1 855 = .ok (.iconst 2, 1) := by decide +kernel
theorem dL_law_856 : decode mL_law.2.1 856 = .ok (.iadd, 1) := by decide +kernel
theorem dL_law_857 : decode mL_law.2.1 857 = .ok (.iaload, 1) := by decide +kernel
theorem dL_law_858 : decode mL_law.2.1 858 = .ok (.invokevirtual 107, 3) := by decide +kernel
theorem dL_law_861 : decode mL_law.2.1 861 = .ok (.if_icmp .eq 696, 3) := by decide +kernel
theorem dL_law_864 : decode mL_law.2.1 864 = .ok (.iconst 0, 1) := by decide +kernel
theorem dL_law_865 : decode mL_law.2.1 865 = .ok (.ireturn, 1) := by decide +kernel
theorem dL_law_866 : decode mL_law.2.1 866 = .ok (.aload_n 1, 1) := by decide +kernel
theorem dL_law_867 : decode mL_law.2.1 867 = .ok (.aload_n 0, 1) := by decide +kernel
theorem dL_law_868 : decode mL_law.2.1 868 = .ok (.iload 4, 2) := by decide +kernel
theorem dL_law_870 : decode mL_law.2.1 870 = .ok (.iconst 1, 1) := by decide +kernel
theorem dL_law_871 : decode mL_law.2.1 871 = .ok (.iadd, 1) := by decide +kernel
theorem dL_law_872 : decode mL_law.2.1 872 = .ok (.iaload, 1) := by decide +kernel
theorem dL_law_873 : decode mL_law.2.1 873 = .ok (.invokevirtual 108, 3) := by decide +kernel
theorem dL_law_876 : decode mL_law.2.1 876 = .ok (.aload_n 2, 1) := by decide +kernel
theorem dL_law_877 : decode mL_law.2.1 877 = .ok (.aload_n 0, 1) := by decide +kernel
theorem dL_law_878 : decode mL_law.2.1 878 = .ok (.iload 4, 2) := by decide +kernel
