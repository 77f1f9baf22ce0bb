theorem dL_law_557 : decode cL_law 557 = .ok (.iload 16, 2) := by decide +kernel
theorem dL_law_559 : decode cL_law 559 = .ok (.if_icmp .ne 27, 3) := by decide +kernel
theorem dL_law_562 : decode cL_law 562 = .ok (.aload_n 1, 1) := by decide +kernel
theorem dL_law_563 : decode cL_law 563 = .ok (.bipush 9, 2) := by decide +kernel
theorem dL_law_565 : decode cL_law 565 = .ok (.invokevirtual 206, 3) := by decide +kernel
theorem dL_law_568 : decode cL_law 568 = .ok (.i2l, 1) := by decide +kernel
theorem dL_law_569 : decode cL_law 569 = .ok (.aload 5, 2) := by decide +kernel
theorem dL_law_571 : decode cL_law 571 = .ok (.bipush 9, 2) := by decide +kernel
theorem dL_law_573 : decode cL_law 573 = .ok (.laload, 1) := by decide +kernel
theorem dL_law_574 : decode cL_law 574 = .ok (.ldc2_w 268, 3) := by decide +kernel
theorem dL_law_577 : decode cL_law 577 = .ok (.ladd, 1) := by decide +kernel
theorem dL_law_578 : decode cL_law 578 = .ok (.iload 14, 2) := by decide +kernel
theorem dL_law_580 : decode cL_law 580 = .ok (.i2l, 1) := by decide +kernel
theorem dL_law_581 : decode cL_law 581 = .ok (.lsub, 1) := by decide +kernel
theorem dL_law_582 : decode cL_law 582 = .ok (.lcmp, 1) := by decide +kernel
theorem dL_law_583 : decode cL_law 583 = .ok (.ifCond .eq 5, 3) := by decide +kernel
theorem dL_law_588 : decode cL_law 588 = .ok (.goto 192, 3) := by decide +kernel
theorem dL_law_591 : decode cL_law 591 = .ok (.iload 15, 2) := by decide +kernel
theorem dL_law_593 : decode cL_law 593 = .ok (.bipush 13, 2) := by decide +kernel
theorem dL_law_595 : decode cL_law 595 = .ok (.if_icmp .ge 58, 3) := by decide +kernel
theorem dL_law_598 : decode cL_law 598 = .ok (.aload_n 1, 1) := by decide +kernel
theorem dL_law_599 : decode cL_law 599 = .ok (.iload 12, 2) := by decide +kernel
theorem dL_law_601 : decode cL_law 601 = .ok (.invokevirtual 270, 3) := by decide +kernel
theorem dL_law_604 : decode cL_law 604 = .ok (.istore 16, 2) := by decide +kernel
theorem dL_law_606 : decode cL_law 606 = .ok (.aload_n 1, 1) := by decide +kernel
theorem dL_law_607 : decode cL_law 607 = .ok (.iload 12, 2) := by decide +kernel
theorem dL_law_609 : decode cL_law 609 = .ok (.iconst 0, 1) := by decide +kernel
theorem dL_law_610 : decode cL_law 610 = .ok (.invokevirtual 180, 3) := by decide +kernel
theorem dL_law_613 : decode cL_law 613 = .ok (.iconst 2, 1) := by decide +kernel
theorem dL_law_614 : decode cL_law 614 = .ok (.if_icmp .ge 36, 3) := by decide +kernel
theorem dL_law_617 : decode cL_law 617 = .ok (.aload_n 1, 1) := by decide +kernel
theorem dL_law_618 : decode cL_law 618 = .ok (.iload 12, 2) := by decide +kernel
theorem dL_law_620 : decode cL_law 620 = .ok (.invokevirtual 273, 3) := by decide +kernel
theorem dL_law_623 : decode cL_law 623 = .ok (.iload 16, 2) := by decide +kernel
theorem dL_law_625 : decode cL_law 625 = .ok (.if_icmp .ne 23, 3) := by decide +kernel
theorem dL_law_628 : decode cL_law 628 = .ok (.aload_n 1, 1) := by decide +kernel
theorem dL_law_629 : decode cL_law 629 = .ok (.bipush 15, 2) := by decide +kernel
theorem dL_law_631 : decode cL_law 631 = .ok (.invokevirtual 206, 3) := by decide +kernel
theorem dL_law_634 : decode cL_law 634 = .ok (.i2l, 1) := by decide +kernel
theorem dL_law_635 : decode cL_law 635 = .ok (.aload 5, 2) := by decide +kernel
theorem dL_law_637 : decode cL_law 637 = .ok (.bipush 15, 2) := by decide +kernel
theorem dL_law_639 : decode cL_law 639 = .ok (.laload, 1) := by decide +kernel
theorem dL_law_640 : decode cL_law 640 = .ok (.iload 16, 2) := by decide +kernel
theorem dL_law_642 : decode cL_law 642 = .ok (.i2l, 1) := by decide +kernel
theorem dL_law_643 : decode cL_law 643 = .ok (.ladd, 1) := by decide +kernel
theorem dL_law_644 : decode cL_law 644 = .ok (.lcmp, 1) := by decide +kernel
theorem dL_law_645 : decode cL_law 645 = .ok (.ifCond .eq 5, 3) := by decide +kernel
theorem dL_law_650 : decode cL_law 650 = .ok (.goto 130, 3) := by decide +kernel
theorem dL_law_653 : decode cL_law 653 = .ok (.iload 15, 2) := by decide +kernel
theorem dL_law_655 : decode cL_law 655 = .ok (.bipush 13, 2) := by decide +kernel
theorem dL_law_657 : decode cL_law 657 = .ok (.if_icmp .ne 35, 3) := by decide +kernel
theorem dL_law_660 : decode cL_law 660 = .ok (.aload_n 1, 1) := by decide +kernel
theorem dL_law_661 : decode cL_law 661 = .ok (.iload 12, 2) := by decide +kernel
theorem dL_law_663 : decode cL_law 663 = .ok (.iconst 0, 1) := by decide +kernel
theorem dL_law_664 : decode cL_law 664 = .ok (.invokevirtual 180, 3) := by decide +kernel
theorem dL_law_667 : decode cL_law 667 = .ok (.iconst 2, 1) := by decide +kernel
theorem dL_law_668 : decode cL_law 668 = .ok (.if_icmp .ne 112, 3) := by decide +kernel
theorem dL_law_671 : decode cL_law 671 = .ok (.aload_n 1, 1) := by decide +kernel
theorem dL_law_672 : decode cL_law 672 = .ok (.iload 12, 2) := by decide +kernel
theorem dL_law_674 : decode cL_law 674 = .ok (.invokevirtual 276, 3) := by decide +kernel
theorem dL_law_677 : decode cL_law 677 = .ok (.ifCond .lt 13, 3) := by decide +kernel
theorem dL_law_680 : decode cL_law 680 = .ok (.aload_n 1, 1) := by decide +kernel
theorem dL_law_681 : decode cL_law 681 = .ok (.iload 12, 2) := by decide +kernel
theorem dL_law_683 : decode cL_law 683 = .ok (.iconst 0, 1) := by decide +kernel
theorem dL_law_684 : decode cL_law 684 = .ok (.invokevirtual 180, 3) := by decide +kernel
theorem dL_law_687 : decode cL_law 687 = .ok (.ifCond .eq 93, 3) := by decide +kernel
theorem dL_law_692 : decode cL_law 692 = .ok (.iload 15, 2) := by decide +kernel
theorem dL_law_694 : decode cL_law 694 = .ok (.bipush 14, 2) := by decide +kernel
theorem dL_law_696 : decode cL_law 696 = .ok (.if_icmp .ne 50, 3) := by decide +kernel
theorem dL_law_699 : decode cL_law 699 = .ok (.aload_n 1, 1) := by decide +kernel
theorem dL_law_700 : decode cL_law 700 = .ok (.invokevirtual 279, 3) := by decide +kernel
theorem dL_law_703 : decode cL_law 703 = .ok (.istore 16, 2) := by decide +kernel
theorem dL_law_705 : decode cL_law 705 = .ok (.aload_n 1, 1) := by decide +kernel
theorem dL_law_706 : decode cL_law 706 = .ok (.invokevirtual 282, 3) := by decide +kernel
theorem dL_law_709 : decode cL_law 709 = .ok (.istore 17, 2) := by decide +kernel
theorem dL_law_711 : decode cL_law 711 = .ok (.iload 16, 2) := by decide +kernel
theorem dL_law_713 : decode cL_law 713 = .ok (.ifCond .ne 11, 3) := by decide +kernel
theorem dL_law_716 : decode cL_law 716 = .ok (.iload 17, 2) := by decide +kernel
theorem dL_law_718 : decode cL_law 718 = .ok (.ifCond .eq 25, 3) := by decide +kernel
theorem dL_law_721 : decode cL_law 721 = .ok (.goto 20, 3) := by decide +kernel
theorem dL_law_724 : decode cL_law 724 = .ok (.iload 17, 2) := by decide +kernel
theorem dL_law_726 : decode cL_law 726 = .ok (.iconst 1, 1) := by decide +kernel
theorem dL_law_727 : decode cL_law 727 = .ok (.if_icmp .lt 14, 3) := by decide +kernel
theorem dL_law_730 : decode cL_law 730 = .ok (.aload_n 1, 1) := by decide +kernel
theorem dL_law_731 : decode cL_law 731 = .ok (.invokevirtual 279, 3) := by decide +kernel
theorem dL_law_734 : decode cL_law 734 = .ok (.iload 16, 2) := by decide +kernel
theorem dL_law_736 : decode cL_law 736 = .ok (.iconst 1, 1) := by decide +kernel
theorem dL_law_737 : decode cL_law 737 = .ok (.isub, 1) := by decide +kernel
theorem dL_law_738 : decode cL_law 738 = .ok (.if_icmp .eq 5, 3) := by decide +kernel
theorem dL_law_743 : decode cL_law 743 = .ok (.goto 37, 3) := by decide +kernel
theorem dL_law_746 : decode cL_law 746 = .ok (.iload 10, 2) := by decide +kernel
theorem dL_law_748 : decode cL_law 748 = .ok (.ifCond .le 32, 3) := by decide +kernel
theorem dL_law_751 : decode cL_law 751 = .ok (.aload_n 1, 1) := by decide +kernel
theorem dL_law_752 : decode cL_law 752 = .ok (.invokevirtual 285, 3) := by decide +kernel
theorem dL_law_755 : decode cL_law 755 = .ok (.iload 10, 2) := by decide +kernel
theorem dL_law_757 : decode cL_law 757 = .ok (.if_icmp .ne 21, 3) := by decide +kernel
theorem dL_law_760 : decode cL_law 760 = .ok (.aload_n 1, 1) := by decide +kernel
theorem dL_law_761 : decode cL_law 761 = .ok (.bipush 13, 2) := by decide +kernel
theorem dL_law_763 : decode cL_law 763 = .ok (.invokevirtual 206, 3) := by decide +kernel
theorem dL_law_766 : decode cL_law 766 = .ok (.i2l, 1) := by decide +kernel
theorem dL_law_767 : decode cL_law 767 = .ok (.aload 5, 2) := by decide +kernel
theorem dL_law_769 : decode cL_law 769 = .ok (.bipush 13, 2) := by decide +kernel
theorem dL_law_771 : decode cL_law 771 = .ok (.laload, 1) := by decide +kernel
theorem dL_law_772 : decode cL_law 772 = .ok (.lconst 1, 1) := by decide +kernel
theorem dL_law_773 : decode cL_law 773 = .ok (.ladd, 1) := by decide +kernel
theorem dL_law_774 : decode cL_law 774 = .ok (.lcmp, 1) := by decide +kernel
theorem dL_law_775 : decode cL_law 775 = .ok (.ifCond .eq 5, 3) := by decide +kernel
theorem dL_law_780 : decode cL_law 780 = .ok (.aload_n 1, 1) := by decide +kernel
theorem dL_law_781 : decode cL_law 781 = .ok (.invokevirtual 209, 3) := by decide +kernel
theorem dL_law_784 : decode cL_law 784 = .ok (.ifCond .ne 10, 3) := by decide +kernel
theorem dL_law_787 : decode cL_law 787 = .ok (.aload_n 1, 1) := by decide +kernel
theorem dL_law_788 : decode cL_law 788 = .ok (.invokestatic 231, 3) := by decide +kernel
theorem dL_law_791 : decode cL_law 791 = .ok (.ifCond .ne 5, 3) := by decide +kernel
theorem dL_law_796 : decode cL_law 796 = .ok (.iload 8, 2) := by decide +kernel
theorem dL_law_798 : decode cL_law 798 = .ok (.bipush 25, 2) := by decide +kernel
theorem dL_law_800 : decode cL_law 800 = .ok (.iushr, 1) := by decide +kernel
theorem dL_law_801 : decode cL_law 801 = .ok (.iconst 3, 1) := by decide +kernel
theorem dL_law_802 : decode cL_law 802 = .ok (.iand, 1) := by decide +kernel
theorem dL_law_803 : decode cL_law 803 = .ok (.ifCond .ne 45, 3) := by decide +kernel
theorem dL_law_806 : decode cL_law 806 = .ok (.aload_n 1, 1) := by decide +kernel
theorem dL_law_807 : decode cL_law 807 = .ok (.iload 9, 2) := by decide +kernel
theorem dL_law_809 : decode cL_law 809 = .ok (.invokevirtual 288, 3) := by decide +kernel
theorem dL_law_812 : decode cL_law 812 = .ok (.i2l, 1) := by decide +kernel
theorem dL_law_813 : decode cL_law 813 = .ok (.aload 5, 2) := by decide +kernel
theorem dL_law_815 : decode cL_law 815 = .ok (.iconst 3, 1) := by decide +kernel
theorem dL_law_816 : decode cL_law 816 = .ok (.laload, 1) := by decide +kernel
theorem dL_law_817 : decode cL_law 817 = .ok (.lcmp, 1) := by decide +kernel
theorem dL_law_818 : decode cL_law 818 = .ok (.ifCond .ne 10, 3) := by decide +kernel
theorem dL_law_821 : decode cL_law 821 = .ok (.aload_n 1, 1) := by decide +kernel
theorem dL_law_822 : decode cL_law 822 = .ok (.invokevirtual 291, 3) := by decide +kernel
theorem dL_law_825 : decode cL_law 825 = .ok (.ifCond .eq 5, 3) := by decide +kernel
theorem dL_law_830 : decode cL_law 830 = .ok (.aload_n 1, 1) := by decide +kernel
theorem dL_law_831 : decode cL_law 831 = .ok (.aload 6, 2) := by decide +kernel
theorem dL_law_833 : decode cL_law 833 = .ok (.invokestatic 224, 3) := by decide +kernel
theorem dL_law_836 : decode cL_law 836 = .ok (.aload 5, 2) := by decide +kernel
theorem dL_law_838 : decode cL_law 838 = .ok (.aload 6, 2) := by decide +kernel
theorem dL_law_840 : decode cL_law 840 = .ok (.invokestatic 294, 3) := by decide +kernel
theorem dL_law_843 : decode cL_law 843 = .ok (.ifCond .ne 5, 3) := by decide +kernel
theorem dL_law_848 : decode cL_law 848 = .ok (.iinc 7 1, 3) := by decide +kernel
theorem dL_law_851 : decode cL_law 851 = .ok (.goto (-791), 3) := by decide +kernel
theorem dL_law_854 : decode cL_law 854 = .ok (.aload_n 1, 1) := by decide +kernel
theorem dL_law_855 : decode cL_law 855 = .ok (.invokevirtual 209, 3) := by decide +kernel
theorem dL_law_858 : decode cL_law 858 = .ok (.ifCond .ne 7, 3) := by decide +kernel
theorem dL_law_861 : decode cL_law 861 = .ok (.iconst 1, 1) := by decide +kernel
theorem dL_law_862 : decode cL_law 862 = .ok (.goto 4, 3) := by decide +kernel
