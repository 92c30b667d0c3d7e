theorem d_L_law_630 : decode c_L_law 630 = .ok (.ireturn, 1) := by decide +kernel
theorem d_L_law_631 : decode c_L_law 631 = .ok (.iload 6, 2) := by decide +kernel
theorem d_L_law_633 : decode c_L_law 633 = .ok (.ifCond .ne 15, 3) := by decide +kernel
theorem d_L_law_636 : decode c_L_law 636 = .ok (.aload_n 3, 1) := by decide +kernel
theorem d_L_law_637 : decode c_L_law 637 = .ok (.iconst 0, 1) := by decide +kernel
theorem d_L_law_638 : decode c_L_law 638 = .ok (.laload, 1) := by decide +kernel
theorem d_L_law_639 : decode c_L_law 639 = .ok (.iload 7, 2) := by decide +kernel
theorem d_L_law_641 : decode c_L_law 641 = .ok (.i2l, 1) := by decide +kernel
theorem d_L_law_642 : decode c_L_law 642 = .ok (.lcmp, 1) := by decide +kernel
theorem d_L_law_643 : decode c_L_law 643 = .ok (.ifCond .eq 5, 3) := by decide +kernel
theorem d_L_law_646 : decode c_L_law 646 = .ok (.iconst 0, 1) := by decide +kernel
theorem d_L_law_647 : decode c_L_law 647 = .ok (.ireturn, 1) := by decide +kernel
theorem d_L_law_648 : decode c_L_law 648 = .ok (.goto 524, 3) := by decide +kernel
theorem d_L_law_651 : decode c_L_law 651 = .ok (.aload_n 1, 1) := by decide +kernel
theorem d_L_law_652 : decode c_L_law 652 = .ok (.invokevirtual 110, 3) := by decide +kernel
theorem d_L_law_655 : decode c_L_law 655 = .ok (.aload_n 2, 1) := by decide +kernel
theorem d_L_law_656 : decode c_L_law 656 = .ok (.invokevirtual 113, 3) := by decide +kernel
theorem d_L_law_659 : decode c_L_law 659 = .ok (.if_icmp .eq 513, 3) := by decide +kernel
theorem d_L_law_662 : decode c_L_law 662 = .ok (.iconst 0, 1) := by decide +kernel
theorem d_L_law_663 : decode c_L_law 663 = .ok (.ireturn, 1) := by decide +kernel
theorem d_L_law_664 : decode c_L_law 664 = .ok (.aload_n 1, 1) := by decide +kernel
theorem d_L_law_665 : decode c_L_law 665 = .ok (.aload_n 0, 1) := by decide +kernel
theorem d_L_law_666 : decode c_L_law 666 = .ok (.iload 5, 2) := by decide +kernel
theorem d_L_law_668 : decode c_L_law 668 = .ok (.iconst 1, 1) := by decide +kernel
theorem d_L_law_669 : decode c_L_law 669 = .ok (.iadd, 1) := by decide +kernel
theorem d_L_law_670 : decode c_L_law 670 = .ok (.iaload, 1) := by decide +kernel
theorem d_L_law_671 : decode c_L_law 671 = .ok (.aload_n 3, 1) := by decide +kernel
theorem d_L_law_672 : decode c_L_law 672 = .ok (.invokestatic 114, 3) := by decide +kernel
theorem d_L_law_675 : decode c_L_law 675 = .ok (.istore 6, 2) := by decide +kernel
theorem d_L_law_677 : decode c_L_law 677 = .ok (.aload_n 2, 1) := by decide +kernel
theorem d_L_law_678 : decode c_L_law 678 = .ok (.aload_n 0, 1) := by decide +kernel
theorem d_L_law_679 : decode c_L_law 679 = .ok (.iload 5, 2) := by decide +kernel
theorem d_L_law_681 : decode c_L_law 681 = .ok (.iconst 1, 1) := by decide +kernel
theorem d_L_law_682 : decode c_L_law 682 = .ok (.iadd, 1) := by decide +kernel
theorem d_L_law_683 : decode c_L_law 683 = .ok (.iaload, 1) := by decide +kernel
theorem d_L_law_684 : decode c_L_law 684 = .ok (.invokevirtual 116, 3) := by decide +kernel
theorem d_L_law_687 : decode c_L_law 687 = .ok (.lstore 7, 2) := by decide +kernel
theorem d_L_law_689 : decode c_L_law 689 = .ok (.aload_n 2, 1) := by decide +kernel
theorem d_L_law_690 : decode c_L_law 690 = .ok (.invokevirtual 80, 3) := by decide +kernel
theorem d_L_law_693 : decode c_L_law 693 = .ok (.iload 6, 2) := by decide +kernel
theorem d_L_law_695 : decode c_L_law 695 = .ok (.if_icmp .eq 5, 3) := by decide +kernel
theorem d_L_law_698 : decode c_L_law 698 = .ok (.iconst 0, 1) := by decide +kernel
theorem d_L_law_699 : decode c_L_law 699 = .ok (.ireturn, 1) := by decide +kernel
theorem d_L_law_700 : decode c_L_law 700 = .ok (.iload 6, 2) := by decide +kernel
theorem d_L_law_702 : decode c_L_law 702 = .ok (.ifCond .ne 14, 3) := by decide +kernel
theorem d_L_law_705 : decode c_L_law 705 = .ok (.aload_n 3, 1) := by decide +kernel
theorem d_L_law_706 : decode c_L_law 706 = .ok (.iconst 0, 1) := by decide +kernel
theorem d_L_law_707 : decode c_L_law 707 = .ok (.laload, 1) := by decide +kernel
theorem d_L_law_708 : decode c_L_law 708 = .ok (.lload 7, 2) := by decide +kernel
theorem d_L_law_710 : decode c_L_law 710 = .ok (.lcmp, 1) := by decide +kernel
theorem d_L_law_711 : decode c_L_law 711 = .ok (.ifCond .eq 5, 3) := by decide +kernel
theorem d_L_law_714 : decode c_L_law 714 = .ok (.iconst 0, 1) := by decide +kernel
theorem d_L_law_715 : decode c_L_law 715 = .ok (.ireturn, 1) := by decide +kernel
theorem d_L_law_716 : decode c_L_law 716 = .ok (.goto 456, 3) := by decide +kernel
theorem d_L_law_719 : decode c_L_law 719 = .ok (.aload_n 1, 1) := by decide +kernel
theorem d_L_law_720 : decode c_L_law 720 = .ok (.aload 4, 2) := by decide +kernel
theorem d_L_law_722 : decode c_L_law 722 = .ok (.invokestatic 117, 3) := by decide +kernel
theorem d_L_law_725 : decode c_L_law 725 = .ok (.istore 6, 2) := by decide +kernel
theorem d_L_law_727 : decode c_L_law 727 = .ok (.aload_n 2, 1) := by decide +kernel
theorem d_L_law_728 : decode c_L_law 728 = .ok (.invokevirtual 120, 3) := by decide +kernel
theorem d_L_law_731 : decode c_L_law 731 = .ok (.fstore 7, 2) := by decide +kernel
theorem d_L_law_733 : decode c_L_law 733 = .ok (.aload_n 2, 1) := by decide +kernel
theorem d_L_law_734 : decode c_L_law 734 = .ok (.invokevirtual 80, 3) := by decide +kernel
theorem d_L_law_737 : decode c_L_law 737 = .ok (.iload 6, 2) := by decide +kernel
theorem d_L_law_739 : decode c_L_law 739 = .ok (.if_icmp .eq 5, 3) := by decide +kernel
theorem d_L_law_742 : decode c_L_law 742 = .ok (.iconst 0, 1) := by decide +kernel
theorem d_L_law_743 : decode c_L_law 743 = .ok (.ireturn, 1) := by decide +kernel
theorem d_L_law_744 : decode c_L_law 744 = .ok (.iload 6, 2) := by decide +kernel
theorem d_L_law_746 : decode c_L_law 746 = .ok (.ifCond .ne 36, 3) := by decide +kernel
theorem d_L_law_749 : decode c_L_law 749 = .ok (.aload 4, 2) := by decide +kernel
theorem d_L_law_751 : decode c_L_law 751 = .ok (.iconst 0, 1) := by decide +kernel
theorem d_L_law_752 : decode c_L_law 752 = .ok (.daload, 1) := by decide +kernel
theorem d_L_law_753 : decode c_L_law 753 = .ok (.fload 7, 2) := by decide +kernel
theorem d_L_law_755 : decode c_L_law 755 = .ok (.f2d, 1) := by decide +kernel
theorem d_L_law_756 : decode c_L_law 756 = .ok (.dcmp .l, 1) := by decide +kernel
theorem d_L_law_757 : decode c_L_law 757 = .ok (.ifCond .eq 25, 3) := by decide +kernel
theorem d_L_law_760 : decode c_L_law 760 = .ok (.aload 4, 2) := by decide +kernel
theorem d_L_law_762 : decode c_L_law 762 = .ok (.iconst 0, 1) := by decide +kernel
theorem d_L_law_763 : decode c_L_law 763 = .ok (.daload, 1) := by decide +kernel
theorem d_L_law_764 : decode c_L_law 764 = .ok (.aload 4, 2) := by decide +kernel
theorem d_L_law_766 : decode c_L_law 766 = .ok (.iconst 0, 1) := by decide +kernel
theorem d_L_law_767 : decode c_L_law 767 = .ok (.daload, 1) := by decide +kernel
theorem d_L_law_768 : decode c_L_law 768 = .ok (.dcmp .l, 1) := by decide +kernel
theorem d_L_law_769 : decode c_L_law 769 = .ok (.ifCond .eq 11, 3) := by decide +kernel
theorem d_L_law_772 : decode c_L_law 772 = .ok (.fload 7, 2) := by decide +kernel
theorem d_L_law_774 : decode c_L_law 774 = .ok (.fload 7, 2) := by decide +kernel
theorem d_L_law_776 : decode c_L_law 776 = .ok (.fcmp .l, 1) := by decide +kernel
theorem d_L_law_777 : decode c_L_law 777 = .ok (.ifCond .ne 5, 3) := by decide +kernel
theorem d_L_law_780 : decode c_L_law 780 = .ok (.iconst 0, 1) := by decide +kernel
theorem d_L_law_781 : decode c_L_law 781 = .ok (.ireturn, 1) := by decide +kernel
theorem d_L_law_782 : decode c_L_law 782 = .ok (.goto 390, 3) := by decide +kernel
theorem d_L_law_785 : decode c_L_law 785 = .ok (.aload_n 1, 1) := by decide +kernel
theorem d_L_law_786 : decode c_L_law 786 = .ok (.aload 4, 2) := by decide +kernel
theorem d_L_law_788 : decode c_L_law 788 = .ok (.invokestatic 121, 3) := by decide +kernel
theorem d_L_law_791 : decode c_L_law 791 = .ok (.istore 6, 2) := by decide +kernel
theorem d_L_law_793 : decode c_L_law 793 = .ok (.aload_n 2, 1) := by decide +kernel
theorem d_L_law_794 : decode c_L_law 794 = .ok (.invokevirtual 123, 3) := by decide +kernel
theorem d_L_law_797 : decode c_L_law 797 = .ok (.dstore 7, 2) := by decide +kernel
theorem d_L_law_799 : decode c_L_law 799 = .ok (.aload_n 2, 1) := by decide +kernel
theorem d_L_law_800 : decode c_L_law 800 = .ok (.invokevirtual 80, 3) := by decide +kernel
theorem d_L_law_803 : decode c_L_law 803 = .ok (.iload 6, 2) := by decide +kernel
theorem d_L_law_805 : decode c_L_law 805 = .ok (.if_icmp .eq 5, 3) := by decide +kernel
theorem d_L_law_808 : decode c_L_law 808 = .ok (.iconst 0, 1) := by decide +kernel
theorem d_L_law_809 : decode c_L_law 809 = .ok (.ireturn, 1) := by decide +kernel
theorem d_L_law_810 : decode c_L_law 810 = .ok (.iload 6, 2) := by decide +kernel
theorem d_L_law_812 : decode c_L_law 812 = .ok (.ifCond .ne 35, 3) := by decide +kernel
theorem d_L_law_815 : decode c_L_law 815 = .ok (.aload 4, 2) := by decide +kernel
theorem d_L_law_817 : decode c_L_law 817 = .ok (.iconst 0, 1) := by decide +kernel
theorem d_L_law_818 : decode c_L_law 818 = .ok (.daload, 1) := by decide +kernel
theorem d_L_law_819 : decode c_L_law 819 = .ok (.dload 7, 2) := by decide +kernel
theorem d_L_law_821 : decode c_L_law 821 = .ok (.dcmp .l, 1) := by decide +kernel
theorem d_L_law_822 : decode c_L_law 822 = .ok (.ifCond .eq 25, 3) := by decide +kernel
theorem d_L_law_825 : decode c_L_law 825 = .ok (.aload 4, 2) := by decide +kernel
theorem d_L_law_827 : decode c_L_law 827 = .ok (.iconst 0, 1) := by decide +kernel
theorem d_L_law_828 : decode c_L_law 828 = .ok (.daload, 1) := by decide +kernel
theorem d_L_law_829 : decode c_L_law 829 = .ok (.aload 4, 2) := by decide +kernel
theorem d_L_law_831 : decode c_L_law 831 = .ok (.iconst 0, 1) := by decide +kernel
theorem d_L_law_832 : decode c_L_law 832 = .ok (.daload, 1) := by decide +kernel
theorem d_L_law_833 : decode c_L_law 833 = .ok (.dcmp .l, 1) := by decide +kernel
theorem d_L_law_834 : decode c_L_law 834 = .ok (.ifCond .eq 11, 3) := by decide +kernel
