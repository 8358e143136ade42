/-! THE LAW: its instructions, printed -/
theorem lz_d_668 : decode code 668 = .ok (.iadd, 1) := by decide +kernel
theorem lz_d_669 : decode code 669 = .ok (.iaload, 1) := by decide +kernel
theorem lz_d_670 : decode code 670 = .ok (.invokevirtual 106, 3) := by decide +kernel
theorem lz_d_673 : decode code 673 = .ok (.if_icmp .eq 156, 3) := by decide +kernel
theorem lz_d_676 : decode code 676 = .ok (.iconst 0, 1) := by decide +kernel
theorem lz_d_677 : decode code 677 = .ok (.ireturn, 1) := by decide +kernel
theorem lz_d_678 : decode code 678 = .ok (.aload_n 1, 1) := by decide +kernel
theorem lz_d_679 : decode code 679 = .ok (.aload_n 0, 1) := by decide +kernel
theorem lz_d_680 : decode code 680 = .ok (.iload_n 3, 1) := by decide +kernel
theorem lz_d_681 : decode code 681 = .ok (.iconst 1, 1) := by decide +kernel
theorem lz_d_682 : decode code 682 = .ok (.iadd, 1) := by decide +kernel
theorem lz_d_683 : decode code 683 = .ok (.iaload, 1) := by decide +kernel
theorem lz_d_684 : decode code 684 = .ok (.invokevirtual 107, 3) := by decide +kernel
theorem lz_d_687 : decode code 687 = .ok (.aload_n 2, 1) := by decide +kernel
theorem lz_d_688 : decode code 688 = .ok (.aload_n 0, 1) := by decide +kernel
theorem lz_d_689 : decode code 689 = .ok (.iload_n 3, 1) := by decide +kernel
theorem lz_d_690 : decode code 690 = .ok (.iconst 1, 1) := by decide +kernel
theorem lz_d_691 : decode code 691 = .ok (.iadd, 1) := by decide +kernel
theorem lz_d_692 : decode code 692 = .ok (.iaload, 1) := by decide +kernel
theorem lz_d_693 : decode code 693 = .ok (.invokevirtual 110, 3) := by decide +kernel
theorem lz_d_696 : decode code 696 = .ok (.if_icmp .eq 133, 3) := by decide +kernel
theorem lz_d_699 : decode code 699 = .ok (.iconst 0, 1) := by decide +kernel
theorem lz_d_700 : decode code 700 = .ok (.ireturn, 1) := by decide +kernel
theorem lz_d_701 : decode code 701 = .ok (.aload_n 1, 1) := by decide +kernel
theorem lz_d_702 : decode code 702 = .ok (.aload_n 0, 1) := by decide +kernel
theorem lz_d_703 : decode code 703 = .ok (.iload_n 3, 1) := by decide +kernel
theorem lz_d_704 : decode code 704 = .ok (.iconst 1, 1) := by decide +kernel
theorem lz_d_705 : decode code 705 = .ok (.iadd, 1) := by decide +kernel
theorem lz_d_706 : decode code 706 = .ok (.iaload, 1) := by decide +kernel
theorem lz_d_707 : decode code 707 = .ok (.invokevirtual 111, 3) := by decide +kernel
theorem lz_d_710 : decode code 710 = .ok (.aload_n 2, 1) := by decide +kernel
theorem lz_d_711 : decode code 711 = .ok (.aload_n 0, 1) := by decide +kernel
theorem lz_d_712 : decode code 712 = .ok (.iload_n 3, 1) := by decide +kernel
theorem lz_d_713 : decode code 713 = .ok (.iconst 1, 1) := by decide +kernel
theorem lz_d_714 : decode code 714 = .ok (.iadd, 1) := by decide +kernel
theorem lz_d_715 : decode code 715 = .ok (.iaload, 1) := by decide +kernel
theorem lz_d_716 : decode code 716 = .ok (.invokevirtual 114, 3) := by decide +kernel
theorem lz_d_719 : decode code 719 = .ok (.if_icmp .eq 110, 3) := by decide +kernel
theorem lz_d_722 : decode code 722 = .ok (.iconst 0, 1) := by decide +kernel
theorem lz_d_723 : decode code 723 = .ok (.ireturn, 1) := by decide +kernel
theorem lz_d_724 : decode code 724 = .ok (.aload_n 1, 1) := by decide +kernel
theorem lz_d_725 : decode code 725 = .ok (.aload_n 0, 1) := by decide +kernel
theorem lz_d_726 : decode code 726 = .ok (.iload_n 3, 1) := by decide +kernel
theorem lz_d_727 : decode code 727 = .ok (.iconst 1, 1) := by decide +kernel
theorem lz_d_728 : decode code 728 = .ok (.iadd, 1) := by decide +kernel
theorem lz_d_729 : decode code 729 = .ok (.iaload, 1) := by decide +kernel
theorem lz_d_730 : decode code 730 = .ok (.invokevirtual 115, 3) := by decide +kernel
theorem lz_d_733 : decode code 733 = .ok (.aload_n 2, 1) := by decide +kernel
theorem lz_d_734 : decode code 734 = .ok (.aload_n 0, 1) := by decide +kernel
theorem lz_d_735 : decode code 735 = .ok (.iload_n 3, 1) := by decide +kernel
theorem lz_d_736 : decode code 736 = .ok (.iconst 1, 1) := by decide +kernel
theorem lz_d_737 : decode code 737 = .ok (.iadd, 1) := by decide +kernel
theorem lz_d_738 : decode code 738 = .ok (.iaload, 1) := by decide +kernel
theorem lz_d_739 : decode code 739 = .ok (.invokevirtual 118, 3) := by decide +kernel
theorem lz_d_742 : decode code 742 = .ok (.if_icmp .eq 87, 3) := by decide +kernel
theorem lz_d_745 : decode code 745 = .ok (.iconst 0, 1) := by decide +kernel
theorem lz_d_746 : decode code 746 = .ok (.ireturn, 1) := by decide +kernel
theorem lz_d_747 : decode code 747 = .ok (.aload_n 1, 1) := by decide +kernel
theorem lz_d_748 : decode code 748 = .ok (.aload_n 0, 1) := by decide +kernel
theorem lz_d_749 : decode code 749 = .ok (.iload_n 3, 1) := by decide +kernel
theorem lz_d_750 : decode code 750 = .ok (.iconst 1, 1) := by decide +kernel
theorem lz_d_751 : decode code 751 = .ok (.iadd, 1) := by decide +kernel
theorem lz_d_752 : decode code 752 = .ok (.iaload, 1) := by decide +kernel
theorem lz_d_753 : decode code 753 = .ok (.invokevirtual 119, 3) := by decide +kernel
theorem lz_d_756 : decode code 756 = .ok (.aload_n 2, 1) := by decide +kernel
theorem lz_d_757 : decode code 757 = .ok (.aload_n 0, 1) := by decide +kernel
theorem lz_d_758 : decode code 758 = .ok (.iload_n 3, 1) := by decide +kernel
theorem lz_d_759 : decode code 759 = .ok (.iconst 1, 1) := by decide +kernel
theorem lz_d_760 : decode code 760 = .ok (.iadd, 1) := by decide +kernel
theorem lz_d_761 : decode code 761 = .ok (.iaload, 1) := by decide +kernel
theorem lz_d_762 : decode code 762 = .ok (.invokevirtual 122, 3) := by decide +kernel
theorem lz_d_765 : decode code 765 = .ok (.if_icmp .eq 64, 3) := by decide +kernel
theorem lz_d_768 : decode code 768 = .ok (.iconst 0, 1) := by decide +kernel
theorem lz_d_769 : decode code 769 = .ok (.ireturn, 1) := by decide +kernel
theorem lz_d_770 : decode code 770 = .ok (.aload_n 1, 1) := by decide +kernel
theorem lz_d_771 : decode code 771 = .ok (.invokevirtual 123, 3) := by decide +kernel
theorem lz_d_774 : decode code 774 = .ok (.aload_n 2, 1) := by decide +kernel
theorem lz_d_775 : decode code 775 = .ok (.invokevirtual 126, 3) := by decide +kernel
theorem lz_d_778 : decode code 778 = .ok (.if_icmp .eq 51, 3) := by decide +kernel
theorem lz_d_781 : decode code 781 = .ok (.iconst 0, 1) := by decide +kernel
theorem lz_d_782 : decode code 782 = .ok (.ireturn, 1) := by decide +kernel
theorem lz_d_783 : decode code 783 = .ok (.aload_n 1, 1) := by decide +kernel
theorem lz_d_784 : decode code 784 = .ok (.aload_n 0, 1) := by decide +kernel
theorem lz_d_785 : decode code 785 = .ok (.iload_n 3, 1) := by decide +kernel
theorem lz_d_786 : decode code 786 = .ok (.iconst 1, 1) := by decide +kernel
theorem lz_d_787 : decode code 787 = .ok (.iadd, 1) := by decide +kernel
theorem lz_d_788 : decode code 788 = .ok (.iaload, 1) := by decide +kernel
theorem lz_d_789 : decode code 789 = .ok (.invokevirtual 127, 3) := by decide +kernel
theorem lz_d_792 : decode code 792 = .ok (.aload_n 2, 1) := by decide +kernel
theorem lz_d_793 : decode code 793 = .ok (.aload_n 0, 1) := by decide +kernel
theorem lz_d_794 : decode code 794 = .ok (.iload_n 3, 1) := by decide +kernel
theorem lz_d_795 : decode code 795 = .ok (.iconst 1, 1) := by decide +kernel
theorem lz_d_796 : decode code 796 = .ok (.iadd, 1) := by decide +kernel
theorem lz_d_797 : decode code 797 = .ok (.iaload, 1) := by decide +kernel
theorem lz_d_798 : decode code 798 = .ok (.invokevirtual 130, 3) := by decide +kernel
theorem lz_d_801 : decode code 801 = .ok (.if_icmp .eq 28, 3) := by decide +kernel
theorem lz_d_804 : decode code 804 = .ok (.iconst 0, 1) := by decide +kernel
theorem lz_d_805 : decode code 805 = .ok (.ireturn, 1) := by decide +kernel
theorem lz_d_806 : decode code 806 = .ok (.aload_n 1, 1) := by decide +kernel
theorem lz_d_807 : decode code 807 = .ok (.aload_n 0, 1) := by decide +kernel
theorem lz_d_808 : decode code 808 = .ok (.iload_n 3, 1) := by decide +kernel
theorem lz_d_809 : decode code 809 = .ok (.iconst 1, 1) := by decide +kernel
theorem lz_d_810 : decode code 810 = .ok (.iadd, 1) := by decide +kernel
theorem lz_d_811 : decode code 811 = .ok (.iaload, 1) := by decide +kernel
theorem lz_d_812 : decode code 812 = .ok (.invokevirtual 131, 3) := by decide +kernel
theorem lz_d_815 : decode code 815 = .ok (.aload_n 2, 1) := by decide +kernel
theorem lz_d_816 : decode code 816 = .ok (.aload_n 0, 1) := by decide +kernel
theorem lz_d_817 : decode code 817 = .ok (.iload_n 3, 1) := by decide +kernel
theorem lz_d_818 : decode code 818 = .ok (.iconst 1, 1) := by decide +kernel
theorem lz_d_819 : decode code 819 = .ok (.iadd, 1) := by decide +kernel
theorem lz_d_820 : decode code 820 = .ok (.iaload, 1) := by decide +kernel
theorem lz_d_821 : decode code 821 = .ok (.invokevirtual 134, 3) := by decide +kernel
theorem lz_d_824 : decode code 824 = .ok (.if_icmp .eq 5, 3) := by decide +kernel
theorem lz_d_827 : decode code 827 = .ok (.iconst 0, 1) := by decide +kernel
theorem lz_d_828 : decode code 828 = .ok (.ireturn, 1) := by decide +kernel
theorem lz_d_829 : decode code 829 = .ok (.iinc 3 4, 3) := by decide +kernel
theorem lz_d_832 : decode code 832 = .ok (.goto (-814), 3) := by decide +kernel
theorem lz_d_835 : decode code 835 = .ok (.iconst 1, 1) := by decide +kernel
theorem lz_d_836 : decode code 836 = .ok (.ireturn, 1) := by decide +kernel
