theorem d_Law_law_695 : decode code 695 = .ok (.iconst 1, 1) := by decide +kernel
theorem d_Law_law_696 : decode code 696 = .ok (.iadd, 1) := by decide +kernel
theorem d_Law_law_697 : decode code 697 = .ok (.iaload, 1) := by decide +kernel
theorem d_Law_law_698 : decode code 698 = .ok (.invokevirtual 100, 3) := by decide +kernel
theorem d_Law_law_701 : decode code 701 = .ok (.aload_n 2, 1) := by decide +kernel
theorem d_Law_law_702 : decode code 702 = .ok (.aload_n 0, 1) := by decide +kernel
theorem d_Law_law_703 : decode code 703 = .ok (.iload 4, 2) := by decide +kernel
theorem d_Law_law_705 : decode code 705 = .ok (.iconst 1, 1) := by decide +kernel
theorem d_Law_law_706 : decode code 706 = .ok (.iadd, 1) := by decide +kernel
theorem d_Law_law_707 : decode code 707 = .ok (.iaload, 1) := by decide +kernel
theorem d_Law_law_708 : decode code 708 = .ok (.invokevirtual 103, 3) := by decide +kernel
theorem d_Law_law_711 : decode code 711 = .ok (.if_icmp .eq 670, 3) := by decide +kernel
theorem d_Law_law_714 : decode code 714 = .ok (.iconst 0, 1) := by decide +kernel
theorem d_Law_law_715 : decode code 715 = .ok (.ireturn, 1) := by decide +kernel
theorem d_Law_law_716 : decode code 716 = .ok (.aload_n 1, 1) := by decide +kernel
theorem d_Law_law_717 : decode code 717 = .ok (.aload_n 0, 1) := by decide +kernel
theorem d_Law_law_718 : decode code 718 = .ok (.iload 4, 2) := by decide +kernel
theorem d_Law_law_720 : decode code 720 = .ok (.iconst 1, 1) := by decide +kernel
theorem d_Law_law_721 : decode code 721 = .ok (.iadd, 1) := by decide +kernel
theorem d_Law_law_722 : decode code 722 = .ok (.iaload, 1) := by decide +kernel
theorem d_Law_law_723 : decode code 723 = .ok (.invokevirtual 104, 3) := by decide +kernel
theorem d_Law_law_726 : decode code 726 = .ok (.aload_n 2, 1) := by decide +kernel
theorem d_Law_law_727 : decode code 727 = .ok (.aload_n 0, 1) := by decide +kernel
theorem d_Law_law_728 : decode code 728 = .ok (.iload 4, 2) := by decide +kernel
theorem d_Law_law_730 : decode code 730 = .ok (.iconst 1, 1) := by decide +kernel
theorem d_Law_law_731 : decode code 731 = .ok (.iadd, 1) := by decide +kernel
theorem d_Law_law_732 : decode code 732 = .ok (.iaload, 1) := by decide +kernel
theorem d_Law_law_733 : decode code 733 = .ok (.invokevirtual 107, 3) := by decide +kernel
theorem d_Law_law_736 : decode code 736 = .ok (.if_icmp .eq 645, 3) := by decide +kernel
theorem d_Law_law_739 : decode code 739 = .ok (.iconst 0, 1) := by decide +kernel
theorem d_Law_law_740 : decode code 740 = .ok (.ireturn, 1) := by decide +kernel
theorem d_Law_law_741 : decode code 741 = .ok (.aload_n 1, 1) := by decide +kernel
theorem d_Law_law_742 : decode code 742 = .ok (.aload_n 0, 1) := by decide +kernel
theorem d_Law_law_743 : decode code 743 = .ok (.iload 4, 2) := by decide +kernel
theorem d_Law_law_745 : decode code 745 = .ok (.iconst 1, 1) := by decide +kernel
theorem d_Law_law_746 : decode code 746 = .ok (.iadd, 1) := by decide +kernel
theorem d_Law_law_747 : decode code 747 = .ok (.iaload, 1) := by decide +kernel
theorem d_Law_law_748 : decode code 748 = .ok (.aload_n 0, 1) := by decide +kernel
theorem d_Law_law_749 : decode code 749 = .ok (.iload 4, 2) := by decide +kernel
theorem d_Law_law_751 : decode code 751 = .ok (.iconst 2, 1) := by decide +kernel
theorem d_Law_law_752 : decode code 752 = .ok (.iadd, 1) := by decide +kernel
theorem d_Law_law_753 : decode code 753 = .ok (.iaload, 1) := by decide +kernel
theorem d_Law_law_754 : decode code 754 = .ok (.invokevirtual 108, 3) := by decide +kernel
theorem d_Law_law_757 : decode code 757 = .ok (.aload_n 2, 1) := by decide +kernel
theorem d_Law_law_758 : decode code 758 = .ok (.aload_n 0, 1) := by decide +kernel
theorem d_Law_law_759 : decode code 759 = .ok (.iload 4, 2) := by decide +kernel
theorem d_Law_law_761 : decode code 761 = .ok (.iconst 1, 1) := by decide +kernel
theorem d_Law_law_762 : decode code 762 = .ok (.iadd, 1) := by decide +kernel
theorem d_Law_law_763 : decode code 763 = .ok (.iaload, 1) := by decide +kernel
theorem d_Law_law_764 : decode code 764 = .ok (.aload_n 0, 1) := by decide +kernel
theorem d_Law_law_765 : decode code 765 = .ok (.iload 4, 2) := by decide +kernel
theorem d_Law_law_767 : decode code 767 = .ok (.iconst 2, 1) := by decide +kernel
theorem d_Law_law_768 : decode code 768 = .ok (.iadd, 1) := by decide +kernel
theorem d_Law_law_769 : decode code 769 = .ok (.iaload, 1) := by decide +kernel
theorem d_Law_law_770 : decode code 770 = .ok (.invokevirtual 111, 3) := by decide +kernel
theorem d_Law_law_773 : decode code 773 = .ok (.if_icmp .eq 608, 3) := by decide +kernel
theorem d_Law_law_776 : decode code 776 = .ok (.iconst 0, 1) := by decide +kernel
theorem d_Law_law_777 : decode code 777 = .ok (.ireturn, 1) := by decide +kernel
theorem d_Law_law_778 : decode code 778 = .ok (.aload_n 1, 1) := by decide +kernel
theorem d_Law_law_779 : decode code 779 = .ok (.aload_n 0, 1) := by decide +kernel
theorem d_Law_law_780 : decode code 780 = .ok (.iload 4, 2) := by decide +kernel
theorem d_Law_law_782 : decode code 782 = .ok (.iconst 1, 1) := by decide +kernel
theorem d_Law_law_783 : decode code 783 = .ok (.iadd, 1) := by decide +kernel
theorem d_Law_law_784 : decode code 784 = .ok (.iaload, 1) := by decide +kernel
theorem d_Law_law_785 : decode code 785 = .ok (.invokevirtual 112, 3) := by decide +kernel
theorem d_Law_law_788 : decode code 788 = .ok (.aload_n 2, 1) := by decide +kernel
theorem d_Law_law_789 : decode code 789 = .ok (.aload_n 0, 1) := by decide +kernel
theorem d_Law_law_790 : decode code 790 = .ok (.iload 4, 2) := by decide +kernel
theorem d_Law_law_792 : decode code 792 = .ok (.iconst 1, 1) := by decide +kernel
theorem d_Law_law_793 : decode code 793 = .ok (.iadd, 1) := by decide +kernel
theorem d_Law_law_794 : decode code 794 = .ok (.iaload, 1) := by decide +kernel
theorem d_Law_law_795 : decode code 795 = .ok (.invokevirtual 115, 3) := by decide +kernel
theorem d_Law_law_798 : decode code 798 = .ok (.if_icmp .eq 583, 3) := by decide +kernel
theorem d_Law_law_801 : decode code 801 = .ok (.iconst 0, 1) := by decide +kernel
theorem d_Law_law_802 : decode code 802 = .ok (.ireturn, 1) := by decide +kernel
theorem d_Law_law_803 : decode code 803 = .ok (.aload_n 1, 1) := by decide +kernel
theorem d_Law_law_804 : decode code 804 = .ok (.invokevirtual 116, 3) := by decide +kernel
theorem d_Law_law_807 : decode code 807 = .ok (.aload_n 2, 1) := by decide +kernel
theorem d_Law_law_808 : decode code 808 = .ok (.invokevirtual 119, 3) := by decide +kernel
theorem d_Law_law_811 : decode code 811 = .ok (.if_icmp .eq 570, 3) := by decide +kernel
theorem d_Law_law_814 : decode code 814 = .ok (.iconst 0, 1) := by decide +kernel
theorem d_Law_law_815 : decode code 815 = .ok (.ireturn, 1) := by decide +kernel
theorem d_Law_law_816 : decode code 816 = .ok (.aload_n 1, 1) := by decide +kernel
theorem d_Law_law_817 : decode code 817 = .ok (.aload_n 0, 1) := by decide +kernel
theorem d_Law_law_818 : decode code 818 = .ok (.iload 4, 2) := by decide +kernel
theorem d_Law_law_820 : decode code 820 = .ok (.iconst 1, 1) := by decide +kernel
theorem d_Law_law_821 : decode code 821 = .ok (.iadd, 1) := by decide +kernel
theorem d_Law_law_822 : decode code 822 = .ok (.iaload, 1) := by decide +kernel
theorem d_Law_law_823 : decode code 823 = .ok (.aload_n 0, 1) := by decide +kernel
theorem d_Law_law_824 : decode code 824 = .ok (.iload 4, 2) := by decide +kernel
theorem d_Law_law_826 : decode code 826 = .ok (.iconst 2, 1) := by decide +kernel
theorem d_Law_law_827 : decode code 827 = .ok (.iadd, 1) := by decide +kernel
theorem d_Law_law_828 : decode code 828 = .ok (.iaload, 1) := by decide +kernel
theorem d_Law_law_829 : decode code 829 = .ok (.aload_n 3, 1) := by decide +kernel
theorem d_Law_law_830 : decode code 830 = .ok (.invokestatic 120, 3) := by decide +kernel
theorem d_Law_law_833 : decode code 833 = .ok (.istore 5, 2) := by decide +kernel
theorem d_Law_law_835 : decode code 835 = .ok (.aload_n 2, 1) := by decide +kernel
theorem d_Law_law_836 : decode code 836 = .ok (.aload_n 0, 1) := by decide +kernel
theorem d_Law_law_837 : decode code 837 = .ok (.iload 4, 2) := by decide +kernel
theorem d_Law_law_839 : decode code 839 = .ok (.iconst 1, 1) := by decide +kernel
theorem d_Law_law_840 : decode code 840 = .ok (.iadd, 1) := by decide +kernel
theorem d_Law_law_841 : decode code 841 = .ok (.iaload, 1) := by decide +kernel
theorem d_Law_law_842 : decode code 842 = .ok (.aload_n 0, 1) := by decide +kernel
theorem d_Law_law_843 : decode code 843 = .ok (.iload 4, 2) := by decide +kernel
theorem d_Law_law_845 : decode code 845 = .ok (.iconst 2, 1) := by decide +kernel
theorem d_Law_law_846 : decode code 846 = .ok (.iadd, 1) := by decide +kernel
theorem d_Law_law_847 : decode code 847 = .ok (.iaload, 1) := by decide +kernel
theorem d_Law_law_848 : decode code 848 = .ok (.invokevirtual 122, 3) := by decide +kernel
theorem d_Law_law_851 : decode code 851 = .ok (.istore 6, 2) := by decide +kernel
theorem d_Law_law_853 : decode code 853 = .ok (.aload_n 2, 1) := by decide +kernel
theorem d_Law_law_854 : decode code 854 = .ok (.invokevirtual 61, 3) := by decide +kernel
theorem d_Law_law_857 : decode code 857 = .ok (.iload 5, 2) := by decide +kernel
theorem d_Law_law_859 : decode code 859 = .ok (.if_icmp .eq 5, 3) := by decide +kernel
theorem d_Law_law_862 : decode code 862 = .ok (.iconst 0, 1) := by decide +kernel
theorem d_Law_law_863 : decode code 863 = .ok (.ireturn, 1) := by decide +kernel
theorem d_Law_law_864 : decode code 864 = .ok (.iload 5, 2) := by decide +kernel
theorem d_Law_law_866 : decode code 866 = .ok (.ifCond .ne 15, 3) := by decide +kernel
theorem d_Law_law_869 : decode code 869 = .ok (.aload_n 3, 1) := by decide +kernel
theorem d_Law_law_870 : decode code 870 = .ok (.iconst 0, 1) := by decide +kernel
theorem d_Law_law_871 : decode code 871 = .ok (.laload, 1) := by decide +kernel
