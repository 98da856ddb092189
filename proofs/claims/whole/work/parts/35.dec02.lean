theorem dlw_689 : decode code 689 = .ok (.iadd, 1) := by decide +kernel
theorem dlw_690 : decode code 690 = .ok (.iaload, 1) := by decide +kernel
theorem dlw_691 : decode code 691 = .ok (.aload_n 0, 1) := by decide +kernel
theorem dlw_692 : decode code 692 = .ok (.iload 4, 2) := by decide +kernel
theorem dlw_694 : decode code 694 = .ok (.iconst 2, 1) := by decide +kernel
theorem dlw_695 : decode code 695 = .ok (.iadd, 1) := by decide +kernel
theorem dlw_696 : decode code 696 = .ok (.iaload, 1) := by decide +kernel
theorem dlw_697 : decode code 697 = .ok (.invokevirtual 198, 3) := by decide +kernel
theorem dlw_700 : decode code 700 = .ok (.istore 6, 2) := by decide +kernel
theorem dlw_702 : decode code 702 = .ok (.aload_n 2, 1) := by decide +kernel
theorem dlw_703 : decode code 703 = .ok (.invokevirtual 170, 3) := by decide +kernel
theorem dlw_706 : decode code 706 = .ok (.iload 5, 2) := by decide +kernel
theorem dlw_708 : decode code 708 = .ok (.if_icmp .eq 5, 3) := by decide +kernel
theorem dlw_711 : decode code 711 = .ok (.iconst 0, 1) := by decide +kernel
theorem dlw_712 : decode code 712 = .ok (.ireturn, 1) := by decide +kernel
theorem dlw_713 : decode code 713 = .ok (.iload 5, 2) := by decide +kernel
theorem dlw_715 : decode code 715 = .ok (.ifCond .ne 15, 3) := by decide +kernel
theorem dlw_718 : decode code 718 = .ok (.aload_n 3, 1) := by decide +kernel
theorem dlw_719 : decode code 719 = .ok (.iconst 0, 1) := by decide +kernel
theorem dlw_720 : decode code 720 = .ok (.laload, 1) := by decide +kernel
theorem dlw_721 : decode code 721 = .ok (.iload 6, 2) := by decide +kernel
theorem dlw_723 : decode code 723 = .ok (.i2l, 1) := by decide +kernel
theorem dlw_724 : decode code 724 = .ok (.lcmp, 1) := by decide +kernel
theorem dlw_725 : decode code 725 = .ok (.ifCond .eq 5, 3) := by decide +kernel
theorem dlw_728 : decode code 728 = .ok (.iconst 0, 1) := by decide +kernel
theorem dlw_729 : decode code 729 = .ok (.ireturn, 1) := by decide +kernel
theorem dlw_730 : decode code 730 = .ok (.goto 2457, 3) := by decide +kernel
theorem dlw_733 : decode code 733 = .ok (.aload_n 1, 1) := by decide +kernel
theorem dlw_734 : decode code 734 = .ok (.aload_n 0, 1) := by decide +kernel
theorem dlw_735 : decode code 735 = .ok (.iload 4, 2) := by decide +kernel
theorem dlw_737 : decode code 737 = .ok (.iconst 1, 1) := by decide +kernel
theorem dlw_738 : decode code 738 = .ok (.iadd, 1) := by decide +kernel
theorem dlw_739 : decode code 739 = .ok (.iaload, 1) := by decide +kernel
theorem dlw_740 : decode code 740 = .ok (.aload_n 0, 1) := by decide +kernel
theorem dlw_741 : decode code 741 = .ok (.iload 4, 2) := by decide +kernel
theorem dlw_743 : decode code 743 = .ok (.iconst 2, 1) := by decide +kernel
theorem dlw_744 : decode code 744 = .ok (.iadd, 1) := by decide +kernel
theorem dlw_745 : decode code 745 = .ok (.iaload, 1) := by decide +kernel
theorem dlw_746 : decode code 746 = .ok (.aload_n 0, 1) := by decide +kernel
theorem dlw_747 : decode code 747 = .ok (.iload 4, 2) := by decide +kernel
theorem dlw_749 : decode code 749 = .ok (.iconst 3, 1) := by decide +kernel
theorem dlw_750 : decode code 750 = .ok (.iadd, 1) := by decide +kernel
theorem dlw_751 : decode code 751 = .ok (.iaload, 1) := by decide +kernel
theorem dlw_752 : decode code 752 = .ok (.aload_n 3, 1) := by decide +kernel
theorem dlw_753 : decode code 753 = .ok (.invokestatic 199, 3) := by decide +kernel
theorem dlw_756 : decode code 756 = .ok (.istore 5, 2) := by decide +kernel
theorem dlw_758 : decode code 758 = .ok (.aload_n 2, 1) := by decide +kernel
theorem dlw_759 : decode code 759 = .ok (.aload_n 0, 1) := by decide +kernel
theorem dlw_760 : decode code 760 = .ok (.iload 4, 2) := by decide +kernel
theorem dlw_762 : decode code 762 = .ok (.iconst 1, 1) := by decide +kernel
theorem dlw_763 : decode code 763 = .ok (.iadd, 1) := by decide +kernel
theorem dlw_764 : decode code 764 = .ok (.iaload, 1) := by decide +kernel
theorem dlw_765 : decode code 765 = .ok (.aload_n 0, 1) := by decide +kernel
theorem dlw_766 : decode code 766 = .ok (.iload 4, 2) := by decide +kernel
theorem dlw_768 : decode code 768 = .ok (.iconst 2, 1) := by decide +kernel
theorem dlw_769 : decode code 769 = .ok (.iadd, 1) := by decide +kernel
theorem dlw_770 : decode code 770 = .ok (.iaload, 1) := by decide +kernel
theorem dlw_771 : decode code 771 = .ok (.aload_n 0, 1) := by decide +kernel
theorem dlw_772 : decode code 772 = .ok (.iload 4, 2) := by decide +kernel
theorem dlw_774 : decode code 774 = .ok (.iconst 3, 1) := by decide +kernel
theorem dlw_775 : decode code 775 = .ok (.iadd, 1) := by decide +kernel
theorem dlw_776 : decode code 776 = .ok (.iaload, 1) := by decide +kernel
theorem dlw_777 : decode code 777 = .ok (.invokevirtual 201, 3) := by decide +kernel
theorem dlw_780 : decode code 780 = .ok (.istore 6, 2) := by decide +kernel
theorem dlw_782 : decode code 782 = .ok (.aload_n 2, 1) := by decide +kernel
theorem dlw_783 : decode code 783 = .ok (.invokevirtual 170, 3) := by decide +kernel
theorem dlw_786 : decode code 786 = .ok (.iload 5, 2) := by decide +kernel
theorem dlw_788 : decode code 788 = .ok (.if_icmp .eq 5, 3) := by decide +kernel
theorem dlw_791 : decode code 791 = .ok (.iconst 0, 1) := by decide +kernel
theorem dlw_792 : decode code 792 = .ok (.ireturn, 1) := by decide +kernel
theorem dlw_793 : decode code 793 = .ok (.iload 5, 2) := by decide +kernel
theorem dlw_795 : decode code 795 = .ok (.ifCond .ne 15, 3) := by decide +kernel
theorem dlw_798 : decode code 798 = .ok (.aload_n 3, 1) := by decide +kernel
theorem dlw_799 : decode code 799 = .ok (.iconst 0, 1) := by decide +kernel
theorem dlw_800 : decode code 800 = .ok (.laload, 1) := by decide +kernel
theorem dlw_801 : decode code 801 = .ok (.iload 6, 2) := by decide +kernel
theorem dlw_803 : decode code 803 = .ok (.i2l, 1) := by decide +kernel
theorem dlw_804 : decode code 804 = .ok (.lcmp, 1) := by decide +kernel
theorem dlw_805 : decode code 805 = .ok (.ifCond .eq 5, 3) := by decide +kernel
theorem dlw_808 : decode code 808 = .ok (.iconst 0, 1) := by decide +kernel
theorem dlw_809 : decode code 809 = .ok (.ireturn, 1) := by decide +kernel
theorem dlw_810 : decode code 810 = .ok (.goto 2377, 3) := by decide +kernel
theorem dlw_813 : decode code 813 = .ok (.aload_n 1, 1) := by decide +kernel
theorem dlw_814 : decode code 814 = .ok (.aload_n 0, 1) := by decide +kernel
theorem dlw_815 : decode code 815 = .ok (.iload 4, 2) := by decide +kernel
theorem dlw_817 : decode code 817 = .ok (.iconst 1, 1) := by decide +kernel
theorem dlw_818 : decode code 818 = .ok (.iadd, 1) := by decide +kernel
theorem dlw_819 : decode code 819 = .ok (.iaload, 1) := by decide +kernel
theorem dlw_820 : decode code 820 = .ok (.aload_n 0, 1) := by decide +kernel
theorem dlw_821 : decode code 821 = .ok (.iload 4, 2) := by decide +kernel
theorem dlw_823 : decode code 823 = .ok (.iconst 2, 1) := by decide +kernel
theorem dlw_824 : decode code 824 = .ok (.iadd, 1) := by decide +kernel
theorem dlw_825 : decode code 825 = .ok (.iaload, 1) := by decide +kernel
theorem dlw_826 : decode code 826 = .ok (.aload_n 3, 1) := by decide +kernel
theorem dlw_827 : decode code 827 = .ok (.invokestatic 202, 3) := by decide +kernel
theorem dlw_830 : decode code 830 = .ok (.istore 5, 2) := by decide +kernel
theorem dlw_832 : decode code 832 = .ok (.aload_n 2, 1) := by decide +kernel
theorem dlw_833 : decode code 833 = .ok (.aload_n 0, 1) := by decide +kernel
theorem dlw_834 : decode code 834 = .ok (.iload 4, 2) := by decide +kernel
theorem dlw_836 : decode code 836 = .ok (.iconst 1, 1) := by decide +kernel
theorem dlw_837 : decode code 837 = .ok (.iadd, 1) := by decide +kernel
theorem dlw_838 : decode code 838 = .ok (.iaload, 1) := by decide +kernel
theorem dlw_839 : decode code 839 = .ok (.aload_n 0, 1) := by decide +kernel
theorem dlw_840 : decode code 840 = .ok (.iload 4, 2) := by decide +kernel
theorem dlw_842 : decode code 842 = .ok (.iconst 2, 1) := by decide +kernel
theorem dlw_843 : decode code 843 = .ok (.iadd, 1) := by decide +kernel
theorem dlw_844 : decode code 844 = .ok (.iaload, 1) := by decide +kernel
theorem dlw_845 : decode code 845 = .ok (.invokevirtual 204, 3) := by decide +kernel
theorem dlw_848 : decode code 848 = .ok (.istore 6, 2) := by decide +kernel
theorem dlw_850 : decode code 850 = .ok (.aload_n 2, 1) := by decide +kernel
theorem dlw_851 : decode code 851 = .ok (.invokevirtual 170, 3) := by decide +kernel
theorem dlw_854 : decode code 854 = .ok (.iload 5, 2) := by decide +kernel
theorem dlw_856 : decode code 856 = .ok (.if_icmp .eq 5, 3) := by decide +kernel
theorem dlw_859 : decode code 859 = .ok (.iconst 0, 1) := by decide +kernel
theorem dlw_860 : decode code 860 = .ok (.ireturn, 1) := by decide +kernel
theorem dlw_861 : decode code 861 = .ok (.iload 5, 2) := by decide +kernel
theorem dlw_863 : decode code 863 = .ok (.ifCond .ne 15, 3) := by decide +kernel
theorem dlw_866 : decode code 866 = .ok (.aload_n 3, 1) := by decide +kernel
theorem dlw_867 : decode code 867 = .ok (.iconst 0, 1) := by decide +kernel
theorem dlw_868 : decode code 868 = .ok (.laload, 1) := by decide +kernel
theorem dlw_869 : decode code 869 = .ok (.iload 6, 2) := by decide +kernel
theorem dlw_871 : decode code 871 = .ok (.i2l, 1) := by decide +kernel
theorem dlw_872 : decode code 872 = .ok (.lcmp, 1) := by decide +kernel
theorem dlw_873 : decode code 873 = .ok (.ifCond .eq 5, 3) := by decide +kernel
theorem dlw_876 : decode code 876 = .ok (.iconst 0, 1) := by decide +kernel
theorem dlw_877 : decode code 877 = .ok (.ireturn, 1) := by decide +kernel
theorem dlw_878 : decode code 878 = .ok (.goto 2309, 3) := by decide +kernel
theorem dlw_881 : decode code 881 = .ok (.aload_n 1, 1) := by decide +kernel
theorem dlw_882 : decode code 882 = .ok (.aload_n 0, 1) := by decide +kernel
theorem dlw_883 : decode code 883 = .ok (.iload 4, 2) := by decide +kernel
theorem dlw_885 : decode code 885 = .ok (.iconst 1, 1) := by decide +kernel
theorem dlw_886 : decode code 886 = .ok (.iadd, 1) := by decide +kernel
theorem dlw_887 : decode code 887 = .ok (.iaload, 1) := by decide +kernel
theorem dlw_888 : decode code 888 = .ok (.aload_n 3, 1) := by decide +kernel
theorem dlw_889 : decode code 889 = .ok (.invokestatic 205, 3) := by decide +kernel
theorem dlw_892 : decode code 892 = .ok (.istore 5, 2) := by decide +kernel
theorem dlw_894 : decode code 894 = .ok (.aload_n 2, 1) := by decide +kernel
theorem dlw_895 : decode code 895 = .ok (.aload_n 0, 1) := by decide +kernel
theorem dlw_896 : decode code 896 = .ok (.iload 4, 2) := by decide +kernel
theorem dlw_898 : decode code 898 = .ok (.iconst 1, 1) := by decide +kernel
theorem dlw_899 : decode code 899 = .ok (.iadd, 1) := by decide +kernel
theorem dlw_900 : decode code 900 = .ok (.iaload, 1) := by decide +kernel
theorem dlw_901 : decode code 901 = .ok (.invokevirtual 207, 3) := by decide +kernel
theorem dlw_904 : decode code 904 = .ok (.istore 6, 2) := by decide +kernel
theorem dlw_906 : decode code 906 = .ok (.aload_n 2, 1) := by decide +kernel
theorem dlw_907 : decode code 907 = .ok (.invokevirtual 170, 3) := by decide +kernel
theorem dlw_910 : decode code 910 = .ok (.iload 5, 2) := by decide +kernel
theorem dlw_912 : decode code 912 = .ok (.if_icmp .eq 5, 3) := by decide +kernel
theorem dlw_915 : decode code 915 = .ok (.iconst 0, 1) := by decide +kernel
theorem dlw_916 : decode code 916 = .ok (.ireturn, 1) := by decide +kernel
