theorem d_L_754 : decode code 754 = .ok (.aload_n 1, 1) := by decide +kernel
theorem d_L_755 : decode code 755 = .ok (.aload_n 0, 1) := by decide +kernel
theorem d_L_756 : decode code 756 = .ok (.iload 4, 2) := by decide +kernel
theorem d_L_758 : decode code 758 = .ok (.iconst 1, 1) := by decide +kernel
theorem d_L_759 : decode code 759 = .ok (.iadd, 1) := by decide +kernel
theorem d_L_760 : decode code 760 = .ok (.iaload, 1) := by decide +kernel
theorem d_L_761 : decode code 761 = .ok (.aload_n 3, 1) := by decide +kernel
theorem d_L_762 : decode code 762 = .ok (.invokestatic 112, 3) := by decide +kernel
theorem d_L_765 : decode code 765 = .ok (.istore 5, 2) := by decide +kernel
theorem d_L_767 : decode code 767 = .ok (.aload_n 2, 1) := by decide +kernel
theorem d_L_768 : decode code 768 = .ok (.aload_n 0, 1) := by decide +kernel
theorem d_L_769 : decode code 769 = .ok (.iload 4, 2) := by decide +kernel
theorem d_L_771 : decode code 771 = .ok (.iconst 1, 1) := by decide +kernel
theorem d_L_772 : decode code 772 = .ok (.iadd, 1) := by decide +kernel
theorem d_L_773 : decode code 773 = .ok (.iaload, 1) := by decide +kernel
theorem d_L_774 : decode code 774 = .ok (.invokevirtual 114, 3) := by decide +kernel
theorem d_L_777 : decode code 777 = .ok (.istore 6, 2) := by decide +kernel
theorem d_L_779 : decode code 779 = .ok (.aload_n 2, 1) := by decide +kernel
theorem d_L_780 : decode code 780 = .ok (.invokevirtual 73, 3) := by decide +kernel
theorem d_L_783 : decode code 783 = .ok (.iload 5, 2) := by decide +kernel
theorem d_L_785 : decode code 785 = .ok (.if_icmp .eq 5, 3) := by decide +kernel
theorem d_L_788 : decode code 788 = .ok (.iconst 0, 1) := by decide +kernel
theorem d_L_789 : decode code 789 = .ok (.ireturn, 1) := by decide +kernel
theorem d_L_790 : decode code 790 = .ok (.iload 5, 2) := by decide +kernel
theorem d_L_792 : decode code 792 = .ok (.ifCond .ne 22, 3) := by decide +kernel
theorem d_L_795 : decode code 795 = .ok (.aload_n 3, 1) := by decide +kernel
theorem d_L_796 : decode code 796 = .ok (.iconst 0, 1) := by decide +kernel
theorem d_L_797 : decode code 797 = .ok (.laload, 1) := by decide +kernel
theorem d_L_798 : decode code 798 = .ok (.iload 6, 2) := by decide +kernel
theorem d_L_800 : decode code 800 = .ok (.ifCond .eq 7, 3) := by decide +kernel
theorem d_L_803 : decode code 803 = .ok (.lconst 1, 1) := by decide +kernel
theorem d_L_804 : decode code 804 = .ok (.goto 4, 3) := by decide +kernel
theorem d_L_807 : decode code 807 = .ok (.lconst 0, 1) := by decide +kernel
theorem d_L_808 : decode code 808 = .ok (.lcmp, 1) := by decide +kernel
theorem d_L_809 : decode code 809 = .ok (.ifCond .eq 5, 3) := by decide +kernel
theorem d_L_812 : decode code 812 = .ok (.iconst 0, 1) := by decide +kernel
theorem d_L_813 : decode code 813 = .ok (.ireturn, 1) := by decide +kernel
theorem d_L_814 : decode code 814 = .ok (.goto 276, 3) := by decide +kernel
theorem d_L_817 : decode code 817 = .ok (.aload_n 1, 1) := by decide +kernel
theorem d_L_818 : decode code 818 = .ok (.aload_n 0, 1) := by decide +kernel
theorem d_L_819 : decode code 819 = .ok (.iload 4, 2) := by decide +kernel
theorem d_L_821 : decode code 821 = .ok (.iconst 1, 1) := by decide +kernel
theorem d_L_822 : decode code 822 = .ok (.iadd, 1) := by decide +kernel
theorem d_L_823 : decode code 823 = .ok (.iaload, 1) := by decide +kernel
theorem d_L_824 : decode code 824 = .ok (.aload_n 3, 1) := by decide +kernel
theorem d_L_825 : decode code 825 = .ok (.invokestatic 115, 3) := by decide +kernel
theorem d_L_828 : decode code 828 = .ok (.istore 5, 2) := by decide +kernel
theorem d_L_830 : decode code 830 = .ok (.aload_n 2, 1) := by decide +kernel
theorem d_L_831 : decode code 831 = .ok (.aload_n 0, 1) := by decide +kernel
theorem d_L_832 : decode code 832 = .ok (.iload 4, 2) := by decide +kernel
theorem d_L_834 : decode code 834 = .ok (.iconst 1, 1) := by decide +kernel
theorem d_L_835 : decode code 835 = .ok (.iadd, 1) := by decide +kernel
theorem d_L_836 : decode code 836 = .ok (.iaload, 1) := by decide +kernel
theorem d_L_837 : decode code 837 = .ok (.invokevirtual 117, 3) := by decide +kernel
theorem d_L_840 : decode code 840 = .ok (.istore 6, 2) := by decide +kernel
theorem d_L_842 : decode code 842 = .ok (.aload_n 2, 1) := by decide +kernel
theorem d_L_843 : decode code 843 = .ok (.invokevirtual 73, 3) := by decide +kernel
theorem d_L_846 : decode code 846 = .ok (.iload 5, 2) := by decide +kernel
theorem d_L_848 : decode code 848 = .ok (.if_icmp .eq 5, 3) := by decide +kernel
theorem d_L_851 : decode code 851 = .ok (.iconst 0, 1) := by decide +kernel
theorem d_L_852 : decode code 852 = .ok (.ireturn, 1) := by decide +kernel
theorem d_L_853 : decode code 853 = .ok (.iload 5, 2) := by decide +kernel
theorem d_L_855 : decode code 855 = .ok (.ifCond .ne 15, 3) := by decide +kernel
theorem d_L_858 : decode code 858 = .ok (.aload_n 3, 1) := by decide +kernel
theorem d_L_859 : decode code 859 = .ok (.iconst 0, 1) := by decide +kernel
theorem d_L_860 : decode code 860 = .ok (.laload, 1) := by decide +kernel
theorem d_L_861 : decode code 861 = .ok (.iload 6, 2) := by decide +kernel
theorem d_L_863 : decode code 863 = .ok (.i2l, 1) := by decide +kernel
theorem d_L_864 : decode code 864 = .ok (.lcmp, 1) := by decide +kernel
theorem d_L_865 : decode code 865 = .ok (.ifCond .eq 5, 3) := by decide +kernel
theorem d_L_868 : decode code 868 = .ok (.iconst 0, 1) := by decide +kernel
theorem d_L_869 : decode code 869 = .ok (.ireturn, 1) := by decide +kernel
theorem d_L_870 : decode code 870 = .ok (.goto 220, 3) := by decide +kernel
theorem d_L_873 : decode code 873 = .ok (.aload_n 1, 1) := by decide +kernel
theorem d_L_874 : decode code 874 = .ok (.aload_n 0, 1) := by decide +kernel
theorem d_L_875 : decode code 875 = .ok (.iload 4, 2) := by decide +kernel
theorem d_L_877 : decode code 877 = .ok (.iconst 1, 1) := by decide +kernel
theorem d_L_878 : decode code 878 = .ok (.iadd, 1) := by decide +kernel
theorem d_L_879 : decode code 879 = .ok (.iaload, 1) := by decide +kernel
theorem d_L_880 : decode code 880 = .ok (.aload_n 3, 1) := by decide +kernel
theorem d_L_881 : decode code 881 = .ok (.invokestatic 118, 3) := by decide +kernel
theorem d_L_884 : decode code 884 = .ok (.istore 5, 2) := by decide +kernel
theorem d_L_886 : decode code 886 = .ok (.aload_n 2, 1) := by decide +kernel
theorem d_L_887 : decode code 887 = .ok (.aload_n 0, 1) := by decide +kernel
theorem d_L_888 : decode code 888 = .ok (.iload 4, 2) := by decide +kernel
theorem d_L_890 : decode code 890 = .ok (.iconst 1, 1) := by decide +kernel
theorem d_L_891 : decode code 891 = .ok (.iadd, 1) := by decide +kernel
theorem d_L_892 : decode code 892 = .ok (.iaload, 1) := by decide +kernel
theorem d_L_893 : decode code 893 = .ok (.invokevirtual 120, 3) := by decide +kernel
theorem d_L_896 : decode code 896 = .ok (.istore 6, 2) := by decide +kernel
theorem d_L_898 : decode code 898 = .ok (.aload_n 2, 1) := by decide +kernel
theorem d_L_899 : decode code 899 = .ok (.invokevirtual 73, 3) := by decide +kernel
theorem d_L_902 : decode code 902 = .ok (.iload 5, 2) := by decide +kernel
theorem d_L_904 : decode code 904 = .ok (.if_icmp .eq 5, 3) := by decide +kernel
theorem d_L_907 : decode code 907 = .ok (.iconst 0, 1) := by decide +kernel
theorem d_L_908 : decode code 908 = .ok (.ireturn, 1) := by decide +kernel
theorem d_L_909 : decode code 909 = .ok (.iload 5, 2) := by decide +kernel
theorem d_L_911 : decode code 911 = .ok (.ifCond .ne 15, 3) := by decide +kernel
theorem d_L_914 : decode code 914 = .ok (.aload_n 3, 1) := by decide +kernel
theorem d_L_915 : decode code 915 = .ok (.iconst 0, 1) := by decide +kernel
theorem d_L_916 : decode code 916 = .ok (.laload, 1) := by decide +kernel
theorem d_L_917 : decode code 917 = .ok (.iload 6, 2) := by decide +kernel
theorem d_L_919 : decode code 919 = .ok (.i2l, 1) := by decide +kernel
theorem d_L_920 : decode code 920 = .ok (.lcmp, 1) := by decide +kernel
theorem d_L_921 : decode code 921 = .ok (.ifCond .eq 5, 3) := by decide +kernel
theorem d_L_924 : decode code 924 = .ok (.iconst 0, 1) := by decide +kernel
theorem d_L_925 : decode code 925 = .ok (.ireturn, 1) := by decide +kernel
theorem d_L_926 : decode code 926 = .ok (.goto 164, 3) := by decide +kernel
theorem d_L_929 : decode code 929 = .ok (.aload_n 1, 1) := by decide +kernel
theorem d_L_930 : decode code 930 = .ok (.aload_n 0, 1) := by decide +kernel
