theorem d_Law_law_707 : decode code 707 = .ok (.iload 4, 2) := by decide +kernel
theorem d_Law_law_709 : decode code 709 = .ok (.iconst 3, 1) := by decide +kernel
theorem d_Law_law_710 : decode code 710 = .ok (.iadd, 1) := by decide +kernel
theorem d_Law_law_711 : decode code 711 = .ok (.iaload, 1) := by decide +kernel
theorem d_Law_law_712 : decode code 712 = .ok (.invokevirtual 46, 3) := by decide +kernel
theorem d_Law_law_715 : decode code 715 = .ok (.aload_n 2, 1) := by decide +kernel
theorem d_Law_law_716 : decode code 716 = .ok (.aload_n 0, 1) := by decide +kernel
theorem d_Law_law_717 : decode code 717 = .ok (.iload 4, 2) := by decide +kernel
theorem d_Law_law_719 : decode code 719 = .ok (.iconst 1, 1) := by decide +kernel
theorem d_Law_law_720 : decode code 720 = .ok (.iadd, 1) := by decide +kernel
theorem d_Law_law_721 : decode code 721 = .ok (.iaload, 1) := by decide +kernel
theorem d_Law_law_722 : decode code 722 = .ok (.aload_n 0, 1) := by decide +kernel
theorem d_Law_law_723 : decode code 723 = .ok (.iload 4, 2) := by decide +kernel
theorem d_Law_law_725 : decode code 725 = .ok (.iconst 2, 1) := by decide +kernel
theorem d_Law_law_726 : decode code 726 = .ok (.iadd, 1) := by decide +kernel
theorem d_Law_law_727 : decode code 727 = .ok (.iaload, 1) := by decide +kernel
theorem d_Law_law_728 : decode code 728 = .ok (.aload_n 0, 1) := by decide +kernel
theorem d_Law_law_729 : decode code 729 = .ok (.iload 4, 2) := by decide +kernel
theorem d_Law_law_731 : decode code 731 = .ok (.iconst 3, 1) := by decide +kernel
theorem d_Law_law_732 : decode code 732 = .ok (.iadd, 1) := by decide +kernel
theorem d_Law_law_733 : decode code 733 = .ok (.iaload, 1) := by decide +kernel
theorem d_Law_law_734 : decode code 734 = .ok (.invokevirtual 50, 3) := by decide +kernel
theorem d_Law_law_737 : decode code 737 = .ok (.if_icmp .eq 590, 3) := by decide +kernel
theorem d_Law_law_740 : decode code 740 = .ok (.iconst 0, 1) := by decide +kernel
theorem d_Law_law_741 : decode code 741 = .ok (.ireturn, 1) := by decide +kernel
theorem d_Law_law_742 : decode code 742 = .ok (.aload_n 1, 1) := by decide +kernel
theorem d_Law_law_743 : decode code 743 = .ok (.aload_n 0, 1) := by decide +kernel
theorem d_Law_law_744 : decode code 744 = .ok (.iload 4, 2) := by decide +kernel
theorem d_Law_law_746 : decode code 746 = .ok (.iconst 1, 1) := by decide +kernel
theorem d_Law_law_747 : decode code 747 = .ok (.iadd, 1) := by decide +kernel
theorem d_Law_law_748 : decode code 748 = .ok (.iaload, 1) := by decide +kernel
theorem d_Law_law_749 : decode code 749 = .ok (.i2l, 1) := by decide +kernel
theorem d_Law_law_750 : decode code 750 = .ok (.bipush 32, 2) := by decide +kernel
theorem d_Law_law_752 : decode code 752 = .ok (.lshl, 1) := by decide +kernel
theorem d_Law_law_753 : decode code 753 = .ok (.aload_n 0, 1) := by decide +kernel
theorem d_Law_law_754 : decode code 754 = .ok (.iload 4, 2) := by decide +kernel
theorem d_Law_law_756 : decode code 756 = .ok (.iconst 2, 1) := by decide +kernel
theorem d_Law_law_757 : decode code 757 = .ok (.iadd, 1) := by decide +kernel
theorem d_Law_law_758 : decode code 758 = .ok (.iaload, 1) := by decide +kernel
theorem d_Law_law_759 : decode code 759 = .ok (.i2l, 1) := by decide +kernel
theorem d_Law_law_760 : decode code 760 = .ok (.ldc2_w 19, 3) := by decide +kernel
theorem d_Law_law_763 : decode code 763 = .ok (.land, 1) := by decide +kernel
theorem d_Law_law_764 : decode code 764 = .ok (.lor, 1) := by decide +kernel
theorem d_Law_law_765 : decode code 765 = .ok (.aload_n 0, 1) := by decide +kernel
theorem d_Law_law_766 : decode code 766 = .ok (.iload 4, 2) := by decide +kernel
theorem d_Law_law_768 : decode code 768 = .ok (.iconst 3, 1) := by decide +kernel
theorem d_Law_law_769 : decode code 769 = .ok (.iadd, 1) := by decide +kernel
theorem d_Law_law_770 : decode code 770 = .ok (.iaload, 1) := by decide +kernel
theorem d_Law_law_771 : decode code 771 = .ok (.i2l, 1) := by decide +kernel
theorem d_Law_law_772 : decode code 772 = .ok (.bipush 32, 2) := by decide +kernel
theorem d_Law_law_774 : decode code 774 = .ok (.lshl, 1) := by decide +kernel
theorem d_Law_law_775 : decode code 775 = .ok (.aload_n 0, 1) := by decide +kernel
theorem d_Law_law_776 : decode code 776 = .ok (.iload 4, 2) := by decide +kernel
theorem d_Law_law_778 : decode code 778 = .ok (.iconst 4, 1) := by decide +kernel
theorem d_Law_law_779 : decode code 779 = .ok (.iadd, 1) := by decide +kernel
theorem d_Law_law_780 : decode code 780 = .ok (.iaload, 1) := by decide +kernel
theorem d_Law_law_781 : decode code 781 = .ok (.i2l, 1) := by decide +kernel
theorem d_Law_law_782 : decode code 782 = .ok (.ldc2_w 19, 3) := by decide +kernel
theorem d_Law_law_785 : decode code 785 = .ok (.land, 1) := by decide +kernel
theorem d_Law_law_786 : decode code 786 = .ok (.lor, 1) := by decide +kernel
theorem d_Law_law_787 : decode code 787 = .ok (.invokevirtual 51, 3) := by decide +kernel
theorem d_Law_law_790 : decode code 790 = .ok (.aload_n 2, 1) := by decide +kernel
theorem d_Law_law_791 : decode code 791 = .ok (.aload_n 0, 1) := by decide +kernel
theorem d_Law_law_792 : decode code 792 = .ok (.iload 4, 2) := by decide +kernel
theorem d_Law_law_794 : decode code 794 = .ok (.iconst 1, 1) := by decide +kernel
theorem d_Law_law_795 : decode code 795 = .ok (.iadd, 1) := by decide +kernel
theorem d_Law_law_796 : decode code 796 = .ok (.iaload, 1) := by decide +kernel
theorem d_Law_law_797 : decode code 797 = .ok (.i2l, 1) := by decide +kernel
theorem d_Law_law_798 : decode code 798 = .ok (.bipush 32, 2) := by decide +kernel
theorem d_Law_law_800 : decode code 800 = .ok (.lshl, 1) := by decide +kernel
theorem d_Law_law_801 : decode code 801 = .ok (.aload_n 0, 1) := by decide +kernel
theorem d_Law_law_802 : decode code 802 = .ok (.iload 4, 2) := by decide +kernel
theorem d_Law_law_804 : decode code 804 = .ok (.iconst 2, 1) := by decide +kernel
theorem d_Law_law_805 : decode code 805 = .ok (.iadd, 1) := by decide +kernel
theorem d_Law_law_806 : decode code 806 = .ok (.iaload, 1) := by decide +kernel
theorem d_Law_law_807 : decode code 807 = .ok (.i2l, 1) := by decide +kernel
theorem d_Law_law_808 : decode code 808 = .ok (.ldc2_w 19, 3) := by decide +kernel
theorem d_Law_law_811 : decode code 811 = .ok (.land, 1) := by decide +kernel
theorem d_Law_law_812 : decode code 812 = .ok (.lor, 1) := by decide +kernel
theorem d_Law_law_813 : decode code 813 = .ok (.aload_n 0, 1) := by decide +kernel
theorem d_Law_law_814 : decode code 814 = .ok (.iload 4, 2) := by decide +kernel
theorem d_Law_law_816 : decode code 816 = .ok (.iconst 3, 1) := by decide +kernel
theorem d_Law_law_817 : decode code 817 = .ok (.iadd, 1) := by decide +kernel
theorem d_Law_law_818 : decode code 818 = .ok (.iaload, 1) := by decide +kernel
theorem d_Law_law_819 : decode code 819 = .ok (.i2l, 1) := by decide +kernel
theorem d_Law_law_820 : decode code 820 = .ok (.bipush 32, 2) := by decide +kernel
theorem d_Law_law_822 : decode code 822 = .ok (.lshl, 1) := by decide +kernel
theorem d_Law_law_823 : decode code 823 = .ok (.aload_n 0, 1) := by decide +kernel
theorem d_Law_law_824 : decode code 824 = .ok (.iload 4, 2) := by decide +kernel
theorem d_Law_law_826 : decode code 826 = .ok (.iconst 4, 1) := by decide +kernel
theorem d_Law_law_827 : decode code 827 = .ok (.iadd, 1) := by decide +kernel
theorem d_Law_law_828 : decode code 828 = .ok (.iaload, 1) := by decide +kernel
theorem d_Law_law_829 : decode code 829 = .ok (.i2l, 1) := by decide +kernel
theorem d_Law_law_830 : decode code 830 = .ok (.ldc2_w 19, 3) := by decide +kernel
theorem d_Law_law_833 : decode code 833 = .ok (.land, 1) := by decide +kernel
theorem d_Law_law_834 : decode code 834 = .ok (.lor, 1) := by decide +kernel
theorem d_Law_law_835 : decode code 835 = .ok (.invokevirtual 55, 3) := by decide +kernel
theorem d_Law_law_838 : decode code 838 = .ok (.if_icmp .eq 489, 3) := by decide +kernel
theorem d_Law_law_841 : decode code 841 = .ok (.iconst 0, 1) := by decide +kernel
theorem d_Law_law_842 : decode code 842 = .ok (.ireturn, 1) := by decide +kernel
theorem d_Law_law_843 : decode code 843 = .ok (.aload_n 1, 1) := by decide +kernel
theorem d_Law_law_844 : decode code 844 = .ok (.aload_n 0, 1) := by decide +kernel
theorem d_Law_law_845 : decode code 845 = .ok (.iload 4, 2) := by decide +kernel
theorem d_Law_law_847 : decode code 847 = .ok (.iconst 1, 1) := by decide +kernel
theorem d_Law_law_848 : decode code 848 = .ok (.iadd, 1) := by decide +kernel
theorem d_Law_law_849 : decode code 849 = .ok (.iaload, 1) := by decide +kernel
theorem d_Law_law_850 : decode code 850 = .ok (.aload_n 0, 1) := by decide +kernel
theorem d_Law_law_851 : decode code 851 = .ok (.iload 4, 2) := by decide +kernel
theorem d_Law_law_853 : decode code 853 = .ok (.iconst 2, 1) := by decide +kernel
theorem d_Law_law_854 : decode code 854 = .ok (.iadd, 1) := by decide +kernel
theorem d_Law_law_855 : decode code 855 = .ok (.iaload, 1) := by decide +kernel
theorem d_Law_law_856 : decode code 856 = .ok (.i2l, 1) := by decide +kernel
theorem d_Law_law_857 : decode code 857 = .ok (.bipush 32, 2) := by decide +kernel
theorem d_Law_law_859 : decode code 859 = .ok (.lshl, 1) := by decide +kernel
theorem d_Law_law_860 : decode code 860 = .ok (.aload_n 0, 1) := by decide +kernel
theorem d_Law_law_861 : decode code 861 = .ok (.iload 4, 2) := by decide +kernel
theorem d_Law_law_863 : decode code 863 = .ok (.iconst 3, 1) := by decide +kernel
theorem d_Law_law_864 : decode code 864 = .ok (.iadd, 1) := by decide +kernel
theorem d_Law_law_865 : decode code 865 = .ok (.iaload, 1) := by decide +kernel
theorem d_Law_law_866 : decode code 866 = .ok (.i2l, 1) := by decide +kernel
theorem d_Law_law_867 : decode code 867 = .ok (.ldc2_w 19, 3) := by decide +kernel
theorem d_Law_law_870 : decode code 870 = .ok (.land, 1) := by decide +kernel
theorem d_Law_law_871 : decode code 871 = .ok (.lor, 1) := by decide +kernel
theorem d_Law_law_872 : decode code 872 = .ok (.invokevirtual 56, 3) := by decide +kernel
theorem d_Law_law_875 : decode code 875 = .ok (.aload_n 2, 1) := by decide +kernel
theorem d_Law_law_876 : decode code 876 = .ok (.aload_n 0, 1) := by decide +kernel
theorem d_Law_law_877 : decode code 877 = .ok (.iload 4, 2) := by decide +kernel
theorem d_Law_law_879 : decode code 879 = .ok (.iconst 1, 1) := by decide +kernel
theorem d_Law_law_880 : decode code 880 = .ok (.iadd, 1) := by decide +kernel
theorem d_Law_law_881 : decode code 881 = .ok (.iaload, 1) := by decide +kernel
theorem d_Law_law_882 : decode code 882 = .ok (.aload_n 0, 1) := by decide +kernel
theorem d_Law_law_883 : decode code 883 = .ok (.iload 4, 2) := by decide +kernel
theorem d_Law_law_885 : decode code 885 = .ok (.iconst 2, 1) := by decide +kernel
theorem d_Law_law_886 : decode code 886 = .ok (.iadd, 1) := by decide +kernel
theorem d_Law_law_887 : decode code 887 = .ok (.iaload, 1) := by decide +kernel
theorem d_Law_law_888 : decode code 888 = .ok (.i2l, 1) := by decide +kernel
theorem d_Law_law_889 : decode code 889 = .ok (.bipush 32, 2) := by decide +kernel
theorem d_Law_law_891 : decode code 891 = .ok (.lshl, 1) := by decide +kernel
theorem d_Law_law_892 : decode code 892 = .ok (.aload_n 0, 1) := by decide +kernel
theorem d_Law_law_893 : decode code 893 = .ok (.iload 4, 2) := by decide +kernel
theorem d_Law_law_895 : decode code 895 = .ok (.iconst 3, 1) := by decide +kernel
theorem d_Law_law_896 : decode code 896 = .ok (.iadd, 1) := by decide +kernel
theorem d_Law_law_897 : decode code 897 = .ok (.iaload, 1) := by decide +kernel
theorem d_Law_law_898 : decode code 898 = .ok (.i2l, 1) := by decide +kernel
theorem d_Law_law_899 : decode code 899 = .ok (.ldc2_w 19, 3) := by decide +kernel
theorem d_Law_law_902 : decode code 902 = .ok (.land, 1) := by decide +kernel
theorem d_Law_law_903 : decode code 903 = .ok (.lor, 1) := by decide +kernel
theorem d_Law_law_904 : decode code 904 = .ok (.invokevirtual 60, 3) := by decide +kernel
theorem d_Law_law_907 : decode code 907 = .ok (.if_icmp .eq 420, 3) := by decide +kernel
theorem d_Law_law_910 : decode code 910 = .ok (.iconst 0, 1) := by decide +kernel
theorem d_Law_law_911 : decode code 911 = .ok (.ireturn, 1) := by decide +kernel
theorem d_Law_law_912 : decode code 912 = .ok (.aload_n 1, 1) := by decide +kernel
theorem d_Law_law_913 : decode code 913 = .ok (.aload_n 0, 1) := by decide +kernel
theorem d_Law_law_914 : decode code 914 = .ok (.iload 4, 2) := by decide +kernel
theorem d_Law_law_916 : decode code 916 = .ok (.iconst 1, 1) := by decide +kernel
theorem d_Law_law_917 : decode code 917 = .ok (.iadd, 1) := by decide +kernel
theorem d_Law_law_918 : decode code 918 = .ok (.iaload, 1) := by decide +kernel
theorem d_Law_law_919 : decode code 919 = .ok (.aload_n 3, 1) := by decide +kernel
theorem d_Law_law_920 : decode code 920 = .ok (.invokestatic 61, 3) := by decide +kernel
theorem d_Law_law_923 : decode code 923 = .ok (.istore 5, 2) := by decide +kernel
theorem d_Law_law_925 : decode code 925 = .ok (.aload_n 2, 1) := by decide +kernel
theorem d_Law_law_926 : decode code 926 = .ok (.aload_n 0, 1) := by decide +kernel
theorem d_Law_law_927 : decode code 927 = .ok (.iload 4, 2) := by decide +kernel
theorem d_Law_law_929 : decode code 929 = .ok (.iconst 1, 1) := by decide +kernel
theorem d_Law_law_930 : decode code 930 = .ok (.iadd, 1) := by decide +kernel
theorem d_Law_law_931 : decode code 931 = .ok (.iaload, 1) := by decide +kernel
theorem d_Law_law_932 : decode code 932 = .ok (.invokevirtual 66, 3) := by decide +kernel
theorem d_Law_law_935 : decode code 935 = .ok (.istore 6, 2) := by decide +kernel
theorem d_Law_law_937 : decode code 937 = .ok (.aload_n 2, 1) := by decide +kernel
theorem d_Law_law_938 : decode code 938 = .ok (.invokevirtual 67, 3) := by decide +kernel
theorem d_Law_law_941 : decode code 941 = .ok (.iload 5, 2) := by decide +kernel
theorem d_Law_law_943 : decode code 943 = .ok (.if_icmp .eq 5, 3) := by decide +kernel
theorem d_Law_law_946 : decode code 946 = .ok (.iconst 0, 1) := by decide +kernel
theorem d_Law_law_947 : decode code 947 = .ok (.ireturn, 1) := by decide +kernel
theorem d_Law_law_948 : decode code 948 = .ok (.iload 5, 2) := by decide +kernel
theorem d_Law_law_950 : decode code 950 = .ok (.ifCond .ne 15, 3) := by decide +kernel
theorem d_Law_law_953 : decode code 953 = .ok (.aload_n 3, 1) := by decide +kernel
theorem d_Law_law_954 : decode code 954 = .ok (.iconst 0, 1) := by decide +kernel
theorem d_Law_law_955 : decode code 955 = .ok (.laload, 1) := by decide +kernel
theorem d_Law_law_956 : decode code 956 = .ok (.iload 6, 2) := by decide +kernel
theorem d_Law_law_958 : decode code 958 = .ok (.i2l, 1) := by decide +kernel
theorem d_Law_law_959 : decode code 959 = .ok (.lcmp, 1) := by decide +kernel
theorem d_Law_law_960 : decode code 960 = .ok (.ifCond .eq 5, 3) := by decide +kernel
theorem d_Law_law_963 : decode code 963 = .ok (.iconst 0, 1) := by decide +kernel
theorem d_Law_law_964 : decode code 964 = .ok (.ireturn, 1) := by decide +kernel
theorem d_Law_law_965 : decode code 965 = .ok (.goto 362, 3) := by decide +kernel
theorem d_Law_law_968 : decode code 968 = .ok (.aload_n 1, 1) := by decide +kernel
theorem d_Law_law_969 : decode code 969 = .ok (.aload_n 0, 1) := by decide +kernel
theorem d_Law_law_970 : decode code 970 = .ok (.iload 4, 2) := by decide +kernel
theorem d_Law_law_972 : decode code 972 = .ok (.iconst 1, 1) := by decide +kernel
theorem d_Law_law_973 : decode code 973 = .ok (.iadd, 1) := by decide +kernel
theorem d_Law_law_974 : decode code 974 = .ok (.iaload, 1) := by decide +kernel
theorem d_Law_law_975 : decode code 975 = .ok (.aload_n 0, 1) := by decide +kernel
theorem d_Law_law_976 : decode code 976 = .ok (.iload 4, 2) := by decide +kernel
theorem d_Law_law_978 : decode code 978 = .ok (.iconst 2, 1) := by decide +kernel
theorem d_Law_law_979 : decode code 979 = .ok (.iadd, 1) := by decide +kernel
theorem d_Law_law_980 : decode code 980 = .ok (.iaload, 1) := by decide +kernel
theorem d_Law_law_981 : decode code 981 = .ok (.aload_n 0, 1) := by decide +kernel
theorem d_Law_law_982 : decode code 982 = .ok (.iload 4, 2) := by decide +kernel
theorem d_Law_law_984 : decode code 984 = .ok (.iconst 3, 1) := by decide +kernel
theorem d_Law_law_985 : decode code 985 = .ok (.iadd, 1) := by decide +kernel
theorem d_Law_law_986 : decode code 986 = .ok (.iaload, 1) := by decide +kernel
theorem d_Law_law_987 : decode code 987 = .ok (.invokevirtual 71, 3) := by decide +kernel
theorem d_Law_law_990 : decode code 990 = .ok (.aload_n 2, 1) := by decide +kernel
theorem d_Law_law_991 : decode code 991 = .ok (.aload_n 0, 1) := by decide +kernel
theorem d_Law_law_992 : decode code 992 = .ok (.iload 4, 2) := by decide +kernel
theorem d_Law_law_994 : decode code 994 = .ok (.iconst 1, 1) := by decide +kernel
theorem d_Law_law_995 : decode code 995 = .ok (.iadd, 1) := by decide +kernel
theorem d_Law_law_996 : decode code 996 = .ok (.iaload, 1) := by decide +kernel
theorem d_Law_law_997 : decode code 997 = .ok (.aload_n 0, 1) := by decide +kernel
theorem d_Law_law_998 : decode code 998 = .ok (.iload 4, 2) := by decide +kernel
theorem d_Law_law_1000 : decode code 1000 = .ok (.iconst 2, 1) := by decide +kernel
theorem d_Law_law_1001 : decode code 1001 = .ok (.iadd, 1) := by decide +kernel
theorem d_Law_law_1002 : decode code 1002 = .ok (.iaload, 1) := by decide +kernel
theorem d_Law_law_1003 : decode code 1003 = .ok (.aload_n 0, 1) := by decide +kernel
theorem d_Law_law_1004 : decode code 1004 = .ok (.iload 4, 2) := by decide +kernel
theorem d_Law_law_1006 : decode code 1006 = .ok (.iconst 3, 1) := by decide +kernel
theorem d_Law_law_1007 : decode code 1007 = .ok (.iadd, 1) := by decide +kernel
theorem d_Law_law_1008 : decode code 1008 = .ok (.iaload, 1) := by decide +kernel
theorem d_Law_law_1009 : decode code 1009 = .ok (.invokevirtual 75, 3) := by decide +kernel
theorem d_Law_law_1012 : decode code 1012 = .ok (.lcmp, 1) := by decide +kernel
theorem d_Law_law_1013 : decode code 1013 = .ok (.ifCond .eq 314, 3) := by decide +kernel
theorem d_Law_law_1016 : decode code 1016 = .ok (.iconst 0, 1) := by decide +kernel
theorem d_Law_law_1017 : decode code 1017 = .ok (.ireturn, 1) := by decide +kernel
theorem d_Law_law_1018 : decode code 1018 = .ok (.aload_n 1, 1) := by decide +kernel
theorem d_Law_law_1019 : decode code 1019 = .ok (.aload_n 0, 1) := by decide +kernel
theorem d_Law_law_1020 : decode code 1020 = .ok (.iload 4, 2) := by decide +kernel
theorem d_Law_law_1022 : decode code 1022 = .ok (.iconst 1, 1) := by decide +kernel
