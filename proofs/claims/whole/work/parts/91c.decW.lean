/-! decode rows of the law -/
theorem d_L_law_771 : decode b_L_law 771 = .ok (.aload_n 3, 1) := by decide +kernel
theorem d_L_law_772 : decode b_L_law 772 = .ok (.iconst 0, 1) := by decide +kernel
theorem d_L_law_773 : decode b_L_law 773 = .ok (.laload, 1) := by decide +kernel
theorem d_L_law_774 : decode b_L_law 774 = .ok (.iload 6, 2) := by decide +kernel
theorem d_L_law_776 : decode b_L_law 776 = .ok (.i2l, 1) := by decide +kernel
theorem d_L_law_777 : decode b_L_law 777 = .ok (.lcmp, 1) := by decide +kernel
theorem d_L_law_778 : decode b_L_law 778 = .ok (.ifCond .eq 5, 3) := by decide +kernel
theorem d_L_law_781 : decode b_L_law 781 = .ok (.iconst 0, 1) := by decide +kernel
theorem d_L_law_782 : decode b_L_law 782 = .ok (.ireturn, 1) := by decide +kernel
theorem d_L_law_783 : decode b_L_law 783 = .ok (.goto 944, 3) := by decide +kernel
theorem d_L_law_786 : decode b_L_law 786 = .ok (.aload_n 1, 1) := by decide +kernel
theorem d_L_law_787 : decode b_L_law 787 = .ok (.aload_n 0, 1) := by decide +kernel
theorem d_L_law_788 : decode b_L_law 788 = .ok (.iload 4, 2) := by decide +kernel
theorem d_L_law_790 : decode b_L_law 790 = .ok (.iconst 1, 1) := by decide +kernel
theorem d_L_law_791 : decode b_L_law 791 = .ok (.iadd, 1) := by decide +kernel
theorem d_L_law_792 : decode b_L_law 792 = .ok (.iaload, 1) := by decide +kernel
theorem d_L_law_793 : decode b_L_law 793 = .ok (.aload_n 0, 1) := by decide +kernel
theorem d_L_law_794 : decode b_L_law 794 = .ok (.iload 4, 2) := by decide +kernel
theorem d_L_law_796 : decode b_L_law 796 = .ok (.iconst 2, 1) := by decide +kernel
theorem d_L_law_797 : decode b_L_law 797 = .ok (.iadd, 1) := by decide +kernel
theorem d_L_law_798 : decode b_L_law 798 = .ok (.iaload, 1) := by decide +kernel
theorem d_L_law_799 : decode b_L_law 799 = .ok (.invokestatic 135, 3) := by decide +kernel
theorem d_L_law_802 : decode b_L_law 802 = .ok (.istore 5, 2) := by decide +kernel
theorem d_L_law_804 : decode b_L_law 804 = .ok (.aload_n 2, 1) := by decide +kernel
theorem d_L_law_805 : decode b_L_law 805 = .ok (.aload_n 0, 1) := by decide +kernel
theorem d_L_law_806 : decode b_L_law 806 = .ok (.iload 4, 2) := by decide +kernel
theorem d_L_law_808 : decode b_L_law 808 = .ok (.iconst 1, 1) := by decide +kernel
theorem d_L_law_809 : decode b_L_law 809 = .ok (.iadd, 1) := by decide +kernel
theorem d_L_law_810 : decode b_L_law 810 = .ok (.iaload, 1) := by decide +kernel
theorem d_L_law_811 : decode b_L_law 811 = .ok (.aload_n 0, 1) := by decide +kernel
theorem d_L_law_812 : decode b_L_law 812 = .ok (.iload 4, 2) := by decide +kernel
theorem d_L_law_814 : decode b_L_law 814 = .ok (.iconst 2, 1) := by decide +kernel
theorem d_L_law_815 : decode b_L_law 815 = .ok (.iadd, 1) := by decide +kernel
theorem d_L_law_816 : decode b_L_law 816 = .ok (.iaload, 1) := by decide +kernel
theorem d_L_law_817 : decode b_L_law 817 = .ok (.invokevirtual 138, 3) := by decide +kernel
theorem d_L_law_820 : decode b_L_law 820 = .ok (.aload_n 2, 1) := by decide +kernel
theorem d_L_law_821 : decode b_L_law 821 = .ok (.invokevirtual 106, 3) := by decide +kernel
theorem d_L_law_824 : decode b_L_law 824 = .ok (.iload 5, 2) := by decide +kernel
theorem d_L_law_826 : decode b_L_law 826 = .ok (.if_icmp .eq 5, 3) := by decide +kernel
theorem d_L_law_829 : decode b_L_law 829 = .ok (.iconst 0, 1) := by decide +kernel
theorem d_L_law_830 : decode b_L_law 830 = .ok (.ireturn, 1) := by decide +kernel
theorem d_L_law_831 : decode b_L_law 831 = .ok (.goto 896, 3) := by decide +kernel
theorem d_L_law_834 : decode b_L_law 834 = .ok (.aload_n 1, 1) := by decide +kernel
theorem d_L_law_835 : decode b_L_law 835 = .ok (.aload_n 0, 1) := by decide +kernel
theorem d_L_law_836 : decode b_L_law 836 = .ok (.iload 4, 2) := by decide +kernel
theorem d_L_law_838 : decode b_L_law 838 = .ok (.iconst 1, 1) := by decide +kernel
theorem d_L_law_839 : decode b_L_law 839 = .ok (.iadd, 1) := by decide +kernel
theorem d_L_law_840 : decode b_L_law 840 = .ok (.iaload, 1) := by decide +kernel
theorem d_L_law_841 : decode b_L_law 841 = .ok (.aload_n 0, 1) := by decide +kernel
theorem d_L_law_842 : decode b_L_law 842 = .ok (.iload 4, 2) := by decide +kernel
theorem d_L_law_844 : decode b_L_law 844 = .ok (.iconst 2, 1) := by decide +kernel
theorem d_L_law_845 : decode b_L_law 845 = .ok (.iadd, 1) := by decide +kernel
theorem d_L_law_846 : decode b_L_law 846 = .ok (.iaload, 1) := by decide +kernel
theorem d_L_law_847 : decode b_L_law 847 = .ok (.aload_n 0, 1) := by decide +kernel
theorem d_L_law_848 : decode b_L_law 848 = .ok (.iload 4, 2) := by decide +kernel
theorem d_L_law_850 : decode b_L_law 850 = .ok (.iconst 3, 1) := by decide +kernel
theorem d_L_law_851 : decode b_L_law 851 = .ok (.iadd, 1) := by decide +kernel
theorem d_L_law_852 : decode b_L_law 852 = .ok (.iaload, 1) := by decide +kernel
theorem d_L_law_853 : decode b_L_law 853 = .ok (.aload_n 0, 1) := by decide +kernel
theorem d_L_law_854 : decode b_L_law 854 = .ok (.iload 4, 2) := by decide +kernel
theorem d_L_law_856 : decode b_L_law 856 = .ok (.iconst 4, 1) := by decide +kernel
theorem d_L_law_857 : decode b_L_law 857 = .ok (.iadd, 1) := by decide +kernel
theorem d_L_law_858 : decode b_L_law 858 = .ok (.iaload, 1) := by decide +kernel
theorem d_L_law_859 : decode b_L_law 859 = .ok (.i2l, 1) := by decide +kernel
theorem d_L_law_860 : decode b_L_law 860 = .ok (.bipush 32, 2) := by decide +kernel
theorem d_L_law_862 : decode b_L_law 862 = .ok (.lshl, 1) := by decide +kernel
theorem d_L_law_863 : decode b_L_law 863 = .ok (.aload_n 0, 1) := by decide +kernel
theorem d_L_law_864 : decode b_L_law 864 = .ok (.iload 4, 2) := by decide +kernel
theorem d_L_law_866 : decode b_L_law 866 = .ok (.iconst 5, 1) := by decide +kernel
theorem d_L_law_867 : decode b_L_law 867 = .ok (.iadd, 1) := by decide +kernel
theorem d_L_law_868 : decode b_L_law 868 = .ok (.iaload, 1) := by decide +kernel
theorem d_L_law_869 : decode b_L_law 869 = .ok (.i2l, 1) := by decide +kernel
theorem d_L_law_870 : decode b_L_law 870 = .ok (.ldc2_w 110, 3) := by decide +kernel
theorem d_L_law_873 : decode b_L_law 873 = .ok (.land, 1) := by decide +kernel
theorem d_L_law_874 : decode b_L_law 874 = .ok (.lor, 1) := by decide +kernel
theorem d_L_law_875 : decode b_L_law 875 = .ok (.aload_n 3, 1) := by decide +kernel
theorem d_L_law_876 : decode b_L_law 876 = .ok (.invokestatic 139, 3) := by decide +kernel
theorem d_L_law_879 : decode b_L_law 879 = .ok (.istore 5, 2) := by decide +kernel
theorem d_L_law_881 : decode b_L_law 881 = .ok (.aload_n 2, 1) := by decide +kernel
theorem d_L_law_882 : decode b_L_law 882 = .ok (.aload_n 0, 1) := by decide +kernel
theorem d_L_law_883 : decode b_L_law 883 = .ok (.iload 4, 2) := by decide +kernel
theorem d_L_law_885 : decode b_L_law 885 = .ok (.iconst 1, 1) := by decide +kernel
theorem d_L_law_886 : decode b_L_law 886 = .ok (.iadd, 1) := by decide +kernel
theorem d_L_law_887 : decode b_L_law 887 = .ok (.iaload, 1) := by decide +kernel
theorem d_L_law_888 : decode b_L_law 888 = .ok (.aload_n 0, 1) := by decide +kernel
theorem d_L_law_889 : decode b_L_law 889 = .ok (.iload 4, 2) := by decide +kernel
theorem d_L_law_891 : decode b_L_law 891 = .ok (.iconst 2, 1) := by decide +kernel
theorem d_L_law_892 : decode b_L_law 892 = .ok (.iadd, 1) := by decide +kernel
theorem d_L_law_893 : decode b_L_law 893 = .ok (.iaload, 1) := by decide +kernel
theorem d_L_law_894 : decode b_L_law 894 = .ok (.aload_n 0, 1) := by decide +kernel
theorem d_L_law_895 : decode b_L_law 895 = .ok (.iload 4, 2) := by decide +kernel
theorem d_L_law_897 : decode b_L_law 897 = .ok (.iconst 3, 1) := by decide +kernel
theorem d_L_law_898 : decode b_L_law 898 = .ok (.iadd, 1) := by decide +kernel
theorem d_L_law_899 : decode b_L_law 899 = .ok (.iaload, 1) := by decide +kernel
theorem d_L_law_900 : decode b_L_law 900 = .ok (.aload_n 0, 1) := by decide +kernel
theorem d_L_law_901 : decode b_L_law 901 = .ok (.iload 4, 2) := by decide +kernel
theorem d_L_law_903 : decode b_L_law 903 = .ok (.iconst 4, 1) := by decide +kernel
theorem d_L_law_904 : decode b_L_law 904 = .ok (.iadd, 1) := by decide +kernel
theorem d_L_law_905 : decode b_L_law 905 = .ok (.iaload, 1) := by decide +kernel
theorem d_L_law_906 : decode b_L_law 906 = .ok (.i2l, 1) := by decide +kernel
theorem d_L_law_907 : decode b_L_law 907 = .ok (.bipush 32, 2) := by decide +kernel
theorem d_L_law_909 : decode b_L_law 909 = .ok (.lshl, 1) := by decide +kernel
theorem d_L_law_910 : decode b_L_law 910 = .ok (.aload_n 0, 1) := by decide +kernel
theorem d_L_law_911 : decode b_L_law 911 = .ok (.iload 4, 2) := by decide +kernel
theorem d_L_law_913 : decode b_L_law 913 = .ok (.iconst 5, 1) := by decide +kernel
theorem d_L_law_914 : decode b_L_law 914 = .ok (.iadd, 1) := by decide +kernel
theorem d_L_law_915 : decode b_L_law 915 = .ok (.iaload, 1) := by decide +kernel
theorem d_L_law_916 : decode b_L_law 916 = .ok (.i2l, 1) := by decide +kernel
theorem d_L_law_917 : decode b_L_law 917 = .ok (.ldc2_w 110, 3) := by decide +kernel
theorem d_L_law_920 : decode b_L_law 920 = .ok (.land, 1) := by decide +kernel
theorem d_L_law_921 : decode b_L_law 921 = .ok (.lor, 1) := by decide +kernel
theorem d_L_law_922 : decode b_L_law 922 = .ok (.invokevirtual 141, 3) := by decide +kernel
theorem d_L_law_925 : decode b_L_law 925 = .ok (.istore 6, 2) := by decide +kernel
theorem d_L_law_927 : decode b_L_law 927 = .ok (.aload_n 2, 1) := by decide +kernel
theorem d_L_law_928 : decode b_L_law 928 = .ok (.invokevirtual 106, 3) := by decide +kernel
theorem d_L_law_931 : decode b_L_law 931 = .ok (.iload 5, 2) := by decide +kernel
theorem d_L_law_933 : decode b_L_law 933 = .ok (.if_icmp .eq 5, 3) := by decide +kernel
theorem d_L_law_936 : decode b_L_law 936 = .ok (.iconst 0, 1) := by decide +kernel
theorem d_L_law_937 : decode b_L_law 937 = .ok (.ireturn, 1) := by decide +kernel
theorem d_L_law_938 : decode b_L_law 938 = .ok (.iload 5, 2) := by decide +kernel
theorem d_L_law_940 : decode b_L_law 940 = .ok (.ifCond .ne 15, 3) := by decide +kernel
theorem d_L_law_943 : decode b_L_law 943 = .ok (.aload_n 3, 1) := by decide +kernel
theorem d_L_law_944 : decode b_L_law 944 = .ok (.iconst 0, 1) := by decide +kernel
theorem d_L_law_945 : decode b_L_law 945 = .ok (.laload, 1) := by decide +kernel
theorem d_L_law_946 : decode b_L_law 946 = .ok (.iload 6, 2) := by decide +kernel
theorem d_L_law_948 : decode b_L_law 948 = .ok (.i2l, 1) := by decide +kernel
theorem d_L_law_949 : decode b_L_law 949 = .ok (.lcmp, 1) := by decide +kernel
theorem d_L_law_950 : decode b_L_law 950 = .ok (.ifCond .eq 5, 3) := by decide +kernel
theorem d_L_law_953 : decode b_L_law 953 = .ok (.iconst 0, 1) := by decide +kernel
theorem d_L_law_954 : decode b_L_law 954 = .ok (.ireturn, 1) := by decide +kernel
theorem d_L_law_955 : decode b_L_law 955 = .ok (.goto 772, 3) := by decide +kernel
theorem d_L_law_958 : decode b_L_law 958 = .ok (.aload_n 1, 1) := by decide +kernel
theorem d_L_law_959 : decode b_L_law 959 = .ok (.aload_n 0, 1) := by decide +kernel
theorem d_L_law_960 : decode b_L_law 960 = .ok (.iload 4, 2) := by decide +kernel
theorem d_L_law_962 : decode b_L_law 962 = .ok (.iconst 1, 1) := by decide +kernel
theorem d_L_law_963 : decode b_L_law 963 = .ok (.iadd, 1) := by decide +kernel
theorem d_L_law_964 : decode b_L_law 964 = .ok (.iaload, 1) := by decide +kernel
theorem d_L_law_965 : decode b_L_law 965 = .ok (.aload_n 0, 1) := by decide +kernel
theorem d_L_law_966 : decode b_L_law 966 = .ok (.iload 4, 2) := by decide +kernel
theorem d_L_law_968 : decode b_L_law 968 = .ok (.iconst 2, 1) := by decide +kernel
theorem d_L_law_969 : decode b_L_law 969 = .ok (.iadd, 1) := by decide +kernel
theorem d_L_law_970 : decode b_L_law 970 = .ok (.iaload, 1) := by decide +kernel
theorem d_L_law_971 : decode b_L_law 971 = .ok (.aload_n 3, 1) := by decide +kernel
theorem d_L_law_972 : decode b_L_law 972 = .ok (.invokestatic 142, 3) := by decide +kernel
theorem d_L_law_975 : decode b_L_law 975 = .ok (.istore 5, 2) := by decide +kernel
theorem d_L_law_977 : decode b_L_law 977 = .ok (.aload_n 2, 1) := by decide +kernel
theorem d_L_law_978 : decode b_L_law 978 = .ok (.aload_n 0, 1) := by decide +kernel
theorem d_L_law_979 : decode b_L_law 979 = .ok (.iload 4, 2) := by decide +kernel
theorem d_L_law_981 : decode b_L_law 981 = .ok (.iconst 1, 1) := by decide +kernel
theorem d_L_law_982 : decode b_L_law 982 = .ok (.iadd, 1) := by decide +kernel
theorem d_L_law_983 : decode b_L_law 983 = .ok (.iaload, 1) := by decide +kernel
theorem d_L_law_984 : decode b_L_law 984 = .ok (.aload_n 0, 1) := by decide +kernel
theorem d_L_law_985 : decode b_L_law 985 = .ok (.iload 4, 2) := by decide +kernel
theorem d_L_law_987 : decode b_L_law 987 = .ok (.iconst 2, 1) := by decide +kernel
theorem d_L_law_988 : decode b_L_law 988 = .ok (.iadd, 1) := by decide +kernel
theorem d_L_law_989 : decode b_L_law 989 = .ok (.iaload, 1) := by decide +kernel
theorem d_L_law_990 : decode b_L_law 990 = .ok (.invokevirtual 145, 3) := by decide +kernel
theorem d_L_law_993 : decode b_L_law 993 = .ok (.istore 6, 2) := by decide +kernel
theorem d_L_law_995 : decode b_L_law 995 = .ok (.aload_n 2, 1) := by decide +kernel
theorem d_L_law_996 : decode b_L_law 996 = .ok (.invokevirtual 106, 3) := by decide +kernel
theorem d_L_law_999 : decode b_L_law 999 = .ok (.iload 5, 2) := by decide +kernel
theorem d_L_law_1001 : decode b_L_law 1001 = .ok (.if_icmp .eq 5, 3) := by decide +kernel
theorem d_L_law_1004 : decode b_L_law 1004 = .ok (.iconst 0, 1) := by decide +kernel
theorem d_L_law_1005 : decode b_L_law 1005 = .ok (.ireturn, 1) := by decide +kernel
theorem d_L_law_1006 : decode b_L_law 1006 = .ok (.iload 5, 2) := by decide +kernel
theorem d_L_law_1008 : decode b_L_law 1008 = .ok (.ifCond .ne 15, 3) := by decide +kernel
theorem d_L_law_1011 : decode b_L_law 1011 = .ok (.aload_n 3, 1) := by decide +kernel
theorem d_L_law_1012 : decode b_L_law 1012 = .ok (.iconst 0, 1) := by decide +kernel
theorem d_L_law_1013 : decode b_L_law 1013 = .ok (.laload, 1) := by decide +kernel
theorem d_L_law_1014 : decode b_L_law 1014 = .ok (.iload 6, 2) := by decide +kernel
theorem d_L_law_1016 : decode b_L_law 1016 = .ok (.i2l, 1) := by decide +kernel
theorem d_L_law_1017 : decode b_L_law 1017 = .ok (.lcmp, 1) := by decide +kernel
theorem d_L_law_1018 : decode b_L_law 1018 = .ok (.ifCond .eq 5, 3) := by decide +kernel
theorem d_L_law_1021 : decode b_L_law 1021 = .ok (.iconst 0, 1) := by decide +kernel
theorem d_L_law_1022 : decode b_L_law 1022 = .ok (.ireturn, 1) := by decide +kernel
theorem d_L_law_1023 : decode b_L_law 1023 = .ok (.goto 704, 3) := by decide +kernel
theorem d_L_law_1026 : decode b_L_law 1026 = .ok (.aload_n 1, 1) := by decide +kernel
theorem d_L_law_1027 : decode b_L_law 1027 = .ok (.aload_n 0, 1) := by decide +kernel
theorem d_L_law_1028 : decode b_L_law 1028 = .ok (.iload 4, 2) := by decide +kernel
theorem d_L_law_1030 : decode b_L_law 1030 = .ok (.iconst 1, 1) := by decide +kernel
theorem d_L_law_1031 : decode b_L_law 1031 = .ok (.iadd, 1) := by decide +kernel
theorem d_L_law_1032 : decode b_L_law 1032 = .ok (.iaload, 1) := by decide +kernel
theorem d_L_law_1033 : decode b_L_law 1033 = .ok (.aload_n 0, 1) := by decide +kernel
theorem d_L_law_1034 : decode b_L_law 1034 = .ok (.iload 4, 2) := by decide +kernel
theorem d_L_law_1036 : decode b_L_law 1036 = .ok (.iconst 2, 1) := by decide +kernel
theorem d_L_law_1037 : decode b_L_law 1037 = .ok (.iadd, 1) := by decide +kernel
theorem d_L_law_1038 : decode b_L_law 1038 = .ok (.iaload, 1) := by decide +kernel
theorem d_L_law_1039 : decode b_L_law 1039 = .ok (.aload_n 3, 1) := by decide +kernel
theorem d_L_law_1040 : decode b_L_law 1040 = .ok (.invokestatic 146, 3) := by decide +kernel
theorem d_L_law_1043 : decode b_L_law 1043 = .ok (.istore 5, 2) := by decide +kernel
theorem d_L_law_1045 : decode b_L_law 1045 = .ok (.aload_n 2, 1) := by decide +kernel
theorem d_L_law_1046 : decode b_L_law 1046 = .ok (.aload_n 0, 1) := by decide +kernel
theorem d_L_law_1047 : decode b_L_law 1047 = .ok (.iload 4, 2) := by decide +kernel
theorem d_L_law_1049 : decode b_L_law 1049 = .ok (.iconst 1, 1) := by decide +kernel
theorem d_L_law_1050 : decode b_L_law 1050 = .ok (.iadd, 1) := by decide +kernel
theorem d_L_law_1051 : decode b_L_law 1051 = .ok (.iaload, 1) := by decide +kernel
theorem d_L_law_1052 : decode b_L_law 1052 = .ok (.aload_n 0, 1) := by decide +kernel
theorem d_L_law_1053 : decode b_L_law 1053 = .ok (.iload 4, 2) := by decide +kernel
theorem d_L_law_1055 : decode b_L_law 1055 = .ok (.iconst 2, 1) := by decide +kernel
theorem d_L_law_1056 : decode b_L_law 1056 = .ok (.iadd, 1) := by decide +kernel
theorem d_L_law_1057 : decode b_L_law 1057 = .ok (.iaload, 1) := by decide +kernel
theorem d_L_law_1058 : decode b_L_law 1058 = .ok (.invokevirtual 148, 3) := by decide +kernel
theorem d_L_law_1061 : decode b_L_law 1061 = .ok (.istore 6, 2) := by decide +kernel
theorem d_L_law_1063 : decode b_L_law 1063 = .ok (.aload_n 2, 1) := by decide +kernel
theorem d_L_law_1064 : decode b_L_law 1064 = .ok (.invokevirtual 106, 3) := by decide +kernel
theorem d_L_law_1067 : decode b_L_law 1067 = .ok (.iload 5, 2) := by decide +kernel
theorem d_L_law_1069 : decode b_L_law 1069 = .ok (.if_icmp .eq 5, 3) := by decide +kernel
theorem d_L_law_1072 : decode b_L_law 1072 = .ok (.iconst 0, 1) := by decide +kernel
theorem d_L_law_1073 : decode b_L_law 1073 = .ok (.ireturn, 1) := by decide +kernel
theorem d_L_law_1074 : decode b_L_law 1074 = .ok (.iload 5, 2) := by decide +kernel
theorem d_L_law_1076 : decode b_L_law 1076 = .ok (.ifCond .ne 22, 3) := by decide +kernel
theorem d_L_law_1079 : decode b_L_law 1079 = .ok (.aload_n 3, 1) := by decide +kernel
theorem d_L_law_1080 : decode b_L_law 1080 = .ok (.iconst 0, 1) := by decide +kernel
theorem d_L_law_1081 : decode b_L_law 1081 = .ok (.laload, 1) := by decide +kernel
theorem d_L_law_1082 : decode b_L_law 1082 = .ok (.iload 6, 2) := by decide +kernel
theorem d_L_law_1084 : decode b_L_law 1084 = .ok (.ifCond .eq 7, 3) := by decide +kernel
theorem d_L_law_1087 : decode b_L_law 1087 = .ok (.lconst 1, 1) := by decide +kernel
theorem d_L_law_1088 : decode b_L_law 1088 = .ok (.goto 4, 3) := by decide +kernel
theorem d_L_law_1091 : decode b_L_law 1091 = .ok (.lconst 0, 1) := by decide +kernel
theorem d_L_law_1092 : decode b_L_law 1092 = .ok (.lcmp, 1) := by decide +kernel
theorem d_L_law_1093 : decode b_L_law 1093 = .ok (.ifCond .eq 5, 3) := by decide +kernel
theorem d_L_law_1096 : decode b_L_law 1096 = .ok (.iconst 0, 1) := by decide +kernel
theorem d_L_law_1097 : decode b_L_law 1097 = .ok (.ireturn, 1) := by decide +kernel
theorem d_L_law_1098 : decode b_L_law 1098 = .ok (.goto 629, 3) := by decide +kernel
theorem d_L_law_1101 : decode b_L_law 1101 = .ok (.aload_n 1, 1) := by decide +kernel
theorem d_L_law_1102 : decode b_L_law 1102 = .ok (.aload_n 0, 1) := by decide +kernel
theorem d_L_law_1103 : decode b_L_law 1103 = .ok (.iload 4, 2) := by decide +kernel
theorem d_L_law_1105 : decode b_L_law 1105 = .ok (.iconst 1, 1) := by decide +kernel
theorem d_L_law_1106 : decode b_L_law 1106 = .ok (.iadd, 1) := by decide +kernel
theorem d_L_law_1107 : decode b_L_law 1107 = .ok (.iaload, 1) := by decide +kernel
