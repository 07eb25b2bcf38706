theorem dW_838 : decode code 838 = .ok (.ireturn, 1) := by decide +kernel
theorem dW_839 : decode code 839 = .ok (.iload 5, 2) := by decide +kernel
theorem dW_841 : decode code 841 = .ok (.ifCond .ne 15, 3) := by decide +kernel
theorem dW_844 : decode code 844 = .ok (.aload_n 3, 1) := by decide +kernel
theorem dW_845 : decode code 845 = .ok (.iconst 0, 1) := by decide +kernel
theorem dW_846 : decode code 846 = .ok (.laload, 1) := by decide +kernel
theorem dW_847 : decode code 847 = .ok (.iload 6, 2) := by decide +kernel
theorem dW_849 : decode code 849 = .ok (.i2l, 1) := by decide +kernel
theorem dW_850 : decode code 850 = .ok (.lcmp, 1) := by decide +kernel
theorem dW_851 : decode code 851 = .ok (.ifCond .eq 5, 3) := by decide +kernel
theorem dW_854 : decode code 854 = .ok (.iconst 0, 1) := by decide +kernel
theorem dW_855 : decode code 855 = .ok (.ireturn, 1) := by decide +kernel
theorem dW_856 : decode code 856 = .ok (.goto 1125, 3) := by decide +kernel
theorem dW_859 : decode code 859 = .ok (.aload_n 1, 1) := by decide +kernel
theorem dW_860 : decode code 860 = .ok (.aload_n 0, 1) := by decide +kernel
theorem dW_861 : decode code 861 = .ok (.iload 4, 2) := by decide +kernel
theorem dW_863 : decode code 863 = .ok (.iconst 1, 1) := by decide +kernel
theorem dW_864 : decode code 864 = .ok (.iadd, 1) := by decide +kernel
theorem dW_865 : decode code 865 = .ok (.iaload, 1) := by decide +kernel
theorem dW_866 : decode code 866 = .ok (.aload_n 0, 1) := by decide +kernel
theorem dW_867 : decode code 867 = .ok (.iload 4, 2) := by decide +kernel
theorem dW_869 : decode code 869 = .ok (.iconst 2, 1) := by decide +kernel
theorem dW_870 : decode code 870 = .ok (.iadd, 1) := by decide +kernel
theorem dW_871 : decode code 871 = .ok (.iaload, 1) := by decide +kernel
theorem dW_872 : decode code 872 = .ok (.aload_n 3, 1) := by decide +kernel
theorem dW_873 : decode code 873 = .ok (.invokestatic 150, 3) := by decide +kernel
theorem dW_876 : decode code 876 = .ok (.istore 5, 2) := by decide +kernel
theorem dW_878 : decode code 878 = .ok (.aload_n 2, 1) := by decide +kernel
theorem dW_879 : decode code 879 = .ok (.aload_n 0, 1) := by decide +kernel
theorem dW_880 : decode code 880 = .ok (.iload 4, 2) := by decide +kernel
theorem dW_882 : decode code 882 = .ok (.iconst 1, 1) := by decide +kernel
theorem dW_883 : decode code 883 = .ok (.iadd, 1) := by decide +kernel
theorem dW_884 : decode code 884 = .ok (.iaload, 1) := by decide +kernel
theorem dW_885 : decode code 885 = .ok (.aload_n 0, 1) := by decide +kernel
theorem dW_886 : decode code 886 = .ok (.iload 4, 2) := by decide +kernel
theorem dW_888 : decode code 888 = .ok (.iconst 2, 1) := by decide +kernel
theorem dW_889 : decode code 889 = .ok (.iadd, 1) := by decide +kernel
theorem dW_890 : decode code 890 = .ok (.iaload, 1) := by decide +kernel
theorem dW_891 : decode code 891 = .ok (.invokevirtual 152, 3) := by decide +kernel
theorem dW_894 : decode code 894 = .ok (.istore 6, 2) := by decide +kernel
theorem dW_896 : decode code 896 = .ok (.aload_n 2, 1) := by decide +kernel
theorem dW_897 : decode code 897 = .ok (.invokevirtual 115, 3) := by decide +kernel
theorem dW_900 : decode code 900 = .ok (.iload 5, 2) := by decide +kernel
theorem dW_902 : decode code 902 = .ok (.if_icmp .eq 5, 3) := by decide +kernel
theorem dW_905 : decode code 905 = .ok (.iconst 0, 1) := by decide +kernel
theorem dW_906 : decode code 906 = .ok (.ireturn, 1) := by decide +kernel
theorem dW_907 : decode code 907 = .ok (.iload 5, 2) := by decide +kernel
theorem dW_909 : decode code 909 = .ok (.ifCond .ne 15, 3) := by decide +kernel
theorem dW_912 : decode code 912 = .ok (.aload_n 3, 1) := by decide +kernel
theorem dW_913 : decode code 913 = .ok (.iconst 0, 1) := by decide +kernel
theorem dW_914 : decode code 914 = .ok (.laload, 1) := by decide +kernel
theorem dW_915 : decode code 915 = .ok (.iload 6, 2) := by decide +kernel
theorem dW_917 : decode code 917 = .ok (.i2l, 1) := by decide +kernel
theorem dW_918 : decode code 918 = .ok (.lcmp, 1) := by decide +kernel
theorem dW_919 : decode code 919 = .ok (.ifCond .eq 5, 3) := by decide +kernel
theorem dW_922 : decode code 922 = .ok (.iconst 0, 1) := by decide +kernel
theorem dW_923 : decode code 923 = .ok (.ireturn, 1) := by decide +kernel
theorem dW_924 : decode code 924 = .ok (.goto 1057, 3) := by decide +kernel
theorem dW_927 : decode code 927 = .ok (.aload_n 1, 1) := by decide +kernel
theorem dW_928 : decode code 928 = .ok (.aload_n 0, 1) := by decide +kernel
theorem dW_929 : decode code 929 = .ok (.iload 4, 2) := by decide +kernel
theorem dW_931 : decode code 931 = .ok (.iconst 1, 1) := by decide +kernel
theorem dW_932 : decode code 932 = .ok (.iadd, 1) := by decide +kernel
theorem dW_933 : decode code 933 = .ok (.iaload, 1) := by decide +kernel
theorem dW_934 : decode code 934 = .ok (.aload_n 0, 1) := by decide +kernel
theorem dW_935 : decode code 935 = .ok (.iload 4, 2) := by decide +kernel
theorem dW_937 : decode code 937 = .ok (.iconst 2, 1) := by decide +kernel
theorem dW_938 : decode code 938 = .ok (.iadd, 1) := by decide +kernel
theorem dW_939 : decode code 939 = .ok (.iaload, 1) := by decide +kernel
theorem dW_940 : decode code 940 = .ok (.aload_n 3, 1) := by decide +kernel
theorem dW_941 : decode code 941 = .ok (.invokestatic 153, 3) := by decide +kernel
theorem dW_944 : decode code 944 = .ok (.istore 5, 2) := by decide +kernel
theorem dW_946 : decode code 946 = .ok (.aload_n 2, 1) := by decide +kernel
theorem dW_947 : decode code 947 = .ok (.aload_n 0, 1) := by decide +kernel
theorem dW_948 : decode code 948 = .ok (.iload 4, 2) := by decide +kernel
theorem dW_950 : decode code 950 = .ok (.iconst 1, 1) := by decide +kernel
theorem dW_951 : decode code 951 = .ok (.iadd, 1) := by decide +kernel
theorem dW_952 : decode code 952 = .ok (.iaload, 1) := by decide +kernel
theorem dW_953 : decode code 953 = .ok (.aload_n 0, 1) := by decide +kernel
theorem dW_954 : decode code 954 = .ok (.iload 4, 2) := by decide +kernel
theorem dW_956 : decode code 956 = .ok (.iconst 2, 1) := by decide +kernel
theorem dW_957 : decode code 957 = .ok (.iadd, 1) := by decide +kernel
theorem dW_958 : decode code 958 = .ok (.iaload, 1) := by decide +kernel
theorem dW_959 : decode code 959 = .ok (.invokevirtual 155, 3) := by decide +kernel
theorem dW_962 : decode code 962 = .ok (.istore 6, 2) := by decide +kernel
theorem dW_964 : decode code 964 = .ok (.aload_n 2, 1) := by decide +kernel
theorem dW_965 : decode code 965 = .ok (.invokevirtual 115, 3) := by decide +kernel
theorem dW_968 : decode code 968 = .ok (.iload 5, 2) := by decide +kernel
theorem dW_970 : decode code 970 = .ok (.if_icmp .eq 5, 3) := by decide +kernel
theorem dW_973 : decode code 973 = .ok (.iconst 0, 1) := by decide +kernel
theorem dW_974 : decode code 974 = .ok (.ireturn, 1) := by decide +kernel
theorem dW_975 : decode code 975 = .ok (.iload 5, 2) := by decide +kernel
theorem dW_977 : decode code 977 = .ok (.ifCond .ne 15, 3) := by decide +kernel
theorem dW_980 : decode code 980 = .ok (.aload_n 3, 1) := by decide +kernel
theorem dW_981 : decode code 981 = .ok (.iconst 0, 1) := by decide +kernel
theorem dW_982 : decode code 982 = .ok (.laload, 1) := by decide +kernel
theorem dW_983 : decode code 983 = .ok (.iload 6, 2) := by decide +kernel
theorem dW_985 : decode code 985 = .ok (.i2l, 1) := by decide +kernel
theorem dW_986 : decode code 986 = .ok (.lcmp, 1) := by decide +kernel
theorem dW_987 : decode code 987 = .ok (.ifCond .eq 5, 3) := by decide +kernel
theorem dW_990 : decode code 990 = .ok (.iconst 0, 1) := by decide +kernel
theorem dW_991 : decode code 991 = .ok (.ireturn, 1) := by decide +kernel
theorem dW_992 : decode code 992 = .ok (.goto 989, 3) := by decide +kernel
theorem dW_995 : decode code 995 = .ok (.aload_n 1, 1) := by decide +kernel
theorem dW_996 : decode code 996 = .ok (.aload_n 0, 1) := by decide +kernel
theorem dW_997 : decode code 997 = .ok (.iload 4, 2) := by decide +kernel
theorem dW_999 : decode code 999 = .ok (.iconst 1, 1) := by decide +kernel
theorem dW_1000 : decode code 1000 = .ok (.iadd, 1) := by decide +kernel
theorem dW_1001 : decode code 1001 = .ok (.iaload, 1) := by decide +kernel
theorem dW_1002 : decode code 1002 = .ok (.aload_n 3, 1) := by decide +kernel
theorem dW_1003 : decode code 1003 = .ok (.invokestatic 156, 3) := by decide +kernel
theorem dW_1006 : decode code 1006 = .ok (.istore 5, 2) := by decide +kernel
theorem dW_1008 : decode code 1008 = .ok (.aload_n 2, 1) := by decide +kernel
theorem dW_1009 : decode code 1009 = .ok (.aload_n 0, 1) := by decide +kernel
theorem dW_1010 : decode code 1010 = .ok (.iload 4, 2) := by decide +kernel
theorem dW_1012 : decode code 1012 = .ok (.iconst 1, 1) := by decide +kernel
theorem dW_1013 : decode code 1013 = .ok (.iadd, 1) := by decide +kernel
theorem dW_1014 : decode code 1014 = .ok (.iaload, 1) := by decide +kernel
theorem dW_1015 : decode code 1015 = .ok (.invokevirtual 158, 3) := by decide +kernel
theorem dW_1018 : decode code 1018 = .ok (.istore 6, 2) := by decide +kernel
theorem dW_1020 : decode code 1020 = .ok (.aload_n 2, 1) := by decide +kernel
theorem dW_1021 : decode code 1021 = .ok (.invokevirtual 115, 3) := by decide +kernel
theorem dW_1024 : decode code 1024 = .ok (.iload 5, 2) := by decide +kernel
theorem dW_1026 : decode code 1026 = .ok (.if_icmp .eq 5, 3) := by decide +kernel
theorem dW_1029 : decode code 1029 = .ok (.iconst 0, 1) := by decide +kernel
theorem dW_1030 : decode code 1030 = .ok (.ireturn, 1) := by decide +kernel
theorem dW_1031 : decode code 1031 = .ok (.iload 5, 2) := by decide +kernel
theorem dW_1033 : decode code 1033 = .ok (.ifCond .ne 15, 3) := by decide +kernel
theorem dW_1036 : decode code 1036 = .ok (.aload_n 3, 1) := by decide +kernel
theorem dW_1037 : decode code 1037 = .ok (.iconst 0, 1) := by decide +kernel
theorem dW_1038 : decode code 1038 = .ok (.laload, 1) := by decide +kernel
theorem dW_1039 : decode code 1039 = .ok (.iload 6, 2) := by decide +kernel
theorem dW_1041 : decode code 1041 = .ok (.i2l, 1) := by decide +kernel
theorem dW_1042 : decode code 1042 = .ok (.lcmp, 1) := by decide +kernel
theorem dW_1043 : decode code 1043 = .ok (.ifCond .eq 5, 3) := by decide +kernel
theorem dW_1046 : decode code 1046 = .ok (.iconst 0, 1) := by decide +kernel
theorem dW_1047 : decode code 1047 = .ok (.ireturn, 1) := by decide +kernel
theorem dW_1048 : decode code 1048 = .ok (.goto 933, 3) := by decide +kernel
theorem dW_1051 : decode code 1051 = .ok (.aload_n 1, 1) := by decide +kernel
theorem dW_1052 : decode code 1052 = .ok (.aload_n 0, 1) := by decide +kernel
theorem dW_1053 : decode code 1053 = .ok (.iload 4, 2) := by decide +kernel
theorem dW_1055 : decode code 1055 = .ok (.iconst 1, 1) := by decide +kernel
theorem dW_1056 : decode code 1056 = .ok (.iadd, 1) := by decide +kernel
theorem dW_1057 : decode code 1057 = .ok (.iaload, 1) := by decide +kernel
theorem dW_1058 : decode code 1058 = .ok (.aload_n 3, 1) := by decide +kernel
theorem dW_1059 : decode code 1059 = .ok (.invokestatic 159, 3) := by decide +kernel
theorem dW_1062 : decode code 1062 = .ok (.istore 5, 2) := by decide +kernel
theorem dW_1064 : decode code 1064 = .ok (.aload_n 2, 1) := by decide +kernel
theorem dW_1065 : decode code 1065 = .ok (.aload_n 0, 1) := by decide +kernel
theorem dW_1066 : decode code 1066 = .ok (.iload 4, 2) := by decide +kernel
