theorem d_L_931 : decode code 931 = .ok (.iload 4, 2) := by decide +kernel
theorem d_L_933 : decode code 933 = .ok (.iconst 1, 1) := by decide +kernel
theorem d_L_934 : decode code 934 = .ok (.iadd, 1) := by decide +kernel
theorem d_L_935 : decode code 935 = .ok (.iaload, 1) := by decide +kernel
theorem d_L_936 : decode code 936 = .ok (.aload_n 0, 1) := by decide +kernel
theorem d_L_937 : decode code 937 = .ok (.iload 4, 2) := by decide +kernel
theorem d_L_939 : decode code 939 = .ok (.iconst 2, 1) := by decide +kernel
theorem d_L_940 : decode code 940 = .ok (.iadd, 1) := by decide +kernel
theorem d_L_941 : decode code 941 = .ok (.iaload, 1) := by decide +kernel
theorem d_L_942 : decode code 942 = .ok (.aload_n 3, 1) := by decide +kernel
theorem d_L_943 : decode code 943 = .ok (.invokestatic 121, 3) := by decide +kernel
theorem d_L_946 : decode code 946 = .ok (.istore 5, 2) := by decide +kernel
theorem d_L_948 : decode code 948 = .ok (.aload_n 2, 1) := by decide +kernel
theorem d_L_949 : decode code 949 = .ok (.aload_n 0, 1) := by decide +kernel
theorem d_L_950 : decode code 950 = .ok (.iload 4, 2) := by decide +kernel
theorem d_L_952 : decode code 952 = .ok (.iconst 1, 1) := by decide +kernel
theorem d_L_953 : decode code 953 = .ok (.iadd, 1) := by decide +kernel
theorem d_L_954 : decode code 954 = .ok (.iaload, 1) := by decide +kernel
theorem d_L_955 : decode code 955 = .ok (.aload_n 0, 1) := by decide +kernel
theorem d_L_956 : decode code 956 = .ok (.iload 4, 2) := by decide +kernel
theorem d_L_958 : decode code 958 = .ok (.iconst 2, 1) := by decide +kernel
theorem d_L_959 : decode code 959 = .ok (.iadd, 1) := by decide +kernel
theorem d_L_960 : decode code 960 = .ok (.iaload, 1) := by decide +kernel
theorem d_L_961 : decode code 961 = .ok (.invokevirtual 123, 3) := by decide +kernel
theorem d_L_964 : decode code 964 = .ok (.istore 6, 2) := by decide +kernel
theorem d_L_966 : decode code 966 = .ok (.aload_n 2, 1) := by decide +kernel
theorem d_L_967 : decode code 967 = .ok (.invokevirtual 73, 3) := by decide +kernel
theorem d_L_970 : decode code 970 = .ok (.iload 5, 2) := by decide +kernel
theorem d_L_972 : decode code 972 = .ok (.if_icmp .eq 5, 3) := by decide +kernel
theorem d_L_975 : decode code 975 = .ok (.iconst 0, 1) := by decide +kernel
theorem d_L_976 : decode code 976 = .ok (.ireturn, 1) := by decide +kernel
theorem d_L_977 : decode code 977 = .ok (.iload 5, 2) := by decide +kernel
theorem d_L_979 : decode code 979 = .ok (.ifCond .ne 15, 3) := by decide +kernel
theorem d_L_982 : decode code 982 = .ok (.aload_n 3, 1) := by decide +kernel
theorem d_L_983 : decode code 983 = .ok (.iconst 0, 1) := by decide +kernel
theorem d_L_984 : decode code 984 = .ok (.laload, 1) := by decide +kernel
theorem d_L_985 : decode code 985 = .ok (.iload 6, 2) := by decide +kernel
theorem d_L_987 : decode code 987 = .ok (.i2l, 1) := by decide +kernel
theorem d_L_988 : decode code 988 = .ok (.lcmp, 1) := by decide +kernel
theorem d_L_989 : decode code 989 = .ok (.ifCond .eq 5, 3) := by decide +kernel
theorem d_L_992 : decode code 992 = .ok (.iconst 0, 1) := by decide +kernel
theorem d_L_993 : decode code 993 = .ok (.ireturn, 1) := by decide +kernel
theorem d_L_994 : decode code 994 = .ok (.goto 96, 3) := by decide +kernel
theorem d_L_997 : decode code 997 = .ok (.aload_n 1, 1) := by decide +kernel
theorem d_L_998 : decode code 998 = .ok (.aload_n 0, 1) := by decide +kernel
theorem d_L_999 : decode code 999 = .ok (.iload 4, 2) := by decide +kernel
theorem d_L_1001 : decode code 1001 = .ok (.iconst 1, 1) := by decide +kernel
theorem d_L_1002 : decode code 1002 = .ok (.iadd, 1) := by decide +kernel
theorem d_L_1003 : decode code 1003 = .ok (.iaload, 1) := by decide +kernel
theorem d_L_1004 : decode code 1004 = .ok (.aload_n 0, 1) := by decide +kernel
theorem d_L_1005 : decode code 1005 = .ok (.iload 4, 2) := by decide +kernel
theorem d_L_1007 : decode code 1007 = .ok (.iconst 2, 1) := by decide +kernel
theorem d_L_1008 : decode code 1008 = .ok (.iadd, 1) := by decide +kernel
theorem d_L_1009 : decode code 1009 = .ok (.iaload, 1) := by decide +kernel
theorem d_L_1010 : decode code 1010 = .ok (.aload_n 3, 1) := by decide +kernel
theorem d_L_1011 : decode code 1011 = .ok (.invokestatic 124, 3) := by decide +kernel
theorem d_L_1014 : decode code 1014 = .ok (.istore 5, 2) := by decide +kernel
theorem d_L_1016 : decode code 1016 = .ok (.aload_n 2, 1) := by decide +kernel
theorem d_L_1017 : decode code 1017 = .ok (.aload_n 0, 1) := by decide +kernel
theorem d_L_1018 : decode code 1018 = .ok (.iload 4, 2) := by decide +kernel
theorem d_L_1020 : decode code 1020 = .ok (.iconst 1, 1) := by decide +kernel
theorem d_L_1021 : decode code 1021 = .ok (.iadd, 1) := by decide +kernel
theorem d_L_1022 : decode code 1022 = .ok (.iaload, 1) := by decide +kernel
theorem d_L_1023 : decode code 1023 = .ok (.aload_n 0, 1) := by decide +kernel
theorem d_L_1024 : decode code 1024 = .ok (.iload 4, 2) := by decide +kernel
theorem d_L_1026 : decode code 1026 = .ok (.iconst 2, 1) := by decide +kernel
theorem d_L_1027 : decode code 1027 = .ok (.iadd, 1) := by decide +kernel
theorem d_L_1028 : decode code 1028 = .ok (.iaload, 1) := by decide +kernel
theorem d_L_1029 : decode code 1029 = .ok (.invokevirtual 126, 3) := by decide +kernel
theorem d_L_1032 : decode code 1032 = .ok (.istore 6, 2) := by decide +kernel
theorem d_L_1034 : decode code 1034 = .ok (.aload_n 2, 1) := by decide +kernel
theorem d_L_1035 : decode code 1035 = .ok (.invokevirtual 73, 3) := by decide +kernel
theorem d_L_1038 : decode code 1038 = .ok (.iload 5, 2) := by decide +kernel
theorem d_L_1040 : decode code 1040 = .ok (.if_icmp .eq 5, 3) := by decide +kernel
theorem d_L_1043 : decode code 1043 = .ok (.iconst 0, 1) := by decide +kernel
theorem d_L_1044 : decode code 1044 = .ok (.ireturn, 1) := by decide +kernel
theorem d_L_1045 : decode code 1045 = .ok (.iload 5, 2) := by decide +kernel
theorem d_L_1047 : decode code 1047 = .ok (.ifCond .ne 15, 3) := by decide +kernel
theorem d_L_1050 : decode code 1050 = .ok (.aload_n 3, 1) := by decide +kernel
theorem d_L_1051 : decode code 1051 = .ok (.iconst 0, 1) := by decide +kernel
theorem d_L_1052 : decode code 1052 = .ok (.laload, 1) := by decide +kernel
theorem d_L_1053 : decode code 1053 = .ok (.iload 6, 2) := by decide +kernel
theorem d_L_1055 : decode code 1055 = .ok (.i2l, 1) := by decide +kernel
theorem d_L_1056 : decode code 1056 = .ok (.lcmp, 1) := by decide +kernel
theorem d_L_1057 : decode code 1057 = .ok (.ifCond .eq 5, 3) := by decide +kernel
theorem d_L_1060 : decode code 1060 = .ok (.iconst 0, 1) := by decide +kernel
theorem d_L_1061 : decode code 1061 = .ok (.ireturn, 1) := by decide +kernel
theorem d_L_1062 : decode code 1062 = .ok (.goto 28, 3) := by decide +kernel
theorem d_L_1065 : decode code 1065 = .ok (.aload_n 1, 1) := by decide +kernel
theorem d_L_1066 : decode code 1066 = .ok (.aload_n 0, 1) := by decide +kernel
theorem d_L_1067 : decode code 1067 = .ok (.iload 4, 2) := by decide +kernel
theorem d_L_1069 : decode code 1069 = .ok (.iconst 1, 1) := by decide +kernel
theorem d_L_1070 : decode code 1070 = .ok (.iadd, 1) := by decide +kernel
theorem d_L_1071 : decode code 1071 = .ok (.iaload, 1) := by decide +kernel
theorem d_L_1072 : decode code 1072 = .ok (.invokevirtual 127, 3) := by decide +kernel
theorem d_L_1075 : decode code 1075 = .ok (.aload_n 2, 1) := by decide +kernel
theorem d_L_1076 : decode code 1076 = .ok (.aload_n 0, 1) := by decide +kernel
theorem d_L_1077 : decode code 1077 = .ok (.iload 4, 2) := by decide +kernel
theorem d_L_1079 : decode code 1079 = .ok (.iconst 1, 1) := by decide +kernel
theorem d_L_1080 : decode code 1080 = .ok (.iadd, 1) := by decide +kernel
theorem d_L_1081 : decode code 1081 = .ok (.iaload, 1) := by decide +kernel
theorem d_L_1082 : decode code 1082 = .ok (.invokevirtual 130, 3) := by decide +kernel
theorem d_L_1085 : decode code 1085 = .ok (.if_icmp .eq 5, 3) := by decide +kernel
theorem d_L_1088 : decode code 1088 = .ok (.iconst 0, 1) := by decide +kernel
theorem d_L_1089 : decode code 1089 = .ok (.ireturn, 1) := by decide +kernel
theorem d_L_1090 : decode code 1090 = .ok (.iinc 4 5, 3) := by decide +kernel
theorem d_L_1093 : decode code 1093 = .ok (.goto (-1060), 3) := by decide +kernel
theorem d_L_1096 : decode code 1096 = .ok (.iconst 1, 1) := by decide +kernel
theorem d_L_1097 : decode code 1097 = .ok (.ireturn, 1) := by decide +kernel
