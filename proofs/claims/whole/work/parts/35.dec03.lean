theorem dlw_917 : decode code 917 = .ok (.iload 5, 2) := by decide +kernel
theorem dlw_919 : decode code 919 = .ok (.ifCond .ne 15, 3) := by decide +kernel
theorem dlw_922 : decode code 922 = .ok (.aload_n 3, 1) := by decide +kernel
theorem dlw_923 : decode code 923 = .ok (.iconst 0, 1) := by decide +kernel
theorem dlw_924 : decode code 924 = .ok (.laload, 1) := by decide +kernel
theorem dlw_925 : decode code 925 = .ok (.iload 6, 2) := by decide +kernel
theorem dlw_927 : decode code 927 = .ok (.i2l, 1) := by decide +kernel
theorem dlw_928 : decode code 928 = .ok (.lcmp, 1) := by decide +kernel
theorem dlw_929 : decode code 929 = .ok (.ifCond .eq 5, 3) := by decide +kernel
theorem dlw_932 : decode code 932 = .ok (.iconst 0, 1) := by decide +kernel
theorem dlw_933 : decode code 933 = .ok (.ireturn, 1) := by decide +kernel
theorem dlw_934 : decode code 934 = .ok (.goto 2253, 3) := by decide +kernel
theorem dlw_937 : decode code 937 = .ok (.aload_n 1, 1) := by decide +kernel
theorem dlw_938 : decode code 938 = .ok (.aload_n 0, 1) := by decide +kernel
theorem dlw_939 : decode code 939 = .ok (.iload 4, 2) := by decide +kernel
theorem dlw_941 : decode code 941 = .ok (.iconst 1, 1) := by decide +kernel
theorem dlw_942 : decode code 942 = .ok (.iadd, 1) := by decide +kernel
theorem dlw_943 : decode code 943 = .ok (.iaload, 1) := by decide +kernel
theorem dlw_944 : decode code 944 = .ok (.aload_n 0, 1) := by decide +kernel
theorem dlw_945 : decode code 945 = .ok (.iload 4, 2) := by decide +kernel
theorem dlw_947 : decode code 947 = .ok (.iconst 2, 1) := by decide +kernel
theorem dlw_948 : decode code 948 = .ok (.iadd, 1) := by decide +kernel
theorem dlw_949 : decode code 949 = .ok (.iaload, 1) := by decide +kernel
theorem dlw_950 : decode code 950 = .ok (.aload_n 3, 1) := by decide +kernel
theorem dlw_951 : decode code 951 = .ok (.invokestatic 208, 3) := by decide +kernel
theorem dlw_954 : decode code 954 = .ok (.istore 5, 2) := by decide +kernel
theorem dlw_956 : decode code 956 = .ok (.aload_n 2, 1) := by decide +kernel
theorem dlw_957 : decode code 957 = .ok (.aload_n 0, 1) := by decide +kernel
theorem dlw_958 : decode code 958 = .ok (.iload 4, 2) := by decide +kernel
theorem dlw_960 : decode code 960 = .ok (.iconst 1, 1) := by decide +kernel
theorem dlw_961 : decode code 961 = .ok (.iadd, 1) := by decide +kernel
theorem dlw_962 : decode code 962 = .ok (.iaload, 1) := by decide +kernel
theorem dlw_963 : decode code 963 = .ok (.aload_n 0, 1) := by decide +kernel
theorem dlw_964 : decode code 964 = .ok (.iload 4, 2) := by decide +kernel
theorem dlw_966 : decode code 966 = .ok (.iconst 2, 1) := by decide +kernel
theorem dlw_967 : decode code 967 = .ok (.iadd, 1) := by decide +kernel
theorem dlw_968 : decode code 968 = .ok (.iaload, 1) := by decide +kernel
theorem dlw_969 : decode code 969 = .ok (.invokevirtual 210, 3) := by decide +kernel
theorem dlw_972 : decode code 972 = .ok (.istore 6, 2) := by decide +kernel
theorem dlw_974 : decode code 974 = .ok (.aload_n 2, 1) := by decide +kernel
theorem dlw_975 : decode code 975 = .ok (.invokevirtual 170, 3) := by decide +kernel
theorem dlw_978 : decode code 978 = .ok (.iload 5, 2) := by decide +kernel
theorem dlw_980 : decode code 980 = .ok (.if_icmp .eq 5, 3) := by decide +kernel
theorem dlw_983 : decode code 983 = .ok (.iconst 0, 1) := by decide +kernel
theorem dlw_984 : decode code 984 = .ok (.ireturn, 1) := by decide +kernel
theorem dlw_985 : decode code 985 = .ok (.iload 5, 2) := by decide +kernel
theorem dlw_987 : decode code 987 = .ok (.ifCond .ne 15, 3) := by decide +kernel
theorem dlw_990 : decode code 990 = .ok (.aload_n 3, 1) := by decide +kernel
theorem dlw_991 : decode code 991 = .ok (.iconst 0, 1) := by decide +kernel
theorem dlw_992 : decode code 992 = .ok (.laload, 1) := by decide +kernel
theorem dlw_993 : decode code 993 = .ok (.iload 6, 2) := by decide +kernel
theorem dlw_995 : decode code 995 = .ok (.i2l, 1) := by decide +kernel
theorem dlw_996 : decode code 996 = .ok (.lcmp, 1) := by decide +kernel
theorem dlw_997 : decode code 997 = .ok (.ifCond .eq 5, 3) := by decide +kernel
theorem dlw_1000 : decode code 1000 = .ok (.iconst 0, 1) := by decide +kernel
theorem dlw_1001 : decode code 1001 = .ok (.ireturn, 1) := by decide +kernel
theorem dlw_1002 : decode code 1002 = .ok (.goto 2185, 3) := by decide +kernel
theorem dlw_1005 : decode code 1005 = .ok (.aload_n 1, 1) := by decide +kernel
theorem dlw_1006 : decode code 1006 = .ok (.aload_n 0, 1) := by decide +kernel
theorem dlw_1007 : decode code 1007 = .ok (.iload 4, 2) := by decide +kernel
theorem dlw_1009 : decode code 1009 = .ok (.iconst 1, 1) := by decide +kernel
theorem dlw_1010 : decode code 1010 = .ok (.iadd, 1) := by decide +kernel
theorem dlw_1011 : decode code 1011 = .ok (.iaload, 1) := by decide +kernel
theorem dlw_1012 : decode code 1012 = .ok (.aload_n 3, 1) := by decide +kernel
theorem dlw_1013 : decode code 1013 = .ok (.invokestatic 211, 3) := by decide +kernel
theorem dlw_1016 : decode code 1016 = .ok (.istore 5, 2) := by decide +kernel
theorem dlw_1018 : decode code 1018 = .ok (.aload_n 2, 1) := by decide +kernel
theorem dlw_1019 : decode code 1019 = .ok (.aload_n 0, 1) := by decide +kernel
theorem dlw_1020 : decode code 1020 = .ok (.iload 4, 2) := by decide +kernel
theorem dlw_1022 : decode code 1022 = .ok (.iconst 1, 1) := by decide +kernel
theorem dlw_1023 : decode code 1023 = .ok (.iadd, 1) := by decide +kernel
theorem dlw_1024 : decode code 1024 = .ok (.iaload, 1) := by decide +kernel
theorem dlw_1025 : decode code 1025 = .ok (.invokevirtual 213, 3) := by decide +kernel
theorem dlw_1028 : decode code 1028 = .ok (.istore 6, 2) := by decide +kernel
theorem dlw_1030 : decode code 1030 = .ok (.aload_n 2, 1) := by decide +kernel
theorem dlw_1031 : decode code 1031 = .ok (.invokevirtual 170, 3) := by decide +kernel
theorem dlw_1034 : decode code 1034 = .ok (.iload 5, 2) := by decide +kernel
theorem dlw_1036 : decode code 1036 = .ok (.if_icmp .eq 5, 3) := by decide +kernel
theorem dlw_1039 : decode code 1039 = .ok (.iconst 0, 1) := by decide +kernel
theorem dlw_1040 : decode code 1040 = .ok (.ireturn, 1) := by decide +kernel
theorem dlw_1041 : decode code 1041 = .ok (.iload 5, 2) := by decide +kernel
theorem dlw_1043 : decode code 1043 = .ok (.ifCond .ne 15, 3) := by decide +kernel
theorem dlw_1046 : decode code 1046 = .ok (.aload_n 3, 1) := by decide +kernel
theorem dlw_1047 : decode code 1047 = .ok (.iconst 0, 1) := by decide +kernel
theorem dlw_1048 : decode code 1048 = .ok (.laload, 1) := by decide +kernel
theorem dlw_1049 : decode code 1049 = .ok (.iload 6, 2) := by decide +kernel
theorem dlw_1051 : decode code 1051 = .ok (.i2l, 1) := by decide +kernel
theorem dlw_1052 : decode code 1052 = .ok (.lcmp, 1) := by decide +kernel
theorem dlw_1053 : decode code 1053 = .ok (.ifCond .eq 5, 3) := by decide +kernel
theorem dlw_1056 : decode code 1056 = .ok (.iconst 0, 1) := by decide +kernel
theorem dlw_1057 : decode code 1057 = .ok (.ireturn, 1) := by decide +kernel
theorem dlw_1058 : decode code 1058 = .ok (.goto 2129, 3) := by decide +kernel
theorem dlw_1061 : decode code 1061 = .ok (.aload_n 1, 1) := by decide +kernel
theorem dlw_1062 : decode code 1062 = .ok (.aload_n 0, 1) := by decide +kernel
theorem dlw_1063 : decode code 1063 = .ok (.iload 4, 2) := by decide +kernel
theorem dlw_1065 : decode code 1065 = .ok (.iconst 1, 1) := by decide +kernel
theorem dlw_1066 : decode code 1066 = .ok (.iadd, 1) := by decide +kernel
theorem dlw_1067 : decode code 1067 = .ok (.iaload, 1) := by decide +kernel
theorem dlw_1068 : decode code 1068 = .ok (.aload_n 3, 1) := by decide +kernel
theorem dlw_1069 : decode code 1069 = .ok (.invokestatic 214, 3) := by decide +kernel
theorem dlw_1072 : decode code 1072 = .ok (.istore 5, 2) := by decide +kernel
theorem dlw_1074 : decode code 1074 = .ok (.aload_n 2, 1) := by decide +kernel
theorem dlw_1075 : decode code 1075 = .ok (.aload_n 0, 1) := by decide +kernel
theorem dlw_1076 : decode code 1076 = .ok (.iload 4, 2) := by decide +kernel
theorem dlw_1078 : decode code 1078 = .ok (.iconst 1, 1) := by decide +kernel
theorem dlw_1079 : decode code 1079 = .ok (.iadd, 1) := by decide +kernel
theorem dlw_1080 : decode code 1080 = .ok (.iaload, 1) := by decide +kernel
theorem dlw_1081 : decode code 1081 = .ok (.invokevirtual 216, 3) := by decide +kernel
theorem dlw_1084 : decode code 1084 = .ok (.istore 6, 2) := by decide +kernel
theorem dlw_1086 : decode code 1086 = .ok (.aload_n 2, 1) := by decide +kernel
theorem dlw_1087 : decode code 1087 = .ok (.invokevirtual 170, 3) := by decide +kernel
theorem dlw_1090 : decode code 1090 = .ok (.iload 5, 2) := by decide +kernel
theorem dlw_1092 : decode code 1092 = .ok (.if_icmp .eq 5, 3) := by decide +kernel
theorem dlw_1095 : decode code 1095 = .ok (.iconst 0, 1) := by decide +kernel
theorem dlw_1096 : decode code 1096 = .ok (.ireturn, 1) := by decide +kernel
theorem dlw_1097 : decode code 1097 = .ok (.iload 5, 2) := by decide +kernel
theorem dlw_1099 : decode code 1099 = .ok (.ifCond .ne 15, 3) := by decide +kernel
theorem dlw_1102 : decode code 1102 = .ok (.aload_n 3, 1) := by decide +kernel
theorem dlw_1103 : decode code 1103 = .ok (.iconst 0, 1) := by decide +kernel
theorem dlw_1104 : decode code 1104 = .ok (.laload, 1) := by decide +kernel
theorem dlw_1105 : decode code 1105 = .ok (.iload 6, 2) := by decide +kernel
theorem dlw_1107 : decode code 1107 = .ok (.i2l, 1) := by decide +kernel
theorem dlw_1108 : decode code 1108 = .ok (.lcmp, 1) := by decide +kernel
theorem dlw_1109 : decode code 1109 = .ok (.ifCond .eq 5, 3) := by decide +kernel
theorem dlw_1112 : decode code 1112 = .ok (.iconst 0, 1) := by decide +kernel
theorem dlw_1113 : decode code 1113 = .ok (.ireturn, 1) := by decide +kernel
theorem dlw_1114 : decode code 1114 = .ok (.goto 2073, 3) := by decide +kernel
theorem dlw_1117 : decode code 1117 = .ok (.aload_n 1, 1) := by decide +kernel
theorem dlw_1118 : decode code 1118 = .ok (.aload_n 0, 1) := by decide +kernel
theorem dlw_1119 : decode code 1119 = .ok (.iload 4, 2) := by decide +kernel
theorem dlw_1121 : decode code 1121 = .ok (.iconst 1, 1) := by decide +kernel
theorem dlw_1122 : decode code 1122 = .ok (.iadd, 1) := by decide +kernel
theorem dlw_1123 : decode code 1123 = .ok (.iaload, 1) := by decide +kernel
theorem dlw_1124 : decode code 1124 = .ok (.aload_n 3, 1) := by decide +kernel
theorem dlw_1125 : decode code 1125 = .ok (.invokestatic 217, 3) := by decide +kernel
theorem dlw_1128 : decode code 1128 = .ok (.istore 5, 2) := by decide +kernel
theorem dlw_1130 : decode code 1130 = .ok (.aload_n 2, 1) := by decide +kernel
theorem dlw_1131 : decode code 1131 = .ok (.aload_n 0, 1) := by decide +kernel
theorem dlw_1132 : decode code 1132 = .ok (.iload 4, 2) := by decide +kernel
theorem dlw_1134 : decode code 1134 = .ok (.iconst 1, 1) := by decide +kernel
theorem dlw_1135 : decode code 1135 = .ok (.iadd, 1) := by decide +kernel
theorem dlw_1136 : decode code 1136 = .ok (.iaload, 1) := by decide +kernel
theorem dlw_1137 : decode code 1137 = .ok (.invokevirtual 219, 3) := by decide +kernel
theorem dlw_1140 : decode code 1140 = .ok (.istore 6, 2) := by decide +kernel
theorem dlw_1142 : decode code 1142 = .ok (.aload_n 2, 1) := by decide +kernel
theorem dlw_1143 : decode code 1143 = .ok (.invokevirtual 170, 3) := by decide +kernel
theorem dlw_1146 : decode code 1146 = .ok (.iload 5, 2) := by decide +kernel
theorem dlw_1148 : decode code 1148 = .ok (.if_icmp .eq 5, 3) := by decide +kernel
theorem dlw_1151 : decode code 1151 = .ok (.iconst 0, 1) := by decide +kernel
theorem dlw_1152 : decode code 1152 = .ok (.ireturn, 1) := by decide +kernel
