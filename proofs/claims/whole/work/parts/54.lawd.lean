/-! the law: decode rows (printed by gen/law.py) -/
theorem d_La_law_960 : decode code 960 = .ok (.iaload, 1) := by decide +kernel
theorem d_La_law_961 : decode code 961 = .ok (.aload_n 0, 1) := by decide +kernel
theorem d_La_law_962 : decode code 962 = .ok (.iload_n 3, 1) := by decide +kernel
theorem d_La_law_963 : decode code 963 = .ok (.iconst 2, 1) := by decide +kernel
theorem d_La_law_964 : decode code 964 = .ok (.iadd, 1) := by decide +kernel
theorem d_La_law_965 : decode code 965 = .ok (.iaload, 1) := by decide +kernel
theorem d_La_law_966 : decode code 966 = .ok (.aload_n 0, 1) := by decide +kernel
theorem d_La_law_967 : decode code 967 = .ok (.iload_n 3, 1) := by decide +kernel
theorem d_La_law_968 : decode code 968 = .ok (.iconst 3, 1) := by decide +kernel
theorem d_La_law_969 : decode code 969 = .ok (.iadd, 1) := by decide +kernel
theorem d_La_law_970 : decode code 970 = .ok (.iaload, 1) := by decide +kernel
theorem d_La_law_971 : decode code 971 = .ok (.invokevirtual 133, 3) := by decide +kernel
theorem d_La_law_974 : decode code 974 = .ok (.if_icmp .eq 312, 3) := by decide +kernel
theorem d_La_law_977 : decode code 977 = .ok (.iconst 0, 1) := by decide +kernel
theorem d_La_law_978 : decode code 978 = .ok (.ireturn, 1) := by decide +kernel
theorem d_La_law_979 : decode code 979 = .ok (.aload_n 1, 1) := by decide +kernel
theorem d_La_law_980 : decode code 980 = .ok (.aload_n 0, 1) := by decide +kernel
theorem d_La_law_981 : decode code 981 = .ok (.iload_n 3, 1) := by decide +kernel
theorem d_La_law_982 : decode code 982 = .ok (.iconst 1, 1) := by decide +kernel
theorem d_La_law_983 : decode code 983 = .ok (.iadd, 1) := by decide +kernel
theorem d_La_law_984 : decode code 984 = .ok (.iaload, 1) := by decide +kernel
theorem d_La_law_985 : decode code 985 = .ok (.invokevirtual 134, 3) := by decide +kernel
theorem d_La_law_988 : decode code 988 = .ok (.aload_n 2, 1) := by decide +kernel
theorem d_La_law_989 : decode code 989 = .ok (.aload_n 0, 1) := by decide +kernel
theorem d_La_law_990 : decode code 990 = .ok (.iload_n 3, 1) := by decide +kernel
theorem d_La_law_991 : decode code 991 = .ok (.iconst 1, 1) := by decide +kernel
theorem d_La_law_992 : decode code 992 = .ok (.iadd, 1) := by decide +kernel
theorem d_La_law_993 : decode code 993 = .ok (.iaload, 1) := by decide +kernel
theorem d_La_law_994 : decode code 994 = .ok (.invokevirtual 137, 3) := by decide +kernel
theorem d_La_law_997 : decode code 997 = .ok (.if_icmp .eq 289, 3) := by decide +kernel
theorem d_La_law_1000 : decode code 1000 = .ok (.iconst 0, 1) := by decide +kernel
theorem d_La_law_1001 : decode code 1001 = .ok (.ireturn, 1) := by decide +kernel
theorem d_La_law_1002 : decode code 1002 = .ok (.aload_n 1, 1) := by decide +kernel
theorem d_La_law_1003 : decode code 1003 = .ok (.aload_n 0, 1) := by decide +kernel
theorem d_La_law_1004 : decode code 1004 = .ok (.iload_n 3, 1) := by decide +kernel
theorem d_La_law_1005 : decode code 1005 = .ok (.iconst 1, 1) := by decide +kernel
theorem d_La_law_1006 : decode code 1006 = .ok (.iadd, 1) := by decide +kernel
theorem d_La_law_1007 : decode code 1007 = .ok (.iaload, 1) := by decide +kernel
theorem d_La_law_1008 : decode code 1008 = .ok (.invokevirtual 138, 3) := by decide +kernel
theorem d_La_law_1011 : decode code 1011 = .ok (.aload_n 2, 1) := by decide +kernel
theorem d_La_law_1012 : decode code 1012 = .ok (.aload_n 0, 1) := by decide +kernel
theorem d_La_law_1013 : decode code 1013 = .ok (.iload_n 3, 1) := by decide +kernel
theorem d_La_law_1014 : decode code 1014 = .ok (.iconst 1, 1) := by decide +kernel
theorem d_La_law_1015 : decode code 1015 = .ok (.iadd, 1) := by decide +kernel
theorem d_La_law_1016 : decode code 1016 = .ok (.iaload, 1) := by decide +kernel
theorem d_La_law_1017 : decode code 1017 = .ok (.invokevirtual 141, 3) := by decide +kernel
theorem d_La_law_1020 : decode code 1020 = .ok (.if_icmp .eq 266, 3) := by decide +kernel
theorem d_La_law_1023 : decode code 1023 = .ok (.iconst 0, 1) := by decide +kernel
theorem d_La_law_1024 : decode code 1024 = .ok (.ireturn, 1) := by decide +kernel
theorem d_La_law_1025 : decode code 1025 = .ok (.aload_n 1, 1) := by decide +kernel
theorem d_La_law_1026 : decode code 1026 = .ok (.aload_n 0, 1) := by decide +kernel
theorem d_La_law_1027 : decode code 1027 = .ok (.iload_n 3, 1) := by decide +kernel
theorem d_La_law_1028 : decode code 1028 = .ok (.iconst 1, 1) := by decide +kernel
theorem d_La_law_1029 : decode code 1029 = .ok (.iadd, 1) := by decide +kernel
theorem d_La_law_1030 : decode code 1030 = .ok (.iaload, 1) := by decide +kernel
theorem d_La_law_1031 : decode code 1031 = .ok (.aload_n 0, 1) := by decide +kernel
theorem d_La_law_1032 : decode code 1032 = .ok (.iload_n 3, 1) := by decide +kernel
theorem d_La_law_1033 : decode code 1033 = .ok (.iconst 2, 1) := by decide +kernel
theorem d_La_law_1034 : decode code 1034 = .ok (.iadd, 1) := by decide +kernel
theorem d_La_law_1035 : decode code 1035 = .ok (.iaload, 1) := by decide +kernel
theorem d_La_law_1036 : decode code 1036 = .ok (.invokevirtual 142, 3) := by decide +kernel
theorem d_La_law_1039 : decode code 1039 = .ok (.aload_n 2, 1) := by decide +kernel
theorem d_La_law_1040 : decode code 1040 = .ok (.aload_n 0, 1) := by decide +kernel
theorem d_La_law_1041 : decode code 1041 = .ok (.iload_n 3, 1) := by decide +kernel
theorem d_La_law_1042 : decode code 1042 = .ok (.iconst 1, 1) := by decide +kernel
theorem d_La_law_1043 : decode code 1043 = .ok (.iadd, 1) := by decide +kernel
theorem d_La_law_1044 : decode code 1044 = .ok (.iaload, 1) := by decide +kernel
theorem d_La_law_1045 : decode code 1045 = .ok (.aload_n 0, 1) := by decide +kernel
theorem d_La_law_1046 : decode code 1046 = .ok (.iload_n 3, 1) := by decide +kernel
theorem d_La_law_1047 : decode code 1047 = .ok (.iconst 2, 1) := by decide +kernel
theorem d_La_law_1048 : decode code 1048 = .ok (.iadd, 1) := by decide +kernel
theorem d_La_law_1049 : decode code 1049 = .ok (.iaload, 1) := by decide +kernel
theorem d_La_law_1050 : decode code 1050 = .ok (.invokevirtual 145, 3) := by decide +kernel
theorem d_La_law_1053 : decode code 1053 = .ok (.if_icmp .eq 233, 3) := by decide +kernel
theorem d_La_law_1056 : decode code 1056 = .ok (.iconst 0, 1) := by decide +kernel
theorem d_La_law_1057 : decode code 1057 = .ok (.ireturn, 1) := by decide +kernel
theorem d_La_law_1058 : decode code 1058 = .ok (.aload_n 1, 1) := by decide +kernel
theorem d_La_law_1059 : decode code 1059 = .ok (.aload_n 0, 1) := by decide +kernel
theorem d_La_law_1060 : decode code 1060 = .ok (.iload_n 3, 1) := by decide +kernel
theorem d_La_law_1061 : decode code 1061 = .ok (.iconst 1, 1) := by decide +kernel
theorem d_La_law_1062 : decode code 1062 = .ok (.iadd, 1) := by decide +kernel
theorem d_La_law_1063 : decode code 1063 = .ok (.iaload, 1) := by decide +kernel
theorem d_La_law_1064 : decode code 1064 = .ok (.invokevirtual 146, 3) := by decide +kernel
theorem d_La_law_1067 : decode code 1067 = .ok (.aload_n 2, 1) := by decide +kernel
theorem d_La_law_1068 : decode code 1068 = .ok (.aload_n 0, 1) := by decide +kernel
theorem d_La_law_1069 : decode code 1069 = .ok (.iload_n 3, 1) := by decide +kernel
theorem d_La_law_1070 : decode code 1070 = .ok (.iconst 1, 1) := by decide +kernel
theorem d_La_law_1071 : decode code 1071 = .ok (.iadd, 1) := by decide +kernel
theorem d_La_law_1072 : decode code 1072 = .ok (.iaload, 1) := by decide +kernel
theorem d_La_law_1073 : decode code 1073 = .ok (.invokevirtual 149, 3) := by decide +kernel
theorem d_La_law_1076 : decode code 1076 = .ok (.if_icmp .eq 210, 3) := by decide +kernel
theorem d_La_law_1079 : decode code 1079 = .ok (.iconst 0, 1) := by decide +kernel
theorem d_La_law_1080 : decode code 1080 = .ok (.ireturn, 1) := by decide +kernel
theorem d_La_law_1081 : decode code 1081 = .ok (.aload_n 1, 1) := by decide +kernel
theorem d_La_law_1082 : decode code 1082 = .ok (.aload_n 0, 1) := by decide +kernel
theorem d_La_law_1083 : decode code 1083 = .ok (.iload_n 3, 1) := by decide +kernel
theorem d_La_law_1084 : decode code 1084 = .ok (.iconst 1, 1) := by decide +kernel
theorem d_La_law_1085 : decode code 1085 = .ok (.iadd, 1) := by decide +kernel
theorem d_La_law_1086 : decode code 1086 = .ok (.iaload, 1) := by decide +kernel
theorem d_La_law_1087 : decode code 1087 = .ok (.aload_n 0, 1) := by decide +kernel
theorem d_La_law_1088 : decode code 1088 = .ok (.iload_n 3, 1) := by decide +kernel
theorem d_La_law_1089 : decode code 1089 = .ok (.iconst 2, 1) := by decide +kernel
theorem d_La_law_1090 : decode code 1090 = .ok (.iadd, 1) := by decide +kernel
theorem d_La_law_1091 : decode code 1091 = .ok (.iaload, 1) := by decide +kernel
theorem d_La_law_1092 : decode code 1092 = .ok (.invokevirtual 150, 3) := by decide +kernel
theorem d_La_law_1095 : decode code 1095 = .ok (.aload_n 2, 1) := by decide +kernel
theorem d_La_law_1096 : decode code 1096 = .ok (.aload_n 0, 1) := by decide +kernel
theorem d_La_law_1097 : decode code 1097 = .ok (.iload_n 3, 1) := by decide +kernel
theorem d_La_law_1098 : decode code 1098 = .ok (.iconst 1, 1) := by decide +kernel
theorem d_La_law_1099 : decode code 1099 = .ok (.iadd, 1) := by decide +kernel
theorem d_La_law_1100 : decode code 1100 = .ok (.iaload, 1) := by decide +kernel
theorem d_La_law_1101 : decode code 1101 = .ok (.aload_n 0, 1) := by decide +kernel
theorem d_La_law_1102 : decode code 1102 = .ok (.iload_n 3, 1) := by decide +kernel
theorem d_La_law_1103 : decode code 1103 = .ok (.iconst 2, 1) := by decide +kernel
theorem d_La_law_1104 : decode code 1104 = .ok (.iadd, 1) := by decide +kernel
theorem d_La_law_1105 : decode code 1105 = .ok (.iaload, 1) := by decide +kernel
theorem d_La_law_1106 : decode code 1106 = .ok (.invokevirtual 154, 3) := by decide +kernel
theorem d_La_law_1109 : decode code 1109 = .ok (.lcmp, 1) := by decide +kernel
theorem d_La_law_1110 : decode code 1110 = .ok (.ifCond .eq 176, 3) := by decide +kernel
theorem d_La_law_1113 : decode code 1113 = .ok (.iconst 0, 1) := by decide +kernel
theorem d_La_law_1114 : decode code 1114 = .ok (.ireturn, 1) := by decide +kernel
theorem d_La_law_1115 : decode code 1115 = .ok (.aload_n 1, 1) := by decide +kernel
theorem d_La_law_1116 : decode code 1116 = .ok (.aload_n 0, 1) := by decide +kernel
theorem d_La_law_1117 : decode code 1117 = .ok (.iload_n 3, 1) := by decide +kernel
theorem d_La_law_1118 : decode code 1118 = .ok (.iconst 1, 1) := by decide +kernel
theorem d_La_law_1119 : decode code 1119 = .ok (.iadd, 1) := by decide +kernel
theorem d_La_law_1120 : decode code 1120 = .ok (.iaload, 1) := by decide +kernel
theorem d_La_law_1121 : decode code 1121 = .ok (.invokevirtual 155, 3) := by decide +kernel
theorem d_La_law_1124 : decode code 1124 = .ok (.aload_n 2, 1) := by decide +kernel
theorem d_La_law_1125 : decode code 1125 = .ok (.aload_n 0, 1) := by decide +kernel
theorem d_La_law_1126 : decode code 1126 = .ok (.iload_n 3, 1) := by decide +kernel
theorem d_La_law_1127 : decode code 1127 = .ok (.iconst 1, 1) := by decide +kernel
theorem d_La_law_1128 : decode code 1128 = .ok (.iadd, 1) := by decide +kernel
theorem d_La_law_1129 : decode code 1129 = .ok (.iaload, 1) := by decide +kernel
theorem d_La_law_1130 : decode code 1130 = .ok (.invokevirtual 158, 3) := by decide +kernel
theorem d_La_law_1133 : decode code 1133 = .ok (.if_icmp .eq 153, 3) := by decide +kernel
theorem d_La_law_1136 : decode code 1136 = .ok (.iconst 0, 1) := by decide +kernel
theorem d_La_law_1137 : decode code 1137 = .ok (.ireturn, 1) := by decide +kernel
theorem d_La_law_1138 : decode code 1138 = .ok (.aload_n 1, 1) := by decide +kernel
theorem d_La_law_1139 : decode code 1139 = .ok (.aload_n 0, 1) := by decide +kernel
theorem d_La_law_1140 : decode code 1140 = .ok (.iload_n 3, 1) := by decide +kernel
theorem d_La_law_1141 : decode code 1141 = .ok (.iconst 1, 1) := by decide +kernel
theorem d_La_law_1142 : decode code 1142 = .ok (.iadd, 1) := by decide +kernel
theorem d_La_law_1143 : decode code 1143 = .ok (.iaload, 1) := by decide +kernel
theorem d_La_law_1144 : decode code 1144 = .ok (.aload_n 0, 1) := by decide +kernel
theorem d_La_law_1145 : decode code 1145 = .ok (.iload_n 3, 1) := by decide +kernel
theorem d_La_law_1146 : decode code 1146 = .ok (.iconst 2, 1) := by decide +kernel
theorem d_La_law_1147 : decode code 1147 = .ok (.iadd, 1) := by decide +kernel
theorem d_La_law_1148 : decode code 1148 = .ok (.iaload, 1) := by decide +kernel
theorem d_La_law_1149 : decode code 1149 = .ok (.invokevirtual 159, 3) := by decide +kernel
