theorem d_law_1024 : decode code 1024 = .ok (.bipush 6, 2) := by decide +kernel
theorem d_law_1026 : decode code 1026 = .ok (.iadd, 1) := by decide +kernel
theorem d_law_1027 : decode code 1027 = .ok (.iaload, 1) := by decide +kernel
theorem d_law_1028 : decode code 1028 = .ok (.invokevirtual 118, 3) := by decide +kernel
theorem d_law_1031 : decode code 1031 = .ok (.aload_n 2, 1) := by decide +kernel
theorem d_law_1032 : decode code 1032 = .ok (.aload_n 0, 1) := by decide +kernel
theorem d_law_1033 : decode code 1033 = .ok (.iload_n 3, 1) := by decide +kernel
theorem d_law_1034 : decode code 1034 = .ok (.iconst 1, 1) := by decide +kernel
theorem d_law_1035 : decode code 1035 = .ok (.iadd, 1) := by decide +kernel
theorem d_law_1036 : decode code 1036 = .ok (.iaload, 1) := by decide +kernel
theorem d_law_1037 : decode code 1037 = .ok (.aload_n 0, 1) := by decide +kernel
theorem d_law_1038 : decode code 1038 = .ok (.iload_n 3, 1) := by decide +kernel
theorem d_law_1039 : decode code 1039 = .ok (.iconst 2, 1) := by decide +kernel
theorem d_law_1040 : decode code 1040 = .ok (.iadd, 1) := by decide +kernel
theorem d_law_1041 : decode code 1041 = .ok (.iaload, 1) := by decide +kernel
theorem d_law_1042 : decode code 1042 = .ok (.aload_n 0, 1) := by decide +kernel
theorem d_law_1043 : decode code 1043 = .ok (.iload_n 3, 1) := by decide +kernel
theorem d_law_1044 : decode code 1044 = .ok (.iconst 3, 1) := by decide +kernel
theorem d_law_1045 : decode code 1045 = .ok (.iadd, 1) := by decide +kernel
theorem d_law_1046 : decode code 1046 = .ok (.iaload, 1) := by decide +kernel
theorem d_law_1047 : decode code 1047 = .ok (.aload_n 0, 1) := by decide +kernel
theorem d_law_1048 : decode code 1048 = .ok (.iload_n 3, 1) := by decide +kernel
theorem d_law_1049 : decode code 1049 = .ok (.iconst 4, 1) := by decide +kernel
theorem d_law_1050 : decode code 1050 = .ok (.iadd, 1) := by decide +kernel
theorem d_law_1051 : decode code 1051 = .ok (.iaload, 1) := by decide +kernel
theorem d_law_1052 : decode code 1052 = .ok (.aload_n 0, 1) := by decide +kernel
theorem d_law_1053 : decode code 1053 = .ok (.iload_n 3, 1) := by decide +kernel
theorem d_law_1054 : decode code 1054 = .ok (.iconst 5, 1) := by decide +kernel
theorem d_law_1055 : decode code 1055 = .ok (.iadd, 1) := by decide +kernel
theorem d_law_1056 : decode code 1056 = .ok (.iaload, 1) := by decide +kernel
theorem d_law_1057 : decode code 1057 = .ok (.aload_n 0, 1) := by decide +kernel
theorem d_law_1058 : decode code 1058 = .ok (.iload_n 3, 1) := by decide +kernel
theorem d_law_1059 : decode code 1059 = .ok (.bipush 6, 2) := by decide +kernel
theorem d_law_1061 : decode code 1061 = .ok (.iadd, 1) := by decide +kernel
theorem d_law_1062 : decode code 1062 = .ok (.iaload, 1) := by decide +kernel
theorem d_law_1063 : decode code 1063 = .ok (.invokevirtual 121, 3) := by decide +kernel
theorem d_law_1066 : decode code 1066 = .ok (.if_icmp .eq 323, 3) := by decide +kernel
theorem d_law_1069 : decode code 1069 = .ok (.iconst 0, 1) := by decide +kernel
theorem d_law_1070 : decode code 1070 = .ok (.ireturn, 1) := by decide +kernel
theorem d_law_1071 : decode code 1071 = .ok (.aload_n 1, 1) := by decide +kernel
theorem d_law_1072 : decode code 1072 = .ok (.aload_n 0, 1) := by decide +kernel
theorem d_law_1073 : decode code 1073 = .ok (.iload_n 3, 1) := by decide +kernel
theorem d_law_1074 : decode code 1074 = .ok (.iconst 1, 1) := by decide +kernel
theorem d_law_1075 : decode code 1075 = .ok (.iadd, 1) := by decide +kernel
theorem d_law_1076 : decode code 1076 = .ok (.iaload, 1) := by decide +kernel
theorem d_law_1077 : decode code 1077 = .ok (.aload_n 0, 1) := by decide +kernel
theorem d_law_1078 : decode code 1078 = .ok (.iload_n 3, 1) := by decide +kernel
theorem d_law_1079 : decode code 1079 = .ok (.iconst 2, 1) := by decide +kernel
theorem d_law_1080 : decode code 1080 = .ok (.iadd, 1) := by decide +kernel
theorem d_law_1081 : decode code 1081 = .ok (.iaload, 1) := by decide +kernel
theorem d_law_1082 : decode code 1082 = .ok (.aload_n 0, 1) := by decide +kernel
theorem d_law_1083 : decode code 1083 = .ok (.iload_n 3, 1) := by decide +kernel
theorem d_law_1084 : decode code 1084 = .ok (.iconst 3, 1) := by decide +kernel
theorem d_law_1085 : decode code 1085 = .ok (.iadd, 1) := by decide +kernel
theorem d_law_1086 : decode code 1086 = .ok (.iaload, 1) := by decide +kernel
theorem d_law_1087 : decode code 1087 = .ok (.invokevirtual 122, 3) := by decide +kernel
theorem d_law_1090 : decode code 1090 = .ok (.aload_n 2, 1) := by decide +kernel
theorem d_law_1091 : decode code 1091 = .ok (.aload_n 0, 1) := by decide +kernel
theorem d_law_1092 : decode code 1092 = .ok (.iload_n 3, 1) := by decide +kernel
theorem d_law_1093 : decode code 1093 = .ok (.iconst 1, 1) := by decide +kernel
