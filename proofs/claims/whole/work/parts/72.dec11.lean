theorem d_law_958 : decode code 958 = .ok (.iaload, 1) := by decide +kernel
theorem d_law_959 : decode code 959 = .ok (.invokevirtual 114, 3) := by decide +kernel
theorem d_law_962 : decode code 962 = .ok (.aload_n 2, 1) := by decide +kernel
theorem d_law_963 : decode code 963 = .ok (.aload_n 0, 1) := by decide +kernel
theorem d_law_964 : decode code 964 = .ok (.iload_n 3, 1) := by decide +kernel
theorem d_law_965 : decode code 965 = .ok (.iconst 1, 1) := by decide +kernel
theorem d_law_966 : decode code 966 = .ok (.iadd, 1) := by decide +kernel
theorem d_law_967 : decode code 967 = .ok (.iaload, 1) := by decide +kernel
theorem d_law_968 : decode code 968 = .ok (.aload_n 0, 1) := by decide +kernel
theorem d_law_969 : decode code 969 = .ok (.iload_n 3, 1) := by decide +kernel
theorem d_law_970 : decode code 970 = .ok (.iconst 2, 1) := by decide +kernel
theorem d_law_971 : decode code 971 = .ok (.iadd, 1) := by decide +kernel
theorem d_law_972 : decode code 972 = .ok (.iaload, 1) := by decide +kernel
theorem d_law_973 : decode code 973 = .ok (.aload_n 0, 1) := by decide +kernel
theorem d_law_974 : decode code 974 = .ok (.iload_n 3, 1) := by decide +kernel
theorem d_law_975 : decode code 975 = .ok (.iconst 3, 1) := by decide +kernel
theorem d_law_976 : decode code 976 = .ok (.iadd, 1) := by decide +kernel
theorem d_law_977 : decode code 977 = .ok (.iaload, 1) := by decide +kernel
theorem d_law_978 : decode code 978 = .ok (.aload_n 0, 1) := by decide +kernel
theorem d_law_979 : decode code 979 = .ok (.iload_n 3, 1) := by decide +kernel
theorem d_law_980 : decode code 980 = .ok (.iconst 4, 1) := by decide +kernel
theorem d_law_981 : decode code 981 = .ok (.iadd, 1) := by decide +kernel
theorem d_law_982 : decode code 982 = .ok (.iaload, 1) := by decide +kernel
theorem d_law_983 : decode code 983 = .ok (.aload_n 0, 1) := by decide +kernel
theorem d_law_984 : decode code 984 = .ok (.iload_n 3, 1) := by decide +kernel
theorem d_law_985 : decode code 985 = .ok (.iconst 5, 1) := by decide +kernel
theorem d_law_986 : decode code 986 = .ok (.iadd, 1) := by decide +kernel
theorem d_law_987 : decode code 987 = .ok (.iaload, 1) := by decide +kernel
theorem d_law_988 : decode code 988 = .ok (.invokevirtual 117, 3) := by decide +kernel
theorem d_law_991 : decode code 991 = .ok (.if_icmp .eq 398, 3) := by decide +kernel
theorem d_law_994 : decode code 994 = .ok (.iconst 0, 1) := by decide +kernel
theorem d_law_995 : decode code 995 = .ok (.ireturn, 1) := by decide +kernel
theorem d_law_996 : decode code 996 = .ok (.aload_n 1, 1) := by decide +kernel
theorem d_law_997 : decode code 997 = .ok (.aload_n 0, 1) := by decide +kernel
theorem d_law_998 : decode code 998 = .ok (.iload_n 3, 1) := by decide +kernel
theorem d_law_999 : decode code 999 = .ok (.iconst 1, 1) := by decide +kernel
theorem d_law_1000 : decode code 1000 = .ok (.iadd, 1) := by decide +kernel
theorem d_law_1001 : decode code 1001 = .ok (.iaload, 1) := by decide +kernel
theorem d_law_1002 : decode code 1002 = .ok (.aload_n 0, 1) := by decide +kernel
theorem d_law_1003 : decode code 1003 = .ok (.iload_n 3, 1) := by decide +kernel
theorem d_law_1004 : decode code 1004 = .ok (.iconst 2, 1) := by decide +kernel
theorem d_law_1005 : decode code 1005 = .ok (.iadd, 1) := by decide +kernel
theorem d_law_1006 : decode code 1006 = .ok (.iaload, 1) := by decide +kernel
theorem d_law_1007 : decode code 1007 = .ok (.aload_n 0, 1) := by decide +kernel
theorem d_law_1008 : decode code 1008 = .ok (.iload_n 3, 1) := by decide +kernel
theorem d_law_1009 : decode code 1009 = .ok (.iconst 3, 1) := by decide +kernel
theorem d_law_1010 : decode code 1010 = .ok (.iadd, 1) := by decide +kernel
theorem d_law_1011 : decode code 1011 = .ok (.iaload, 1) := by decide +kernel
theorem d_law_1012 : decode code 1012 = .ok (.aload_n 0, 1) := by decide +kernel
theorem d_law_1013 : decode code 1013 = .ok (.iload_n 3, 1) := by decide +kernel
theorem d_law_1014 : decode code 1014 = .ok (.iconst 4, 1) := by decide +kernel
theorem d_law_1015 : decode code 1015 = .ok (.iadd, 1) := by decide +kernel
theorem d_law_1016 : decode code 1016 = .ok (.iaload, 1) := by decide +kernel
theorem d_law_1017 : decode code 1017 = .ok (.aload_n 0, 1) := by decide +kernel
theorem d_law_1018 : decode code 1018 = .ok (.iload_n 3, 1) := by decide +kernel
theorem d_law_1019 : decode code 1019 = .ok (.iconst 5, 1) := by decide +kernel
theorem d_law_1020 : decode code 1020 = .ok (.iadd, 1) := by decide +kernel
theorem d_law_1021 : decode code 1021 = .ok (.iaload, 1) := by decide +kernel
theorem d_law_1022 : decode code 1022 = .ok (.aload_n 0, 1) := by decide +kernel
theorem d_law_1023 : decode code 1023 = .ok (.iload_n 3, 1) := by decide +kernel
