theorem dX6_init_0 : decode cX6_init 0 = .ok (.aload_n 0, 1) := by decide +kernel
theorem dX6_init_1 : decode cX6_init 1 = .ok (.invokespecial 3, 3) := by decide +kernel
theorem dX6_init_4 : decode cX6_init 4 = .ok (.aload_n 0, 1) := by decide +kernel
theorem dX6_init_5 : decode cX6_init 5 = .ok (.iconst (-1), 1) := by decide +kernel
theorem dX6_init_6 : decode cX6_init 6 = .ok (.putfield 9, 3) := by decide +kernel
theorem dX6_init_9 : decode cX6_init 9 = .ok (.return_, 1) := by decide +kernel
theorem dX9_init_0 : decode cX9_init 0 = .ok (.aload_n 0, 1) := by decide +kernel
theorem dX9_init_1 : decode cX9_init 1 = .ok (.invokespecial 3, 3) := by decide +kernel
theorem dX9_init_4 : decode cX9_init 4 = .ok (.return_, 1) := by decide +kernel
theorem dX10_init_0 : decode cX10_init 0 = .ok (.aload_n 0, 1) := by decide +kernel
theorem dX10_init_1 : decode cX10_init 1 = .ok (.invokespecial 3, 3) := by decide +kernel
theorem dX10_init_4 : decode cX10_init 4 = .ok (.return_, 1) := by decide +kernel
theorem dX1_init_0 : decode cX1_init 0 = .ok (.aload_n 0, 1) := by decide +kernel
theorem dX1_init_1 : decode cX1_init 1 = .ok (.invokespecial 3, 3) := by decide +kernel
theorem dX1_init_4 : decode cX1_init 4 = .ok (.return_, 1) := by decide +kernel
theorem dX2_init_0 : decode cX2_init 0 = .ok (.aload_n 0, 1) := by decide +kernel
theorem dX2_init_1 : decode cX2_init 1 = .ok (.invokespecial 3, 3) := by decide +kernel
theorem dX2_init_4 : decode cX2_init 4 = .ok (.return_, 1) := by decide +kernel
theorem dX0_init_0 : decode cX0_init 0 = .ok (.aload_n 0, 1) := by decide +kernel
theorem dX0_init_1 : decode cX0_init 1 = .ok (.invokespecial 3, 3) := by decide +kernel
theorem dX0_init_4 : decode cX0_init 4 = .ok (.return_, 1) := by decide +kernel
theorem dX5_init_0 : decode cX5_init 0 = .ok (.aload_n 0, 1) := by decide +kernel
theorem dX5_init_1 : decode cX5_init 1 = .ok (.invokespecial 3, 3) := by decide +kernel
theorem dX5_init_4 : decode cX5_init 4 = .ok (.aload_n 0, 1) := by decide +kernel
theorem dX5_init_5 : decode cX5_init 5 = .ok (.bipush 45, 2) := by decide +kernel
theorem dX5_init_7 : decode cX5_init 7 = .ok (.newarray .char, 2) := by decide +kernel
theorem dX5_init_9 : decode cX5_init 9 = .ok (.putfield 9, 3) := by decide +kernel
theorem dX5_init_12 : decode cX5_init 12 = .ok (.return_, 1) := by decide +kernel
theorem dX7_init_0 : decode cX7_init 0 = .ok (.aload_n 0, 1) := by decide +kernel
theorem dX7_init_1 : decode cX7_init 1 = .ok (.invokespecial 3, 3) := by decide +kernel
theorem dX7_init_4 : decode cX7_init 4 = .ok (.aload_n 0, 1) := by decide +kernel
theorem dX7_init_5 : decode cX7_init 5 = .ok (.bipush 36, 2) := by decide +kernel
theorem dX7_init_7 : decode cX7_init 7 = .ok (.newarray .int, 2) := by decide +kernel
theorem dX7_init_9 : decode cX7_init 9 = .ok (.putfield 9, 3) := by decide +kernel
theorem dX7_init_12 : decode cX7_init 12 = .ok (.aload_n 0, 1) := by decide +kernel
theorem dX7_init_13 : decode cX7_init 13 = .ok (.bipush 36, 2) := by decide +kernel
theorem dX7_init_15 : decode cX7_init 15 = .ok (.newarray .int, 2) := by decide +kernel
theorem dX7_init_17 : decode cX7_init 17 = .ok (.putfield 15, 3) := by decide +kernel
theorem dX7_init_20 : decode cX7_init 20 = .ok (.aload_n 0, 1) := by decide +kernel
theorem dX7_init_21 : decode cX7_init 21 = .ok (.bipush 36, 2) := by decide +kernel
theorem dX7_init_23 : decode cX7_init 23 = .ok (.newarray .int, 2) := by decide +kernel
theorem dX7_init_25 : decode cX7_init 25 = .ok (.putfield 18, 3) := by decide +kernel
theorem dX7_init_28 : decode cX7_init 28 = .ok (.aload_n 0, 1) := by decide +kernel
theorem dX7_init_29 : decode cX7_init 29 = .ok (.sipush 144, 3) := by decide +kernel
theorem dX7_init_32 : decode cX7_init 32 = .ok (.newarray .int, 2) := by decide +kernel
theorem dX7_init_34 : decode cX7_init 34 = .ok (.putfield 21, 3) := by decide +kernel
theorem dX7_init_37 : decode cX7_init 37 = .ok (.return_, 1) := by decide +kernel
theorem dX4_init_0 : decode cX4_init 0 = .ok (.aload_n 0, 1) := by decide +kernel
theorem dX4_init_1 : decode cX4_init 1 = .ok (.invokespecial 3, 3) := by decide +kernel
theorem dX4_init_4 : decode cX4_init 4 = .ok (.aload_n 0, 1) := by decide +kernel
theorem dX4_init_5 : decode cX4_init 5 = .ok (.sipush 144, 3) := by decide +kernel
theorem dX4_init_8 : decode cX4_init 8 = .ok (.newarray .long, 2) := by decide +kernel
theorem dX4_init_10 : decode cX4_init 10 = .ok (.putfield 9, 3) := by decide +kernel
theorem dX4_init_13 : decode cX4_init 13 = .ok (.aload_n 0, 1) := by decide +kernel
theorem dX4_init_14 : decode cX4_init 14 = .ok (.sipush 144, 3) := by decide +kernel
theorem dX4_init_17 : decode cX4_init 17 = .ok (.newarray .long, 2) := by decide +kernel
theorem dX4_init_19 : decode cX4_init 19 = .ok (.putfield 15, 3) := by decide +kernel
theorem dX4_init_22 : decode cX4_init 22 = .ok (.aload_n 0, 1) := by decide +kernel
theorem dX4_init_23 : decode cX4_init 23 = .ok (.iconst 4, 1) := by decide +kernel
theorem dX4_init_24 : decode cX4_init 24 = .ok (.sipush 144, 3) := by decide +kernel
theorem dX4_init_27 : decode cX4_init 27 = .ok (.multianewarray 18 2, 4) := by decide +kernel
theorem dX4_init_31 : decode cX4_init 31 = .ok (.putfield 20, 3) := by decide +kernel
theorem dX4_init_34 : decode cX4_init 34 = .ok (.aload_n 0, 1) := by decide +kernel
theorem dX4_init_35 : decode cX4_init 35 = .ok (.aload_n 1, 1) := by decide +kernel
theorem dX4_init_36 : decode cX4_init 36 = .ok (.putfield 23, 3) := by decide +kernel
theorem dX4_init_39 : decode cX4_init 39 = .ok (.return_, 1) := by decide +kernel
theorem dX8_init_0 : decode cX8_init 0 = .ok (.aload_n 0, 1) := by decide +kernel
theorem dX8_init_1 : decode cX8_init 1 = .ok (.invokespecial 3, 3) := by decide +kernel
theorem dX8_init_4 : decode cX8_init 4 = .ok (.aload_n 0, 1) := by decide +kernel
theorem dX8_init_5 : decode cX8_init 5 = .ok (.aload_n 1, 1) := by decide +kernel
theorem dX8_init_6 : decode cX8_init 6 = .ok (.putfield 9, 3) := by decide +kernel
theorem dX8_init_9 : decode cX8_init 9 = .ok (.aload_n 0, 1) := by decide +kernel
theorem dX8_init_10 : decode cX8_init 10 = .ok (.aload_n 2, 1) := by decide +kernel
theorem dX8_init_11 : decode cX8_init 11 = .ok (.putfield 15, 3) := by decide +kernel
theorem dX8_init_14 : decode cX8_init 14 = .ok (.return_, 1) := by decide +kernel
theorem dX3_init_0 : decode cX3_init 0 = .ok (.aload_n 0, 1) := by decide +kernel
theorem dX3_init_1 : decode cX3_init 1 = .ok (.invokespecial 3, 3) := by decide +kernel
theorem dX3_init_4 : decode cX3_init 4 = .ok (.aload_n 0, 1) := by decide +kernel
theorem dX3_init_5 : decode cX3_init 5 = .ok (.bipush 6, 2) := by decide +kernel
theorem dX3_init_7 : decode cX3_init 7 = .ok (.newarray .int, 2) := by decide +kernel
theorem dX3_init_9 : decode cX3_init 9 = .ok (.putfield 9, 3) := by decide +kernel
theorem dX3_init_12 : decode cX3_init 12 = .ok (.aload_n 0, 1) := by decide +kernel
theorem dX3_init_13 : decode cX3_init 13 = .ok (.bipush 10, 2) := by decide +kernel
theorem dX3_init_15 : decode cX3_init 15 = .ok (.putfield 15, 3) := by decide +kernel
theorem dX3_init_18 : decode cX3_init 18 = .ok (.aload_n 0, 1) := by decide +kernel
theorem dX3_init_19 : decode cX3_init 19 = .ok (.bipush 10, 2) := by decide +kernel
theorem dX3_init_21 : decode cX3_init 21 = .ok (.putfield 19, 3) := by decide +kernel
theorem dX3_init_24 : decode cX3_init 24 = .ok (.aload_n 0, 1) := by decide +kernel
theorem dX3_init_25 : decode cX3_init 25 = .ok (.iconst (-1), 1) := by decide +kernel
theorem dX3_init_26 : decode cX3_init 26 = .ok (.putfield 22, 3) := by decide +kernel
theorem dX3_init_29 : decode cX3_init 29 = .ok (.aload_n 0, 1) := by decide +kernel
theorem dX3_init_30 : decode cX3_init 30 = .ok (.iconst (-1), 1) := by decide +kernel
theorem dX3_init_31 : decode cX3_init 31 = .ok (.putfield 25, 3) := by decide +kernel
theorem dX3_init_34 : decode cX3_init 34 = .ok (.aload_n 0, 1) := by decide +kernel
theorem dX3_init_35 : decode cX3_init 35 = .ok (.iconst (-1), 1) := by decide +kernel
theorem dX3_init_36 : decode cX3_init 36 = .ok (.putfield 28, 3) := by decide +kernel
theorem dX3_init_39 : decode cX3_init 39 = .ok (.aload_n 0, 1) := by decide +kernel
theorem dX3_init_40 : decode cX3_init 40 = .ok (.iconst (-1), 1) := by decide +kernel
theorem dX3_init_41 : decode cX3_init 41 = .ok (.putfield 31, 3) := by decide +kernel
theorem dX3_init_44 : decode cX3_init 44 = .ok (.aload_n 0, 1) := by decide +kernel
theorem dX3_init_45 : decode cX3_init 45 = .ok (.aload_n 1, 1) := by decide +kernel
theorem dX3_init_46 : decode cX3_init 46 = .ok (.putfield 34, 3) := by decide +kernel
theorem dX3_init_49 : decode cX3_init 49 = .ok (.return_, 1) := by decide +kernel
theorem dX11_init_0 : decode cX11_init 0 = .ok (.aload_n 0, 1) := by decide +kernel
theorem dX11_init_1 : decode cX11_init 1 = .ok (.invokespecial 1, 3) := by decide +kernel
theorem dX11_init_4 : decode cX11_init 4 = .ok (.aload_n 0, 1) := by decide +kernel
theorem dX11_init_5 : decode cX11_init 5 = .ok (.new 7, 3) := by decide +kernel
theorem dX11_init_8 : decode cX11_init 8 = .ok (.dup, 1) := by decide +kernel
theorem dX11_init_9 : decode cX11_init 9 = .ok (.invokespecial 9, 3) := by decide +kernel
theorem dX11_init_12 : decode cX11_init 12 = .ok (.putfield 10, 3) := by decide +kernel
theorem dX11_init_15 : decode cX11_init 15 = .ok (.aload_n 0, 1) := by decide +kernel
theorem dX11_init_16 : decode cX11_init 16 = .ok (.new 16, 3) := by decide +kernel
theorem dX11_init_19 : decode cX11_init 19 = .ok (.dup, 1) := by decide +kernel
theorem dX11_init_20 : decode cX11_init 20 = .ok (.invokespecial 18, 3) := by decide +kernel
theorem dX11_init_23 : decode cX11_init 23 = .ok (.putfield 19, 3) := by decide +kernel
theorem dX11_init_26 : decode cX11_init 26 = .ok (.aload_n 0, 1) := by decide +kernel
theorem dX11_init_27 : decode cX11_init 27 = .ok (.new 23, 3) := by decide +kernel
theorem dX11_init_30 : decode cX11_init 30 = .ok (.dup, 1) := by decide +kernel
theorem dX11_init_31 : decode cX11_init 31 = .ok (.aload_n 0, 1) := by decide +kernel
theorem dX11_init_32 : decode cX11_init 32 = .ok (.getfield 19, 3) := by decide +kernel
theorem dX11_init_35 : decode cX11_init 35 = .ok (.invokespecial 25, 3) := by decide +kernel
theorem dX11_init_38 : decode cX11_init 38 = .ok (.putfield 28, 3) := by decide +kernel
theorem dX11_init_41 : decode cX11_init 41 = .ok (.aload_n 0, 1) := by decide +kernel
theorem dX11_init_42 : decode cX11_init 42 = .ok (.bipush 6, 2) := by decide +kernel
theorem dX11_init_44 : decode cX11_init 44 = .ok (.anewarray 32, 3) := by decide +kernel
theorem dX11_init_47 : decode cX11_init 47 = .ok (.putfield 34, 3) := by decide +kernel
theorem dX11_init_50 : decode cX11_init 50 = .ok (.aload_n 0, 1) := by decide +kernel
theorem dX11_init_51 : decode cX11_init 51 = .ok (.new 38, 3) := by decide +kernel
theorem dX11_init_54 : decode cX11_init 54 = .ok (.dup, 1) := by decide +kernel
theorem dX11_init_55 : decode cX11_init 55 = .ok (.aload_n 0, 1) := by decide +kernel
theorem dX11_init_56 : decode cX11_init 56 = .ok (.getfield 19, 3) := by decide +kernel
theorem dX11_init_59 : decode cX11_init 59 = .ok (.aload_n 0, 1) := by decide +kernel
theorem dX11_init_60 : decode cX11_init 60 = .ok (.getfield 34, 3) := by decide +kernel
theorem dX11_init_63 : decode cX11_init 63 = .ok (.invokespecial 40, 3) := by decide +kernel
theorem dX11_init_66 : decode cX11_init 66 = .ok (.putfield 43, 3) := by decide +kernel
theorem dX11_init_69 : decode cX11_init 69 = .ok (.aload_n 0, 1) := by decide +kernel
theorem dX11_init_70 : decode cX11_init 70 = .ok (.new 47, 3) := by decide +kernel
theorem dX11_init_73 : decode cX11_init 73 = .ok (.dup, 1) := by decide +kernel
theorem dX11_init_74 : decode cX11_init 74 = .ok (.aload_n 0, 1) := by decide +kernel
theorem dX11_init_75 : decode cX11_init 75 = .ok (.getfield 34, 3) := by decide +kernel
theorem dX11_init_78 : decode cX11_init 78 = .ok (.invokespecial 49, 3) := by decide +kernel
theorem dX11_init_81 : decode cX11_init 81 = .ok (.putfield 52, 3) := by decide +kernel
theorem dX11_init_84 : decode cX11_init 84 = .ok (.return_, 1) := by decide +kernel
theorem dX12_init_0 : decode cX12_init 0 = .ok (.aload_n 0, 1) := by decide +kernel
theorem dX12_init_1 : decode cX12_init 1 = .ok (.invokespecial 1, 3) := by decide +kernel
theorem dX12_init_4 : decode cX12_init 4 = .ok (.aload_n 0, 1) := by decide +kernel
theorem dX12_init_5 : decode cX12_init 5 = .ok (.bipush 36, 2) := by decide +kernel
theorem dX12_init_7 : decode cX12_init 7 = .ok (.newarray .int, 2) := by decide +kernel
theorem dX12_init_9 : decode cX12_init 9 = .ok (.putfield 7, 3) := by decide +kernel
theorem dX12_init_12 : decode cX12_init 12 = .ok (.aload_n 0, 1) := by decide +kernel
theorem dX12_init_13 : decode cX12_init 13 = .ok (.sipush 144, 3) := by decide +kernel
theorem dX12_init_16 : decode cX12_init 16 = .ok (.newarray .long, 2) := by decide +kernel
theorem dX12_init_18 : decode cX12_init 18 = .ok (.putfield 13, 3) := by decide +kernel
theorem dX12_init_21 : decode cX12_init 21 = .ok (.aload_n 0, 1) := by decide +kernel
theorem dX12_init_22 : decode cX12_init 22 = .ok (.sipush 144, 3) := by decide +kernel
theorem dX12_init_25 : decode cX12_init 25 = .ok (.newarray .long, 2) := by decide +kernel
theorem dX12_init_27 : decode cX12_init 27 = .ok (.putfield 17, 3) := by decide +kernel
theorem dX12_init_30 : decode cX12_init 30 = .ok (.aload_n 0, 1) := by decide +kernel
theorem dX12_init_31 : decode cX12_init 31 = .ok (.bipush 6, 2) := by decide +kernel
theorem dX12_init_33 : decode cX12_init 33 = .ok (.newarray .int, 2) := by decide +kernel
theorem dX12_init_35 : decode cX12_init 35 = .ok (.putfield 20, 3) := by decide +kernel
theorem dX12_init_38 : decode cX12_init 38 = .ok (.aload_n 0, 1) := by decide +kernel
theorem dX12_init_39 : decode cX12_init 39 = .ok (.bipush 6, 2) := by decide +kernel
theorem dX12_init_41 : decode cX12_init 41 = .ok (.newarray .int, 2) := by decide +kernel
theorem dX12_init_43 : decode cX12_init 43 = .ok (.putfield 23, 3) := by decide +kernel
theorem dX12_init_46 : decode cX12_init 46 = .ok (.aload_n 0, 1) := by decide +kernel
theorem dX12_init_47 : decode cX12_init 47 = .ok (.bipush 6, 2) := by decide +kernel
theorem dX12_init_49 : decode cX12_init 49 = .ok (.newarray .int, 2) := by decide +kernel
theorem dX12_init_51 : decode cX12_init 51 = .ok (.putfield 26, 3) := by decide +kernel
theorem dX12_init_54 : decode cX12_init 54 = .ok (.aload_n 0, 1) := by decide +kernel
theorem dX12_init_55 : decode cX12_init 55 = .ok (.bipush 6, 2) := by decide +kernel
theorem dX12_init_57 : decode cX12_init 57 = .ok (.newarray .int, 2) := by decide +kernel
theorem dX12_init_59 : decode cX12_init 59 = .ok (.putfield 29, 3) := by decide +kernel
theorem dX12_init_62 : decode cX12_init 62 = .ok (.aload_n 0, 1) := by decide +kernel
theorem dX12_init_63 : decode cX12_init 63 = .ok (.bipush 6, 2) := by decide +kernel
theorem dX12_init_65 : decode cX12_init 65 = .ok (.newarray .int, 2) := by decide +kernel
theorem dX12_init_67 : decode cX12_init 67 = .ok (.putfield 32, 3) := by decide +kernel
theorem dX12_init_70 : decode cX12_init 70 = .ok (.aload_n 0, 1) := by decide +kernel
theorem dX12_init_71 : decode cX12_init 71 = .ok (.bipush 10, 2) := by decide +kernel
theorem dX12_init_73 : decode cX12_init 73 = .ok (.putfield 35, 3) := by decide +kernel
theorem dX12_init_76 : decode cX12_init 76 = .ok (.aload_n 0, 1) := by decide +kernel
theorem dX12_init_77 : decode cX12_init 77 = .ok (.bipush 10, 2) := by decide +kernel
theorem dX12_init_79 : decode cX12_init 79 = .ok (.putfield 39, 3) := by decide +kernel
theorem dX12_init_82 : decode cX12_init 82 = .ok (.aload_n 0, 1) := by decide +kernel
theorem dX12_init_83 : decode cX12_init 83 = .ok (.iconst (-1), 1) := by decide +kernel
theorem dX12_init_84 : decode cX12_init 84 = .ok (.putfield 42, 3) := by decide +kernel
theorem dX12_init_87 : decode cX12_init 87 = .ok (.aload_n 0, 1) := by decide +kernel
theorem dX12_init_88 : decode cX12_init 88 = .ok (.iconst (-1), 1) := by decide +kernel
theorem dX12_init_89 : decode cX12_init 89 = .ok (.putfield 45, 3) := by decide +kernel
theorem dX12_init_92 : decode cX12_init 92 = .ok (.aload_n 0, 1) := by decide +kernel
theorem dX12_init_93 : decode cX12_init 93 = .ok (.bipush 45, 2) := by decide +kernel
theorem dX12_init_95 : decode cX12_init 95 = .ok (.newarray .byte, 2) := by decide +kernel
theorem dX12_init_97 : decode cX12_init 97 = .ok (.putfield 48, 3) := by decide +kernel
theorem dX12_init_100 : decode cX12_init 100 = .ok (.aload_n 0, 1) := by decide +kernel
theorem dX12_init_101 : decode cX12_init 101 = .ok (.sipush 144, 3) := by decide +kernel
theorem dX12_init_104 : decode cX12_init 104 = .ok (.newarray .long, 2) := by decide +kernel
theorem dX12_init_106 : decode cX12_init 106 = .ok (.putfield 52, 3) := by decide +kernel
theorem dX12_init_109 : decode cX12_init 109 = .ok (.aload_n 0, 1) := by decide +kernel
theorem dX12_init_110 : decode cX12_init 110 = .ok (.bipush 6, 2) := by decide +kernel
theorem dX12_init_112 : decode cX12_init 112 = .ok (.newarray .int, 2) := by decide +kernel
theorem dX12_init_114 : decode cX12_init 114 = .ok (.putfield 55, 3) := by decide +kernel
theorem dX12_init_117 : decode cX12_init 117 = .ok (.aload_n 0, 1) := by decide +kernel
theorem dX12_init_118 : decode cX12_init 118 = .ok (.bipush 36, 2) := by decide +kernel
theorem dX12_init_120 : decode cX12_init 120 = .ok (.newarray .int, 2) := by decide +kernel
theorem dX12_init_122 : decode cX12_init 122 = .ok (.putfield 58, 3) := by decide +kernel
theorem dX12_init_125 : decode cX12_init 125 = .ok (.aload_n 0, 1) := by decide +kernel
theorem dX12_init_126 : decode cX12_init 126 = .ok (.iconst (-1), 1) := by decide +kernel
theorem dX12_init_127 : decode cX12_init 127 = .ok (.putfield 61, 3) := by decide +kernel
theorem dX12_init_130 : decode cX12_init 130 = .ok (.aload_n 0, 1) := by decide +kernel
theorem dX12_init_131 : decode cX12_init 131 = .ok (.bipush 6, 2) := by decide +kernel
theorem dX12_init_133 : decode cX12_init 133 = .ok (.newarray .int, 2) := by decide +kernel
theorem dX12_init_135 : decode cX12_init 135 = .ok (.putfield 64, 3) := by decide +kernel
theorem dX12_init_138 : decode cX12_init 138 = .ok (.return_, 1) := by decide +kernel
theorem dX11_playerOfKind_0 : decode cX11_playerOfKind 0 = .ok (.iload_n 0, 1) := by decide +kernel
theorem dX11_playerOfKind_1 : decode cX11_playerOfKind 1 = .ok (.tableswitch 75 1 5 #[35, 43, 51, 59, 67], 35) := by decide +kernel
theorem dX11_playerOfKind_36 : decode cX11_playerOfKind 36 = .ok (.new 307, 3) := by decide +kernel
theorem dX11_playerOfKind_39 : decode cX11_playerOfKind 39 = .ok (.dup, 1) := by decide +kernel
theorem dX11_playerOfKind_40 : decode cX11_playerOfKind 40 = .ok (.invokespecial 309, 3) := by decide +kernel
theorem dX11_playerOfKind_43 : decode cX11_playerOfKind 43 = .ok (.areturn, 1) := by decide +kernel
theorem dX11_playerOfKind_44 : decode cX11_playerOfKind 44 = .ok (.new 310, 3) := by decide +kernel
theorem dX11_playerOfKind_47 : decode cX11_playerOfKind 47 = .ok (.dup, 1) := by decide +kernel
theorem dX11_playerOfKind_48 : decode cX11_playerOfKind 48 = .ok (.invokespecial 312, 3) := by decide +kernel
theorem dX11_playerOfKind_51 : decode cX11_playerOfKind 51 = .ok (.areturn, 1) := by decide +kernel
theorem dX11_playerOfKind_52 : decode cX11_playerOfKind 52 = .ok (.new 313, 3) := by decide +kernel
theorem dX11_playerOfKind_55 : decode cX11_playerOfKind 55 = .ok (.dup, 1) := by decide +kernel
theorem dX11_playerOfKind_56 : decode cX11_playerOfKind 56 = .ok (.invokespecial 315, 3) := by decide +kernel
theorem dX11_playerOfKind_59 : decode cX11_playerOfKind 59 = .ok (.areturn, 1) := by decide +kernel
theorem dX11_playerOfKind_60 : decode cX11_playerOfKind 60 = .ok (.new 316, 3) := by decide +kernel
theorem dX11_playerOfKind_63 : decode cX11_playerOfKind 63 = .ok (.dup, 1) := by decide +kernel
theorem dX11_playerOfKind_64 : decode cX11_playerOfKind 64 = .ok (.invokespecial 318, 3) := by decide +kernel
theorem dX11_playerOfKind_67 : decode cX11_playerOfKind 67 = .ok (.areturn, 1) := by decide +kernel
theorem dX11_playerOfKind_68 : decode cX11_playerOfKind 68 = .ok (.new 319, 3) := by decide +kernel
theorem dX11_playerOfKind_71 : decode cX11_playerOfKind 71 = .ok (.dup, 1) := by decide +kernel
theorem dX11_playerOfKind_72 : decode cX11_playerOfKind 72 = .ok (.invokespecial 321, 3) := by decide +kernel
theorem dX11_playerOfKind_75 : decode cX11_playerOfKind 75 = .ok (.areturn, 1) := by decide +kernel
theorem dX11_playerOfKind_76 : decode cX11_playerOfKind 76 = .ok (.new 32, 3) := by decide +kernel
theorem dX11_playerOfKind_79 : decode cX11_playerOfKind 79 = .ok (.dup, 1) := by decide +kernel
theorem dX11_playerOfKind_80 : decode cX11_playerOfKind 80 = .ok (.invokespecial 322, 3) := by decide +kernel
theorem dX11_playerOfKind_83 : decode cX11_playerOfKind 83 = .ok (.areturn, 1) := by decide +kernel
theorem dX11_player_0 : decode cX11_player 0 = .ok (.iload_n 1, 1) := by decide +kernel
theorem dX11_player_1 : decode cX11_player 1 = .ok (.iconst 5, 1) := by decide +kernel
theorem dX11_player_2 : decode cX11_player 2 = .ok (.invokestatic 113, 3) := by decide +kernel
theorem dX11_player_5 : decode cX11_player 5 = .ok (.ifCond .ne 6, 3) := by decide +kernel
theorem dX11_player_8 : decode cX11_player 8 = .ok (.bipush (-102), 2) := by decide +kernel
theorem dX11_player_10 : decode cX11_player 10 = .ok (.ireturn, 1) := by decide +kernel
theorem dX11_player_11 : decode cX11_player 11 = .ok (.aload_n 0, 1) := by decide +kernel
theorem dX11_player_12 : decode cX11_player 12 = .ok (.getfield 19, 3) := by decide +kernel
theorem dX11_player_15 : decode cX11_player 15 = .ok (.iload_n 2, 1) := by decide +kernel
theorem dX11_player_16 : decode cX11_player 16 = .ok (.invokevirtual 110, 3) := by decide +kernel
theorem dX11_player_19 : decode cX11_player 19 = .ok (.ifCond .ne 6, 3) := by decide +kernel
theorem dX11_player_22 : decode cX11_player 22 = .ok (.bipush (-101), 2) := by decide +kernel
theorem dX11_player_24 : decode cX11_player 24 = .ok (.ireturn, 1) := by decide +kernel
theorem dX11_player_25 : decode cX11_player 25 = .ok (.iload_n 3, 1) := by decide +kernel
theorem dX11_player_26 : decode cX11_player 26 = .ok (.iload 4, 2) := by decide +kernel
theorem dX11_player_28 : decode cX11_player 28 = .ok (.iload 5, 2) := by decide +kernel
theorem dX11_player_30 : decode cX11_player 30 = .ok (.invokestatic 189, 3) := by decide +kernel
theorem dX11_player_33 : decode cX11_player 33 = .ok (.ifCond .ne 6, 3) := by decide +kernel
theorem dX11_player_36 : decode cX11_player 36 = .ok (.bipush (-102), 2) := by decide +kernel
theorem dX11_player_38 : decode cX11_player 38 = .ok (.ireturn, 1) := by decide +kernel
theorem dX11_player_39 : decode cX11_player 39 = .ok (.aload_n 0, 1) := by decide +kernel
theorem dX11_player_40 : decode cX11_player 40 = .ok (.getfield 83, 3) := by decide +kernel
theorem dX11_player_43 : decode cX11_player 43 = .ok (.ifCond .lt 15, 3) := by decide +kernel
theorem dX11_player_46 : decode cX11_player 46 = .ok (.aload_n 0, 1) := by decide +kernel
theorem dX11_player_47 : decode cX11_player 47 = .ok (.getfield 83, 3) := by decide +kernel
theorem dX11_player_50 : decode cX11_player 50 = .ok (.aload_n 0, 1) := by decide +kernel
theorem dX11_player_51 : decode cX11_player 51 = .ok (.getfield 34, 3) := by decide +kernel
theorem dX11_player_54 : decode cX11_player 54 = .ok (.arraylength, 1) := by decide +kernel
theorem dX11_player_55 : decode cX11_player 55 = .ok (.if_icmp .lt 6, 3) := by decide +kernel
theorem dX11_player_58 : decode cX11_player 58 = .ok (.bipush (-104), 2) := by decide +kernel
theorem dX11_player_60 : decode cX11_player 60 = .ok (.ireturn, 1) := by decide +kernel
theorem dX11_player_61 : decode cX11_player 61 = .ok (.iload_n 1, 1) := by decide +kernel
theorem dX11_player_62 : decode cX11_player 62 = .ok (.invokestatic 193, 3) := by decide +kernel
theorem dX11_player_65 : decode cX11_player 65 = .ok (.astore 6, 2) := by decide +kernel
theorem dX11_player_67 : decode cX11_player 67 = .ok (.aload 6, 2) := by decide +kernel
theorem dX11_player_69 : decode cX11_player 69 = .ok (.iload_n 2, 1) := by decide +kernel
theorem dX11_player_70 : decode cX11_player 70 = .ok (.putfield 197, 3) := by decide +kernel
theorem dX11_player_73 : decode cX11_player 73 = .ok (.aload 6, 2) := by decide +kernel
theorem dX11_player_75 : decode cX11_player 75 = .ok (.iload_n 3, 1) := by decide +kernel
theorem dX11_player_76 : decode cX11_player 76 = .ok (.putfield 200, 3) := by decide +kernel
theorem dX11_player_79 : decode cX11_player 79 = .ok (.aload 6, 2) := by decide +kernel
theorem dX11_player_81 : decode cX11_player 81 = .ok (.iload 4, 2) := by decide +kernel
theorem dX11_player_83 : decode cX11_player 83 = .ok (.putfield 201, 3) := by decide +kernel
theorem dX11_player_86 : decode cX11_player 86 = .ok (.aload 6, 2) := by decide +kernel
theorem dX11_player_88 : decode cX11_player 88 = .ok (.iload 5, 2) := by decide +kernel
theorem dX11_player_90 : decode cX11_player 90 = .ok (.putfield 204, 3) := by decide +kernel
theorem dX11_player_93 : decode cX11_player 93 = .ok (.aload_n 0, 1) := by decide +kernel
theorem dX11_player_94 : decode cX11_player 94 = .ok (.getfield 34, 3) := by decide +kernel
theorem dX11_player_97 : decode cX11_player 97 = .ok (.aload_n 0, 1) := by decide +kernel
theorem dX11_player_98 : decode cX11_player 98 = .ok (.getfield 83, 3) := by decide +kernel
theorem dX11_player_101 : decode cX11_player 101 = .ok (.aload 6, 2) := by decide +kernel
theorem dX11_player_103 : decode cX11_player 103 = .ok (.aastore, 1) := by decide +kernel
theorem dX11_player_104 : decode cX11_player 104 = .ok (.aload_n 0, 1) := by decide +kernel
theorem dX11_player_105 : decode cX11_player 105 = .ok (.dup, 1) := by decide +kernel
theorem dX11_player_106 : decode cX11_player 106 = .ok (.getfield 83, 3) := by decide +kernel
theorem dX11_player_109 : decode cX11_player 109 = .ok (.iconst 1, 1) := by decide +kernel
theorem dX11_player_110 : decode cX11_player 110 = .ok (.iadd, 1) := by decide +kernel
theorem dX11_player_111 : decode cX11_player 111 = .ok (.putfield 83, 3) := by decide +kernel
theorem dX11_player_114 : decode cX11_player 114 = .ok (.aload_n 0, 1) := by decide +kernel
theorem dX11_player_115 : decode cX11_player 115 = .ok (.getfield 83, 3) := by decide +kernel
theorem dX11_player_118 : decode cX11_player 118 = .ok (.iconst 1, 1) := by decide +kernel
theorem dX11_player_119 : decode cX11_player 119 = .ok (.isub, 1) := by decide +kernel
theorem dX11_player_120 : decode cX11_player 120 = .ok (.ireturn, 1) := by decide +kernel
