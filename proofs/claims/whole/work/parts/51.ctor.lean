theorem dX10_init_0 : decode cX10_init 0 = .ok (.aload_n 0, 1) := by decide +kernel
theorem dX10_init_1 : decode cX10_init 1 = .ok (.invokespecial 3, 3) := by decide +kernel
theorem dX10_init_4 : decode cX10_init 4 = .ok (.aload_n 0, 1) := by decide +kernel
theorem dX10_init_5 : decode cX10_init 5 = .ok (.sipush 400, 3) := by decide +kernel
theorem dX10_init_8 : decode cX10_init 8 = .ok (.newarray .int, 2) := by decide +kernel
theorem dX10_init_10 : decode cX10_init 10 = .ok (.putfield 9, 3) := by decide +kernel
theorem dX10_init_13 : decode cX10_init 13 = .ok (.aload_n 0, 1) := by decide +kernel
theorem dX10_init_14 : decode cX10_init 14 = .ok (.iconst (-1), 1) := by decide +kernel
theorem dX10_init_15 : decode cX10_init 15 = .ok (.putfield 15, 3) := by decide +kernel
theorem dX10_init_18 : decode cX10_init 18 = .ok (.aload_n 0, 1) := by decide +kernel
theorem dX10_init_19 : decode cX10_init 19 = .ok (.iconst (-1), 1) := by decide +kernel
theorem dX10_init_20 : decode cX10_init 20 = .ok (.putfield 19, 3) := by decide +kernel
theorem dX10_init_23 : decode cX10_init 23 = .ok (.return_, 1) := by decide +kernel
theorem dX6_init_0 : decode cX6_init 0 = .ok (.aload_n 0, 1) := by decide +kernel
theorem dX6_init_1 : decode cX6_init 1 = .ok (.invokespecial 3, 3) := by decide +kernel
theorem dX6_init_4 : decode cX6_init 4 = .ok (.aload_n 0, 1) := by decide +kernel
theorem dX6_init_5 : decode cX6_init 5 = .ok (.sipush 360, 3) := by decide +kernel
theorem dX6_init_8 : decode cX6_init 8 = .ok (.newarray .int, 2) := by decide +kernel
theorem dX6_init_10 : decode cX6_init 10 = .ok (.putfield 9, 3) := by decide +kernel
theorem dX6_init_13 : decode cX6_init 13 = .ok (.return_, 1) := by decide +kernel
theorem dX1_init_0 : decode cX1_init 0 = .ok (.aload_n 0, 1) := by decide +kernel
theorem dX1_init_1 : decode cX1_init 1 = .ok (.invokespecial 3, 3) := by decide +kernel
theorem dX1_init_4 : decode cX1_init 4 = .ok (.aload_n 0, 1) := by decide +kernel
theorem dX1_init_5 : decode cX1_init 5 = .ok (.bipush 8, 2) := by decide +kernel
theorem dX1_init_7 : decode cX1_init 7 = .ok (.newarray .int, 2) := by decide +kernel
theorem dX1_init_9 : decode cX1_init 9 = .ok (.putfield 9, 3) := by decide +kernel
theorem dX1_init_12 : decode cX1_init 12 = .ok (.aload_n 0, 1) := by decide +kernel
theorem dX1_init_13 : decode cX1_init 13 = .ok (.bipush 8, 2) := by decide +kernel
theorem dX1_init_15 : decode cX1_init 15 = .ok (.newarray .int, 2) := by decide +kernel
theorem dX1_init_17 : decode cX1_init 17 = .ok (.putfield 15, 3) := by decide +kernel
theorem dX1_init_20 : decode cX1_init 20 = .ok (.aload_n 0, 1) := by decide +kernel
theorem dX1_init_21 : decode cX1_init 21 = .ok (.bipush 8, 2) := by decide +kernel
theorem dX1_init_23 : decode cX1_init 23 = .ok (.newarray .int, 2) := by decide +kernel
theorem dX1_init_25 : decode cX1_init 25 = .ok (.putfield 18, 3) := by decide +kernel
theorem dX1_init_28 : decode cX1_init 28 = .ok (.aload_n 0, 1) := by decide +kernel
theorem dX1_init_29 : decode cX1_init 29 = .ok (.bipush 8, 2) := by decide +kernel
theorem dX1_init_31 : decode cX1_init 31 = .ok (.newarray .int, 2) := by decide +kernel
theorem dX1_init_33 : decode cX1_init 33 = .ok (.putfield 21, 3) := by decide +kernel
theorem dX1_init_36 : decode cX1_init 36 = .ok (.aload_n 0, 1) := by decide +kernel
theorem dX1_init_37 : decode cX1_init 37 = .ok (.bipush 64, 2) := by decide +kernel
theorem dX1_init_39 : decode cX1_init 39 = .ok (.newarray .int, 2) := by decide +kernel
theorem dX1_init_41 : decode cX1_init 41 = .ok (.putfield 24, 3) := by decide +kernel
theorem dX1_init_44 : decode cX1_init 44 = .ok (.aload_n 0, 1) := by decide +kernel
theorem dX1_init_45 : decode cX1_init 45 = .ok (.bipush 6, 2) := by decide +kernel
theorem dX1_init_47 : decode cX1_init 47 = .ok (.newarray .int, 2) := by decide +kernel
theorem dX1_init_49 : decode cX1_init 49 = .ok (.putfield 27, 3) := by decide +kernel
theorem dX1_init_52 : decode cX1_init 52 = .ok (.aload_n 0, 1) := by decide +kernel
theorem dX1_init_53 : decode cX1_init 53 = .ok (.bipush 6, 2) := by decide +kernel
theorem dX1_init_55 : decode cX1_init 55 = .ok (.newarray .int, 2) := by decide +kernel
theorem dX1_init_57 : decode cX1_init 57 = .ok (.putfield 30, 3) := by decide +kernel
theorem dX1_init_60 : decode cX1_init 60 = .ok (.aload_n 0, 1) := by decide +kernel
theorem dX1_init_61 : decode cX1_init 61 = .ok (.bipush 6, 2) := by decide +kernel
theorem dX1_init_63 : decode cX1_init 63 = .ok (.newarray .int, 2) := by decide +kernel
theorem dX1_init_65 : decode cX1_init 65 = .ok (.putfield 33, 3) := by decide +kernel
theorem dX1_init_68 : decode cX1_init 68 = .ok (.aload_n 0, 1) := by decide +kernel
theorem dX1_init_69 : decode cX1_init 69 = .ok (.new 36, 3) := by decide +kernel
theorem dX1_init_72 : decode cX1_init 72 = .ok (.dup, 1) := by decide +kernel
theorem dX1_init_73 : decode cX1_init 73 = .ok (.invokespecial 38, 3) := by decide +kernel
theorem dX1_init_76 : decode cX1_init 76 = .ok (.putfield 39, 3) := by decide +kernel
theorem dX1_init_79 : decode cX1_init 79 = .ok (.aload_n 0, 1) := by decide +kernel
theorem dX1_init_80 : decode cX1_init 80 = .ok (.bipush 20, 2) := by decide +kernel
theorem dX1_init_82 : decode cX1_init 82 = .ok (.putfield 43, 3) := by decide +kernel
theorem dX1_init_85 : decode cX1_init 85 = .ok (.aload_n 0, 1) := by decide +kernel
theorem dX1_init_86 : decode cX1_init 86 = .ok (.iconst 1, 1) := by decide +kernel
theorem dX1_init_87 : decode cX1_init 87 = .ok (.putfield 47, 3) := by decide +kernel
theorem dX1_init_90 : decode cX1_init 90 = .ok (.return_, 1) := by decide +kernel
theorem dX4_init_0 : decode cX4_init 0 = .ok (.aload_n 0, 1) := by decide +kernel
theorem dX4_init_1 : decode cX4_init 1 = .ok (.invokespecial 3, 3) := by decide +kernel
theorem dX4_init_4 : decode cX4_init 4 = .ok (.aload_n 0, 1) := by decide +kernel
theorem dX4_init_5 : decode cX4_init 5 = .ok (.bipush 12, 2) := by decide +kernel
theorem dX4_init_7 : decode cX4_init 7 = .ok (.newarray .int, 2) := by decide +kernel
theorem dX4_init_9 : decode cX4_init 9 = .ok (.putfield 9, 3) := by decide +kernel
theorem dX4_init_12 : decode cX4_init 12 = .ok (.aload_n 0, 1) := by decide +kernel
theorem dX4_init_13 : decode cX4_init 13 = .ok (.bipush 12, 2) := by decide +kernel
theorem dX4_init_15 : decode cX4_init 15 = .ok (.newarray .int, 2) := by decide +kernel
theorem dX4_init_17 : decode cX4_init 17 = .ok (.putfield 15, 3) := by decide +kernel
theorem dX4_init_20 : decode cX4_init 20 = .ok (.aload_n 0, 1) := by decide +kernel
theorem dX4_init_21 : decode cX4_init 21 = .ok (.bipush 12, 2) := by decide +kernel
theorem dX4_init_23 : decode cX4_init 23 = .ok (.newarray .int, 2) := by decide +kernel
theorem dX4_init_25 : decode cX4_init 25 = .ok (.putfield 18, 3) := by decide +kernel
theorem dX4_init_28 : decode cX4_init 28 = .ok (.aload_n 0, 1) := by decide +kernel
theorem dX4_init_29 : decode cX4_init 29 = .ok (.bipush 12, 2) := by decide +kernel
theorem dX4_init_31 : decode cX4_init 31 = .ok (.newarray .int, 2) := by decide +kernel
theorem dX4_init_33 : decode cX4_init 33 = .ok (.putfield 21, 3) := by decide +kernel
theorem dX4_init_36 : decode cX4_init 36 = .ok (.aload_n 0, 1) := by decide +kernel
theorem dX4_init_37 : decode cX4_init 37 = .ok (.sipush 400, 3) := by decide +kernel
theorem dX4_init_40 : decode cX4_init 40 = .ok (.newarray .int, 2) := by decide +kernel
theorem dX4_init_42 : decode cX4_init 42 = .ok (.putfield 24, 3) := by decide +kernel
theorem dX4_init_45 : decode cX4_init 45 = .ok (.aload_n 0, 1) := by decide +kernel
theorem dX4_init_46 : decode cX4_init 46 = .ok (.sipush 400, 3) := by decide +kernel
theorem dX4_init_49 : decode cX4_init 49 = .ok (.newarray .int, 2) := by decide +kernel
theorem dX4_init_51 : decode cX4_init 51 = .ok (.putfield 27, 3) := by decide +kernel
theorem dX4_init_54 : decode cX4_init 54 = .ok (.aload_n 0, 1) := by decide +kernel
theorem dX4_init_55 : decode cX4_init 55 = .ok (.bipush 32, 2) := by decide +kernel
theorem dX4_init_57 : decode cX4_init 57 = .ok (.newarray .int, 2) := by decide +kernel
theorem dX4_init_59 : decode cX4_init 59 = .ok (.putfield 30, 3) := by decide +kernel
theorem dX4_init_62 : decode cX4_init 62 = .ok (.aload_n 0, 1) := by decide +kernel
theorem dX4_init_63 : decode cX4_init 63 = .ok (.iconst (-1), 1) := by decide +kernel
theorem dX4_init_64 : decode cX4_init 64 = .ok (.putfield 33, 3) := by decide +kernel
theorem dX4_init_67 : decode cX4_init 67 = .ok (.return_, 1) := by decide +kernel
theorem dX9_init_0 : decode cX9_init 0 = .ok (.aload_n 0, 1) := by decide +kernel
theorem dX9_init_1 : decode cX9_init 1 = .ok (.invokespecial 3, 3) := by decide +kernel
theorem dX9_init_4 : decode cX9_init 4 = .ok (.aload_n 0, 1) := by decide +kernel
theorem dX9_init_5 : decode cX9_init 5 = .ok (.bipush 8, 2) := by decide +kernel
theorem dX9_init_7 : decode cX9_init 7 = .ok (.newarray .int, 2) := by decide +kernel
theorem dX9_init_9 : decode cX9_init 9 = .ok (.putfield 9, 3) := by decide +kernel
theorem dX9_init_12 : decode cX9_init 12 = .ok (.aload_n 0, 1) := by decide +kernel
theorem dX9_init_13 : decode cX9_init 13 = .ok (.bipush 8, 2) := by decide +kernel
theorem dX9_init_15 : decode cX9_init 15 = .ok (.newarray .int, 2) := by decide +kernel
theorem dX9_init_17 : decode cX9_init 17 = .ok (.putfield 15, 3) := by decide +kernel
theorem dX9_init_20 : decode cX9_init 20 = .ok (.aload_n 0, 1) := by decide +kernel
theorem dX9_init_21 : decode cX9_init 21 = .ok (.bipush 8, 2) := by decide +kernel
theorem dX9_init_23 : decode cX9_init 23 = .ok (.newarray .int, 2) := by decide +kernel
theorem dX9_init_25 : decode cX9_init 25 = .ok (.putfield 18, 3) := by decide +kernel
theorem dX9_init_28 : decode cX9_init 28 = .ok (.aload_n 0, 1) := by decide +kernel
theorem dX9_init_29 : decode cX9_init 29 = .ok (.bipush 8, 2) := by decide +kernel
theorem dX9_init_31 : decode cX9_init 31 = .ok (.newarray .int, 2) := by decide +kernel
theorem dX9_init_33 : decode cX9_init 33 = .ok (.putfield 21, 3) := by decide +kernel
theorem dX9_init_36 : decode cX9_init 36 = .ok (.aload_n 0, 1) := by decide +kernel
theorem dX9_init_37 : decode cX9_init 37 = .ok (.bipush 8, 2) := by decide +kernel
theorem dX9_init_39 : decode cX9_init 39 = .ok (.newarray .int, 2) := by decide +kernel
theorem dX9_init_41 : decode cX9_init 41 = .ok (.putfield 24, 3) := by decide +kernel
theorem dX9_init_44 : decode cX9_init 44 = .ok (.aload_n 0, 1) := by decide +kernel
theorem dX9_init_45 : decode cX9_init 45 = .ok (.bipush 8, 2) := by decide +kernel
theorem dX9_init_47 : decode cX9_init 47 = .ok (.newarray .int, 2) := by decide +kernel
theorem dX9_init_49 : decode cX9_init 49 = .ok (.putfield 27, 3) := by decide +kernel
theorem dX9_init_52 : decode cX9_init 52 = .ok (.aload_n 0, 1) := by decide +kernel
theorem dX9_init_53 : decode cX9_init 53 = .ok (.bipush 8, 2) := by decide +kernel
theorem dX9_init_55 : decode cX9_init 55 = .ok (.newarray .int, 2) := by decide +kernel
theorem dX9_init_57 : decode cX9_init 57 = .ok (.putfield 30, 3) := by decide +kernel
theorem dX9_init_60 : decode cX9_init 60 = .ok (.aload_n 0, 1) := by decide +kernel
theorem dX9_init_61 : decode cX9_init 61 = .ok (.bipush 8, 2) := by decide +kernel
theorem dX9_init_63 : decode cX9_init 63 = .ok (.newarray .int, 2) := by decide +kernel
theorem dX9_init_65 : decode cX9_init 65 = .ok (.putfield 33, 3) := by decide +kernel
theorem dX9_init_68 : decode cX9_init 68 = .ok (.aload_n 0, 1) := by decide +kernel
theorem dX9_init_69 : decode cX9_init 69 = .ok (.bipush 9, 2) := by decide +kernel
theorem dX9_init_71 : decode cX9_init 71 = .ok (.newarray .int, 2) := by decide +kernel
theorem dX9_init_73 : decode cX9_init 73 = .ok (.putfield 36, 3) := by decide +kernel
theorem dX9_init_76 : decode cX9_init 76 = .ok (.return_, 1) := by decide +kernel
theorem dX3_init_0 : decode cX3_init 0 = .ok (.aload_n 0, 1) := by decide +kernel
theorem dX3_init_1 : decode cX3_init 1 = .ok (.invokespecial 3, 3) := by decide +kernel
theorem dX3_init_4 : decode cX3_init 4 = .ok (.aload_n 0, 1) := by decide +kernel
theorem dX3_init_5 : decode cX3_init 5 = .ok (.new 9, 3) := by decide +kernel
theorem dX3_init_8 : decode cX3_init 8 = .ok (.dup, 1) := by decide +kernel
theorem dX3_init_9 : decode cX3_init 9 = .ok (.invokespecial 11, 3) := by decide +kernel
theorem dX3_init_12 : decode cX3_init 12 = .ok (.putfield 12, 3) := by decide +kernel
theorem dX3_init_15 : decode cX3_init 15 = .ok (.return_, 1) := by decide +kernel
theorem dX7_init_0 : decode cX7_init 0 = .ok (.aload_n 0, 1) := by decide +kernel
theorem dX7_init_1 : decode cX7_init 1 = .ok (.invokespecial 3, 3) := by decide +kernel
theorem dX7_init_4 : decode cX7_init 4 = .ok (.aload_n 0, 1) := by decide +kernel
theorem dX7_init_5 : decode cX7_init 5 = .ok (.sipush 1792, 3) := by decide +kernel
theorem dX7_init_8 : decode cX7_init 8 = .ok (.newarray .int, 2) := by decide +kernel
theorem dX7_init_10 : decode cX7_init 10 = .ok (.putfield 11, 3) := by decide +kernel
theorem dX7_init_13 : decode cX7_init 13 = .ok (.aload_n 0, 1) := by decide +kernel
theorem dX7_init_14 : decode cX7_init 14 = .ok (.bipush 48, 2) := by decide +kernel
theorem dX7_init_16 : decode cX7_init 16 = .ok (.newarray .int, 2) := by decide +kernel
theorem dX7_init_18 : decode cX7_init 18 = .ok (.putfield 15, 3) := by decide +kernel
theorem dX7_init_21 : decode cX7_init 21 = .ok (.aload_n 0, 1) := by decide +kernel
theorem dX7_init_22 : decode cX7_init 22 = .ok (.bipush 6, 2) := by decide +kernel
theorem dX7_init_24 : decode cX7_init 24 = .ok (.newarray .int, 2) := by decide +kernel
theorem dX7_init_26 : decode cX7_init 26 = .ok (.putfield 18, 3) := by decide +kernel
theorem dX7_init_29 : decode cX7_init 29 = .ok (.return_, 1) := by decide +kernel
theorem dX0_init_0 : decode cX0_init 0 = .ok (.aload_n 0, 1) := by decide +kernel
theorem dX0_init_1 : decode cX0_init 1 = .ok (.invokespecial 3, 3) := by decide +kernel
theorem dX0_init_4 : decode cX0_init 4 = .ok (.aload_n 0, 1) := by decide +kernel
theorem dX0_init_5 : decode cX0_init 5 = .ok (.bipush 65, 2) := by decide +kernel
theorem dX0_init_7 : decode cX0_init 7 = .ok (.newarray .int, 2) := by decide +kernel
theorem dX0_init_9 : decode cX0_init 9 = .ok (.putfield 11, 3) := by decide +kernel
theorem dX0_init_12 : decode cX0_init 12 = .ok (.aload_n 0, 1) := by decide +kernel
theorem dX0_init_13 : decode cX0_init 13 = .ok (.sipush 520, 3) := by decide +kernel
theorem dX0_init_16 : decode cX0_init 16 = .ok (.newarray .int, 2) := by decide +kernel
theorem dX0_init_18 : decode cX0_init 18 = .ok (.putfield 15, 3) := by decide +kernel
theorem dX0_init_21 : decode cX0_init 21 = .ok (.aload_n 0, 1) := by decide +kernel
theorem dX0_init_22 : decode cX0_init 22 = .ok (.bipush 40, 2) := by decide +kernel
theorem dX0_init_24 : decode cX0_init 24 = .ok (.newarray .int, 2) := by decide +kernel
theorem dX0_init_26 : decode cX0_init 26 = .ok (.putfield 18, 3) := by decide +kernel
theorem dX0_init_29 : decode cX0_init 29 = .ok (.return_, 1) := by decide +kernel
theorem dX8_init_0 : decode cX8_init 0 = .ok (.aload_n 0, 1) := by decide +kernel
theorem dX8_init_1 : decode cX8_init 1 = .ok (.invokespecial 3, 3) := by decide +kernel
theorem dX8_init_4 : decode cX8_init 4 = .ok (.aload_n 0, 1) := by decide +kernel
theorem dX8_init_5 : decode cX8_init 5 = .ok (.iconst 5, 1) := by decide +kernel
theorem dX8_init_6 : decode cX8_init 6 = .ok (.newarray .int, 2) := by decide +kernel
theorem dX8_init_8 : decode cX8_init 8 = .ok (.putfield 9, 3) := by decide +kernel
theorem dX8_init_11 : decode cX8_init 11 = .ok (.aload_n 0, 1) := by decide +kernel
theorem dX8_init_12 : decode cX8_init 12 = .ok (.bipush 6, 2) := by decide +kernel
theorem dX8_init_14 : decode cX8_init 14 = .ok (.anewarray 15, 3) := by decide +kernel
theorem dX8_init_17 : decode cX8_init 17 = .ok (.putfield 17, 3) := by decide +kernel
theorem dX8_init_20 : decode cX8_init 20 = .ok (.aload_n 0, 1) := by decide +kernel
theorem dX8_init_21 : decode cX8_init 21 = .ok (.iconst 5, 1) := by decide +kernel
theorem dX8_init_22 : decode cX8_init 22 = .ok (.newarray .int, 2) := by decide +kernel
theorem dX8_init_24 : decode cX8_init 24 = .ok (.putfield 21, 3) := by decide +kernel
theorem dX8_init_27 : decode cX8_init 27 = .ok (.iconst 0, 1) := by decide +kernel
theorem dX8_init_28 : decode cX8_init 28 = .ok (.istore_n 1, 1) := by decide +kernel
theorem dX8_init_29 : decode cX8_init 29 = .ok (.iload_n 1, 1) := by decide +kernel
theorem dX8_init_30 : decode cX8_init 30 = .ok (.aload_n 0, 1) := by decide +kernel
theorem dX8_init_31 : decode cX8_init 31 = .ok (.getfield 17, 3) := by decide +kernel
theorem dX8_init_34 : decode cX8_init 34 = .ok (.arraylength, 1) := by decide +kernel
theorem dX8_init_35 : decode cX8_init 35 = .ok (.if_icmp .ge 22, 3) := by decide +kernel
theorem dX8_init_38 : decode cX8_init 38 = .ok (.aload_n 0, 1) := by decide +kernel
theorem dX8_init_39 : decode cX8_init 39 = .ok (.getfield 17, 3) := by decide +kernel
theorem dX8_init_42 : decode cX8_init 42 = .ok (.iload_n 1, 1) := by decide +kernel
theorem dX8_init_43 : decode cX8_init 43 = .ok (.new 15, 3) := by decide +kernel
theorem dX8_init_46 : decode cX8_init 46 = .ok (.dup, 1) := by decide +kernel
theorem dX8_init_47 : decode cX8_init 47 = .ok (.invokespecial 24, 3) := by decide +kernel
theorem dX8_init_50 : decode cX8_init 50 = .ok (.aastore, 1) := by decide +kernel
theorem dX8_init_51 : decode cX8_init 51 = .ok (.iinc 1 1, 3) := by decide +kernel
theorem dX8_init_54 : decode cX8_init 54 = .ok (.goto (-25), 3) := by decide +kernel
theorem dX8_init_57 : decode cX8_init 57 = .ok (.return_, 1) := by decide +kernel
theorem dX11_init_0 : decode cX11_init 0 = .ok (.aload_n 0, 1) := by decide +kernel
theorem dX11_init_1 : decode cX11_init 1 = .ok (.invokespecial 1, 3) := by decide +kernel
theorem dX11_init_4 : decode cX11_init 4 = .ok (.aload_n 0, 1) := by decide +kernel
theorem dX11_init_5 : decode cX11_init 5 = .ok (.new 7, 3) := by decide +kernel
theorem dX11_init_8 : decode cX11_init 8 = .ok (.dup, 1) := by decide +kernel
theorem dX11_init_9 : decode cX11_init 9 = .ok (.invokespecial 9, 3) := by decide +kernel
theorem dX11_init_12 : decode cX11_init 12 = .ok (.putfield 10, 3) := by decide +kernel
theorem dX11_init_15 : decode cX11_init 15 = .ok (.aload_n 0, 1) := by decide +kernel
theorem dX11_init_16 : decode cX11_init 16 = .ok (.new 16, 3) := by decide +kernel
theorem dX11_init_19 : decode cX11_init 19 = .ok (.dup, 1) := by decide +kernel
theorem dX11_init_20 : decode cX11_init 20 = .ok (.invokespecial 18, 3) := by decide +kernel
theorem dX11_init_23 : decode cX11_init 23 = .ok (.putfield 19, 3) := by decide +kernel
theorem dX11_init_26 : decode cX11_init 26 = .ok (.aload_n 0, 1) := by decide +kernel
theorem dX11_init_27 : decode cX11_init 27 = .ok (.new 16, 3) := by decide +kernel
theorem dX11_init_30 : decode cX11_init 30 = .ok (.dup, 1) := by decide +kernel
theorem dX11_init_31 : decode cX11_init 31 = .ok (.invokespecial 18, 3) := by decide +kernel
theorem dX11_init_34 : decode cX11_init 34 = .ok (.putfield 23, 3) := by decide +kernel
theorem dX11_init_37 : decode cX11_init 37 = .ok (.aload_n 0, 1) := by decide +kernel
theorem dX11_init_38 : decode cX11_init 38 = .ok (.new 26, 3) := by decide +kernel
theorem dX11_init_41 : decode cX11_init 41 = .ok (.dup, 1) := by decide +kernel
theorem dX11_init_42 : decode cX11_init 42 = .ok (.invokespecial 28, 3) := by decide +kernel
theorem dX11_init_45 : decode cX11_init 45 = .ok (.putfield 29, 3) := by decide +kernel
theorem dX11_init_48 : decode cX11_init 48 = .ok (.aload_n 0, 1) := by decide +kernel
theorem dX11_init_49 : decode cX11_init 49 = .ok (.new 26, 3) := by decide +kernel
theorem dX11_init_52 : decode cX11_init 52 = .ok (.dup, 1) := by decide +kernel
theorem dX11_init_53 : decode cX11_init 53 = .ok (.invokespecial 28, 3) := by decide +kernel
theorem dX11_init_56 : decode cX11_init 56 = .ok (.putfield 33, 3) := by decide +kernel
theorem dX11_init_59 : decode cX11_init 59 = .ok (.aload_n 0, 1) := by decide +kernel
theorem dX11_init_60 : decode cX11_init 60 = .ok (.new 36, 3) := by decide +kernel
theorem dX11_init_63 : decode cX11_init 63 = .ok (.dup, 1) := by decide +kernel
theorem dX11_init_64 : decode cX11_init 64 = .ok (.invokespecial 38, 3) := by decide +kernel
theorem dX11_init_67 : decode cX11_init 67 = .ok (.putfield 39, 3) := by decide +kernel
theorem dX11_init_70 : decode cX11_init 70 = .ok (.aload_n 0, 1) := by decide +kernel
theorem dX11_init_71 : decode cX11_init 71 = .ok (.new 43, 3) := by decide +kernel
theorem dX11_init_74 : decode cX11_init 74 = .ok (.dup, 1) := by decide +kernel
theorem dX11_init_75 : decode cX11_init 75 = .ok (.invokespecial 45, 3) := by decide +kernel
theorem dX11_init_78 : decode cX11_init 78 = .ok (.putfield 46, 3) := by decide +kernel
theorem dX11_init_81 : decode cX11_init 81 = .ok (.aload_n 0, 1) := by decide +kernel
theorem dX11_init_82 : decode cX11_init 82 = .ok (.new 50, 3) := by decide +kernel
theorem dX11_init_85 : decode cX11_init 85 = .ok (.dup, 1) := by decide +kernel
theorem dX11_init_86 : decode cX11_init 86 = .ok (.invokespecial 52, 3) := by decide +kernel
theorem dX11_init_89 : decode cX11_init 89 = .ok (.putfield 53, 3) := by decide +kernel
theorem dX11_init_92 : decode cX11_init 92 = .ok (.aload_n 0, 1) := by decide +kernel
theorem dX11_init_93 : decode cX11_init 93 = .ok (.new 57, 3) := by decide +kernel
theorem dX11_init_96 : decode cX11_init 96 = .ok (.dup, 1) := by decide +kernel
theorem dX11_init_97 : decode cX11_init 97 = .ok (.invokespecial 59, 3) := by decide +kernel
theorem dX11_init_100 : decode cX11_init 100 = .ok (.putfield 60, 3) := by decide +kernel
theorem dX11_init_103 : decode cX11_init 103 = .ok (.aload_n 0, 1) := by decide +kernel
theorem dX11_init_104 : decode cX11_init 104 = .ok (.new 16, 3) := by decide +kernel
theorem dX11_init_107 : decode cX11_init 107 = .ok (.dup, 1) := by decide +kernel
theorem dX11_init_108 : decode cX11_init 108 = .ok (.invokespecial 18, 3) := by decide +kernel
theorem dX11_init_111 : decode cX11_init 111 = .ok (.putfield 64, 3) := by decide +kernel
theorem dX11_init_114 : decode cX11_init 114 = .ok (.aload_n 0, 1) := by decide +kernel
theorem dX11_init_115 : decode cX11_init 115 = .ok (.new 26, 3) := by decide +kernel
theorem dX11_init_118 : decode cX11_init 118 = .ok (.dup, 1) := by decide +kernel
theorem dX11_init_119 : decode cX11_init 119 = .ok (.invokespecial 28, 3) := by decide +kernel
theorem dX11_init_122 : decode cX11_init 122 = .ok (.putfield 67, 3) := by decide +kernel
theorem dX11_init_125 : decode cX11_init 125 = .ok (.aload_n 0, 1) := by decide +kernel
theorem dX11_init_126 : decode cX11_init 126 = .ok (.bipush 12, 2) := by decide +kernel
theorem dX11_init_128 : decode cX11_init 128 = .ok (.anewarray 16, 3) := by decide +kernel
theorem dX11_init_131 : decode cX11_init 131 = .ok (.putfield 70, 3) := by decide +kernel
theorem dX11_init_134 : decode cX11_init 134 = .ok (.iconst 0, 1) := by decide +kernel
theorem dX11_init_135 : decode cX11_init 135 = .ok (.istore_n 1, 1) := by decide +kernel
theorem dX11_init_136 : decode cX11_init 136 = .ok (.iload_n 1, 1) := by decide +kernel
theorem dX11_init_137 : decode cX11_init 137 = .ok (.aload_n 0, 1) := by decide +kernel
theorem dX11_init_138 : decode cX11_init 138 = .ok (.getfield 70, 3) := by decide +kernel
theorem dX11_init_141 : decode cX11_init 141 = .ok (.arraylength, 1) := by decide +kernel
theorem dX11_init_142 : decode cX11_init 142 = .ok (.if_icmp .ge 22, 3) := by decide +kernel
theorem dX11_init_145 : decode cX11_init 145 = .ok (.aload_n 0, 1) := by decide +kernel
theorem dX11_init_146 : decode cX11_init 146 = .ok (.getfield 70, 3) := by decide +kernel
theorem dX11_init_149 : decode cX11_init 149 = .ok (.iload_n 1, 1) := by decide +kernel
theorem dX11_init_150 : decode cX11_init 150 = .ok (.new 16, 3) := by decide +kernel
theorem dX11_init_153 : decode cX11_init 153 = .ok (.dup, 1) := by decide +kernel
theorem dX11_init_154 : decode cX11_init 154 = .ok (.invokespecial 18, 3) := by decide +kernel
theorem dX11_init_157 : decode cX11_init 157 = .ok (.aastore, 1) := by decide +kernel
theorem dX11_init_158 : decode cX11_init 158 = .ok (.iinc 1 1, 3) := by decide +kernel
theorem dX11_init_161 : decode cX11_init 161 = .ok (.goto (-25), 3) := by decide +kernel
theorem dX11_init_164 : decode cX11_init 164 = .ok (.return_, 1) := by decide +kernel
theorem dX12_init_0 : decode cX12_init 0 = .ok (.aload_n 0, 1) := by decide +kernel
theorem dX12_init_1 : decode cX12_init 1 = .ok (.invokespecial 7, 3) := by decide +kernel
theorem dX12_init_4 : decode cX12_init 4 = .ok (.aload_n 0, 1) := by decide +kernel
theorem dX12_init_5 : decode cX12_init 5 = .ok (.sipush 2190, 3) := by decide +kernel
theorem dX12_init_8 : decode cX12_init 8 = .ok (.newarray .int, 2) := by decide +kernel
theorem dX12_init_10 : decode cX12_init 10 = .ok (.putfield 13, 3) := by decide +kernel
theorem dX12_init_13 : decode cX12_init 13 = .ok (.aload_n 0, 1) := by decide +kernel
theorem dX12_init_14 : decode cX12_init 14 = .ok (.sipush 1341, 3) := by decide +kernel
theorem dX12_init_17 : decode cX12_init 17 = .ok (.newarray .int, 2) := by decide +kernel
theorem dX12_init_19 : decode cX12_init 19 = .ok (.putfield 17, 3) := by decide +kernel
theorem dX12_init_22 : decode cX12_init 22 = .ok (.aload_n 0, 1) := by decide +kernel
theorem dX12_init_23 : decode cX12_init 23 = .ok (.sipush 1341, 3) := by decide +kernel
theorem dX12_init_26 : decode cX12_init 26 = .ok (.newarray .int, 2) := by decide +kernel
theorem dX12_init_28 : decode cX12_init 28 = .ok (.putfield 20, 3) := by decide +kernel
theorem dX12_init_31 : decode cX12_init 31 = .ok (.aload_n 0, 1) := by decide +kernel
theorem dX12_init_32 : decode cX12_init 32 = .ok (.sipush 492, 3) := by decide +kernel
theorem dX12_init_35 : decode cX12_init 35 = .ok (.newarray .int, 2) := by decide +kernel
theorem dX12_init_37 : decode cX12_init 37 = .ok (.putfield 23, 3) := by decide +kernel
theorem dX12_init_40 : decode cX12_init 40 = .ok (.aload_n 0, 1) := by decide +kernel
theorem dX12_init_41 : decode cX12_init 41 = .ok (.sipush 5904, 3) := by decide +kernel
theorem dX12_init_44 : decode cX12_init 44 = .ok (.newarray .int, 2) := by decide +kernel
theorem dX12_init_46 : decode cX12_init 46 = .ok (.putfield 26, 3) := by decide +kernel
theorem dX12_init_49 : decode cX12_init 49 = .ok (.aload_n 0, 1) := by decide +kernel
theorem dX12_init_50 : decode cX12_init 50 = .ok (.bipush 8, 2) := by decide +kernel
theorem dX12_init_52 : decode cX12_init 52 = .ok (.newarray .int, 2) := by decide +kernel
theorem dX12_init_54 : decode cX12_init 54 = .ok (.putfield 29, 3) := by decide +kernel
theorem dX12_init_57 : decode cX12_init 57 = .ok (.aload_n 0, 1) := by decide +kernel
theorem dX12_init_58 : decode cX12_init 58 = .ok (.bipush 8, 2) := by decide +kernel
theorem dX12_init_60 : decode cX12_init 60 = .ok (.newarray .int, 2) := by decide +kernel
theorem dX12_init_62 : decode cX12_init 62 = .ok (.putfield 32, 3) := by decide +kernel
theorem dX12_init_65 : decode cX12_init 65 = .ok (.aload_n 0, 1) := by decide +kernel
theorem dX12_init_66 : decode cX12_init 66 = .ok (.sipush 400, 3) := by decide +kernel
theorem dX12_init_69 : decode cX12_init 69 = .ok (.newarray .byte, 2) := by decide +kernel
theorem dX12_init_71 : decode cX12_init 71 = .ok (.putfield 35, 3) := by decide +kernel
theorem dX12_init_74 : decode cX12_init 74 = .ok (.aload_n 0, 1) := by decide +kernel
theorem dX12_init_75 : decode cX12_init 75 = .ok (.iconst (-1), 1) := by decide +kernel
theorem dX12_init_76 : decode cX12_init 76 = .ok (.putfield 39, 3) := by decide +kernel
theorem dX12_init_79 : decode cX12_init 79 = .ok (.aload_n 0, 1) := by decide +kernel
theorem dX12_init_80 : decode cX12_init 80 = .ok (.iconst 5, 1) := by decide +kernel
theorem dX12_init_81 : decode cX12_init 81 = .ok (.newarray .int, 2) := by decide +kernel
theorem dX12_init_83 : decode cX12_init 83 = .ok (.putfield 42, 3) := by decide +kernel
theorem dX12_init_86 : decode cX12_init 86 = .ok (.aload_n 0, 1) := by decide +kernel
theorem dX12_init_87 : decode cX12_init 87 = .ok (.sipush 400, 3) := by decide +kernel
theorem dX12_init_90 : decode cX12_init 90 = .ok (.newarray .int, 2) := by decide +kernel
theorem dX12_init_92 : decode cX12_init 92 = .ok (.putfield 45, 3) := by decide +kernel
theorem dX12_init_95 : decode cX12_init 95 = .ok (.aload_n 0, 1) := by decide +kernel
theorem dX12_init_96 : decode cX12_init 96 = .ok (.iconst 5, 1) := by decide +kernel
theorem dX12_init_97 : decode cX12_init 97 = .ok (.newarray .int, 2) := by decide +kernel
theorem dX12_init_99 : decode cX12_init 99 = .ok (.putfield 48, 3) := by decide +kernel
theorem dX12_init_102 : decode cX12_init 102 = .ok (.aload_n 0, 1) := by decide +kernel
theorem dX12_init_103 : decode cX12_init 103 = .ok (.iconst 5, 1) := by decide +kernel
theorem dX12_init_104 : decode cX12_init 104 = .ok (.newarray .int, 2) := by decide +kernel
theorem dX12_init_106 : decode cX12_init 106 = .ok (.putfield 51, 3) := by decide +kernel
theorem dX12_init_109 : decode cX12_init 109 = .ok (.aload_n 0, 1) := by decide +kernel
theorem dX12_init_110 : decode cX12_init 110 = .ok (.bipush 65, 2) := by decide +kernel
theorem dX12_init_112 : decode cX12_init 112 = .ok (.newarray .boolean, 2) := by decide +kernel
theorem dX12_init_114 : decode cX12_init 114 = .ok (.putfield 54, 3) := by decide +kernel
theorem dX12_init_117 : decode cX12_init 117 = .ok (.aload_n 0, 1) := by decide +kernel
theorem dX12_init_118 : decode cX12_init 118 = .ok (.sipush 520, 3) := by decide +kernel
theorem dX12_init_121 : decode cX12_init 121 = .ok (.newarray .int, 2) := by decide +kernel
theorem dX12_init_123 : decode cX12_init 123 = .ok (.putfield 58, 3) := by decide +kernel
theorem dX12_init_126 : decode cX12_init 126 = .ok (.aload_n 0, 1) := by decide +kernel
theorem dX12_init_127 : decode cX12_init 127 = .ok (.bipush 8, 2) := by decide +kernel
theorem dX12_init_129 : decode cX12_init 129 = .ok (.newarray .int, 2) := by decide +kernel
theorem dX12_init_131 : decode cX12_init 131 = .ok (.putfield 61, 3) := by decide +kernel
theorem dX12_init_134 : decode cX12_init 134 = .ok (.aload_n 0, 1) := by decide +kernel
theorem dX12_init_135 : decode cX12_init 135 = .ok (.sipush 1792, 3) := by decide +kernel
theorem dX12_init_138 : decode cX12_init 138 = .ok (.newarray .int, 2) := by decide +kernel
theorem dX12_init_140 : decode cX12_init 140 = .ok (.putfield 64, 3) := by decide +kernel
theorem dX12_init_143 : decode cX12_init 143 = .ok (.aload_n 0, 1) := by decide +kernel
theorem dX12_init_144 : decode cX12_init 144 = .ok (.getfield 13, 3) := by decide +kernel
theorem dX12_init_147 : decode cX12_init 147 = .ok (.bipush 7, 2) := by decide +kernel
theorem dX12_init_149 : decode cX12_init 149 = .ok (.bipush 20, 2) := by decide +kernel
theorem dX12_init_151 : decode cX12_init 151 = .ok (.iastore, 1) := by decide +kernel
theorem dX12_init_152 : decode cX12_init 152 = .ok (.aload_n 0, 1) := by decide +kernel
theorem dX12_init_153 : decode cX12_init 153 = .ok (.getfield 13, 3) := by decide +kernel
theorem dX12_init_156 : decode cX12_init 156 = .ok (.bipush 9, 2) := by decide +kernel
theorem dX12_init_158 : decode cX12_init 158 = .ok (.iconst 1, 1) := by decide +kernel
theorem dX12_init_159 : decode cX12_init 159 = .ok (.iastore, 1) := by decide +kernel
theorem dX12_init_160 : decode cX12_init 160 = .ok (.return_, 1) := by decide +kernel
theorem cfl_X0_11 : FL RX0 11 0 0 := ⟨_, _, _, rfl, by decide, rfl, (tbk tin_2 83 rfl rfl)⟩
theorem cfl_X0_15 : FL RX0 15 0 2 := ⟨_, _, _, rfl, by decide, rfl, (tbk tin_2 87 rfl rfl)⟩
theorem cfl_X0_18 : FL RX0 18 0 3 := ⟨_, _, _, rfl, by decide, rfl, (tbk tin_2 88 rfl rfl)⟩
theorem cfl_X1_9 : FL RX1 9 1 0 := ⟨_, _, _, rfl, by decide, rfl, (tbk tin_1 89 rfl rfl)⟩
theorem cfl_X1_15 : FL RX1 15 1 1 := ⟨_, _, _, rfl, by decide, rfl, (tbk tin_1 92 rfl rfl)⟩
theorem cfl_X1_18 : FL RX1 18 1 2 := ⟨_, _, _, rfl, by decide, rfl, (tbk tin_1 95 rfl rfl)⟩
theorem cfl_X1_21 : FL RX1 21 1 3 := ⟨_, _, _, rfl, by decide, rfl, (tbk tin_1 99 rfl rfl)⟩
theorem cfl_X1_24 : FL RX1 24 1 4 := ⟨_, _, _, rfl, by decide, rfl, (tbk tin_1 103 rfl rfl)⟩
theorem cfl_X1_27 : FL RX1 27 1 5 := ⟨_, _, _, rfl, by decide, rfl, (tbk tin_1 105 rfl rfl)⟩
theorem cfl_X1_30 : FL RX1 30 1 6 := ⟨_, _, _, rfl, by decide, rfl, (tbk tin_1 106 rfl rfl)⟩
theorem cfl_X1_33 : FL RX1 33 1 7 := ⟨_, _, _, rfl, by decide, rfl, (tbk tin_1 107 rfl rfl)⟩
theorem cfl_X1_39 : FL RX1 39 1 8 := ⟨_, _, _, rfl, by decide, rfl, (tbk tin_1 108 rfl rfl)⟩
theorem cfl_X1_43 : FL RX1 43 1 15 := ⟨_, _, _, rfl, by decide, rfl, (tbk tin_1 134 rfl rfl)⟩
theorem cfl_X1_47 : FL RX1 47 1 17 := ⟨_, _, _, rfl, by decide, rfl, (tbk tin_1 139 rfl rfl)⟩
theorem cfl_X10_9 : FL RX10 9 8 0 := ⟨_, _, _, rfl, by decide, rfl, (tbk tin_1 43 rfl rfl)⟩
theorem cfl_X10_15 : FL RX10 15 8 2 := ⟨_, _, _, rfl, by decide, rfl, (tbk tin_1 46 rfl rfl)⟩
theorem cfl_X10_19 : FL RX10 19 8 5 := ⟨_, _, _, rfl, by decide, rfl, (tbk tin_1 51 rfl rfl)⟩
theorem cfl_X11_10 : FL RX11 10 9 0 := ⟨_, _, _, rfl, by decide, rfl, (tbk tin_2 101 rfl rfl)⟩
theorem cfl_X11_19 : FL RX11 19 9 1 := ⟨_, _, _, rfl, by decide, rfl, (tbk tin_2 102 rfl rfl)⟩
theorem cfl_X11_23 : FL RX11 23 9 2 := ⟨_, _, _, rfl, by decide, rfl, (tbk tin_2 103 rfl rfl)⟩
theorem cfl_X11_29 : FL RX11 29 9 3 := ⟨_, _, _, rfl, by decide, rfl, (tbk tin_2 104 rfl rfl)⟩
theorem cfl_X11_33 : FL RX11 33 9 4 := ⟨_, _, _, rfl, by decide, rfl, (tbk tin_2 105 rfl rfl)⟩
theorem cfl_X11_39 : FL RX11 39 9 5 := ⟨_, _, _, rfl, by decide, rfl, (tbk tin_2 106 rfl rfl)⟩
theorem cfl_X11_46 : FL RX11 46 9 6 := ⟨_, _, _, rfl, by decide, rfl, (tbk tin_2 107 rfl rfl)⟩
theorem cfl_X11_53 : FL RX11 53 9 7 := ⟨_, _, _, rfl, by decide, rfl, (tbk tin_2 108 rfl rfl)⟩
theorem cfl_X11_60 : FL RX11 60 9 8 := ⟨_, _, _, rfl, by decide, rfl, (tbk tin_2 109 rfl rfl)⟩
theorem cfl_X11_64 : FL RX11 64 9 9 := ⟨_, _, _, rfl, by decide, rfl, (tbk tin_2 110 rfl rfl)⟩
theorem cfl_X11_67 : FL RX11 67 9 10 := ⟨_, _, _, rfl, by decide, rfl, (tbk tin_2 111 rfl rfl)⟩
theorem cfl_X11_70 : FL RX11 70 9 12 := ⟨_, _, _, rfl, by decide, rfl, (tbk tin_2 113 rfl rfl)⟩
theorem cfl_X12_13 : FL RX12 13 10 1 := ⟨_, _, _, rfl, by decide, rfl, (tbk tin_7 11 rfl rfl)⟩
theorem cfl_X12_17 : FL RX12 17 10 2 := ⟨_, _, _, rfl, by decide, rfl, (tbk tin_7 12 rfl rfl)⟩
theorem cfl_X12_20 : FL RX12 20 10 3 := ⟨_, _, _, rfl, by decide, rfl, (tbk tin_7 13 rfl rfl)⟩
theorem cfl_X12_23 : FL RX12 23 10 4 := ⟨_, _, _, rfl, by decide, rfl, (tbk tin_7 14 rfl rfl)⟩
theorem cfl_X12_26 : FL RX12 26 10 5 := ⟨_, _, _, rfl, by decide, rfl, (tbk tin_7 15 rfl rfl)⟩
theorem cfl_X12_29 : FL RX12 29 10 8 := ⟨_, _, _, rfl, by decide, rfl, (tbk tin_7 18 rfl rfl)⟩
theorem cfl_X12_32 : FL RX12 32 10 9 := ⟨_, _, _, rfl, by decide, rfl, (tbk tin_7 19 rfl rfl)⟩
theorem cfl_X12_35 : FL RX12 35 10 10 := ⟨_, _, _, rfl, by decide, rfl, (tbk tin_7 20 rfl rfl)⟩
theorem cfl_X12_39 : FL RX12 39 10 16 := ⟨_, _, _, rfl, by decide, rfl, (tbk tin_7 26 rfl rfl)⟩
theorem cfl_X12_42 : FL RX12 42 10 17 := ⟨_, _, _, rfl, by decide, rfl, (tbk tin_7 27 rfl rfl)⟩
theorem cfl_X12_45 : FL RX12 45 10 19 := ⟨_, _, _, rfl, by decide, rfl, (tbk tin_7 29 rfl rfl)⟩
theorem cfl_X12_48 : FL RX12 48 10 23 := ⟨_, _, _, rfl, by decide, rfl, (tbk tin_7 33 rfl rfl)⟩
theorem cfl_X12_51 : FL RX12 51 10 24 := ⟨_, _, _, rfl, by decide, rfl, (tbk tin_7 34 rfl rfl)⟩
theorem cfl_X12_54 : FL RX12 54 10 25 := ⟨_, _, _, rfl, by decide, rfl, (tbk tin_7 35 rfl rfl)⟩
theorem cfl_X12_58 : FL RX12 58 10 26 := ⟨_, _, _, rfl, by decide, rfl, (tbk tin_7 36 rfl rfl)⟩
theorem cfl_X12_61 : FL RX12 61 10 27 := ⟨_, _, _, rfl, by decide, rfl, (tbk tin_7 37 rfl rfl)⟩
theorem cfl_X12_64 : FL RX12 64 10 28 := ⟨_, _, _, rfl, by decide, rfl, (tbk tin_7 38 rfl rfl)⟩
theorem cfl_X3_12 : FL RX3 12 2 0 := ⟨_, _, _, rfl, by decide, rfl, (tbk tin_2 28 rfl rfl)⟩
theorem cfl_X4_9 : FL RX4 9 3 0 := ⟨_, _, _, rfl, by decide, rfl, (tbk tin_1 184 rfl rfl)⟩
theorem cfl_X4_15 : FL RX4 15 3 1 := ⟨_, _, _, rfl, by decide, rfl, (tbk tin_1 185 rfl rfl)⟩
theorem cfl_X4_18 : FL RX4 18 3 2 := ⟨_, _, _, rfl, by decide, rfl, (tbk tin_1 186 rfl rfl)⟩
theorem cfl_X4_21 : FL RX4 21 3 3 := ⟨_, _, _, rfl, by decide, rfl, (tbk tin_1 187 rfl rfl)⟩
theorem cfl_X4_24 : FL RX4 24 3 4 := ⟨_, _, _, rfl, by decide, rfl, (tbk tin_1 188 rfl rfl)⟩
theorem cfl_X4_27 : FL RX4 27 3 5 := ⟨_, _, _, rfl, by decide, rfl, (tbk tin_1 189 rfl rfl)⟩
theorem cfl_X4_30 : FL RX4 30 3 6 := ⟨_, _, _, rfl, by decide, rfl, (tbk tin_1 190 rfl rfl)⟩
theorem cfl_X4_33 : FL RX4 33 3 8 := ⟨_, _, _, rfl, by decide, rfl, (tbk tin_1 192 rfl rfl)⟩
theorem cfl_X6_9 : FL RX6 9 4 0 := ⟨_, _, _, rfl, by decide, rfl, (tbk tin_1 81 rfl rfl)⟩
theorem cfl_X7_11 : FL RX7 11 5 0 := ⟨_, _, _, rfl, by decide, rfl, (tbk tin_2 67 rfl rfl)⟩
theorem cfl_X7_15 : FL RX7 15 5 1 := ⟨_, _, _, rfl, by decide, rfl, (tbk tin_2 68 rfl rfl)⟩
theorem cfl_X7_18 : FL RX7 18 5 2 := ⟨_, _, _, rfl, by decide, rfl, (tbk tin_2 69 rfl rfl)⟩
theorem cfl_X8_9 : FL RX8 9 6 0 := ⟨_, _, _, rfl, by decide, rfl, (tbk tin_2 46 rfl rfl)⟩
theorem cfl_X8_17 : FL RX8 17 6 2 := ⟨_, _, _, rfl, by decide, rfl, (tbk tin_2 50 rfl rfl)⟩
theorem cfl_X8_21 : FL RX8 21 6 3 := ⟨_, _, _, rfl, by decide, rfl, (tbk tin_2 51 rfl rfl)⟩
theorem cfl_X9_9 : FL RX9 9 7 0 := ⟨_, _, _, rfl, by decide, rfl, (tbk tin_1 225 rfl rfl)⟩
theorem cfl_X9_15 : FL RX9 15 7 1 := ⟨_, _, _, rfl, by decide, rfl, (tbk tin_1 228 rfl rfl)⟩
theorem cfl_X9_18 : FL RX9 18 7 2 := ⟨_, _, _, rfl, by decide, rfl, (tbk tin_1 230 rfl rfl)⟩
theorem cfl_X9_21 : FL RX9 21 7 3 := ⟨_, _, _, rfl, by decide, rfl, (tbk tin_1 232 rfl rfl)⟩
theorem cfl_X9_24 : FL RX9 24 7 4 := ⟨_, _, _, rfl, by decide, rfl, (tbk tin_1 236 rfl rfl)⟩
theorem cfl_X9_27 : FL RX9 27 7 5 := ⟨_, _, _, rfl, by decide, rfl, (tbk tin_1 239 rfl rfl)⟩
theorem cfl_X9_30 : FL RX9 30 7 6 := ⟨_, _, _, rfl, by decide, rfl, (tbk tin_2 0 rfl rfl)⟩
theorem cfl_X9_33 : FL RX9 33 7 7 := ⟨_, _, _, rfl, by decide, rfl, (tbk tin_2 1 rfl rfl)⟩
theorem cfl_X9_36 : FL RX9 36 7 8 := ⟨_, _, _, rfl, by decide, rfl, (tbk tin_2 2 rfl rfl)⟩
theorem fwf_0_0 : FWf 0 0 RX0 (.array .int) := ⟨_, _, _, rfl, by decide +kernel, by decide +kernel, by decide +kernel⟩
theorem fwf_0_2 : FWf 0 2 RX0 (.array .int) := ⟨_, _, _, rfl, by decide +kernel, by decide +kernel, by decide +kernel⟩
theorem fwf_0_3 : FWf 0 3 RX0 (.array .int) := ⟨_, _, _, rfl, by decide +kernel, by decide +kernel, by decide +kernel⟩
theorem fwf_1_0 : FWf 1 0 RX1 (.array .int) := ⟨_, _, _, rfl, by decide +kernel, by decide +kernel, by decide +kernel⟩
theorem fwf_1_1 : FWf 1 1 RX1 (.array .int) := ⟨_, _, _, rfl, by decide +kernel, by decide +kernel, by decide +kernel⟩
theorem fwf_1_2 : FWf 1 2 RX1 (.array .int) := ⟨_, _, _, rfl, by decide +kernel, by decide +kernel, by decide +kernel⟩
theorem fwf_1_3 : FWf 1 3 RX1 (.array .int) := ⟨_, _, _, rfl, by decide +kernel, by decide +kernel, by decide +kernel⟩
theorem fwf_1_4 : FWf 1 4 RX1 (.array .int) := ⟨_, _, _, rfl, by decide +kernel, by decide +kernel, by decide +kernel⟩
theorem fwf_1_5 : FWf 1 5 RX1 (.array .int) := ⟨_, _, _, rfl, by decide +kernel, by decide +kernel, by decide +kernel⟩
theorem fwf_1_6 : FWf 1 6 RX1 (.array .int) := ⟨_, _, _, rfl, by decide +kernel, by decide +kernel, by decide +kernel⟩
theorem fwf_1_7 : FWf 1 7 RX1 (.array .int) := ⟨_, _, _, rfl, by decide +kernel, by decide +kernel, by decide +kernel⟩
theorem fwf_1_8 : FWf 1 8 RX1 (.object "LeanCity$Log") := ⟨_, _, _, rfl, by decide +kernel, by decide +kernel, by decide +kernel⟩
theorem fwf_2_0 : FWf 2 0 RX3 (.object "LeanCity$Strain") := ⟨_, _, _, rfl, by decide +kernel, by decide +kernel, by decide +kernel⟩
theorem fwf_3_0 : FWf 3 0 RX4 (.array .int) := ⟨_, _, _, rfl, by decide +kernel, by decide +kernel, by decide +kernel⟩
theorem fwf_3_1 : FWf 3 1 RX4 (.array .int) := ⟨_, _, _, rfl, by decide +kernel, by decide +kernel, by decide +kernel⟩
theorem fwf_3_2 : FWf 3 2 RX4 (.array .int) := ⟨_, _, _, rfl, by decide +kernel, by decide +kernel, by decide +kernel⟩
theorem fwf_3_3 : FWf 3 3 RX4 (.array .int) := ⟨_, _, _, rfl, by decide +kernel, by decide +kernel, by decide +kernel⟩
theorem fwf_3_4 : FWf 3 4 RX4 (.array .int) := ⟨_, _, _, rfl, by decide +kernel, by decide +kernel, by decide +kernel⟩
theorem fwf_3_5 : FWf 3 5 RX4 (.array .int) := ⟨_, _, _, rfl, by decide +kernel, by decide +kernel, by decide +kernel⟩
theorem fwf_3_6 : FWf 3 6 RX4 (.array .int) := ⟨_, _, _, rfl, by decide +kernel, by decide +kernel, by decide +kernel⟩
theorem fwf_4_0 : FWf 4 0 RX6 (.array .int) := ⟨_, _, _, rfl, by decide +kernel, by decide +kernel, by decide +kernel⟩
theorem fwf_5_0 : FWf 5 0 RX7 (.array .int) := ⟨_, _, _, rfl, by decide +kernel, by decide +kernel, by decide +kernel⟩
theorem fwf_5_1 : FWf 5 1 RX7 (.array .int) := ⟨_, _, _, rfl, by decide +kernel, by decide +kernel, by decide +kernel⟩
theorem fwf_5_2 : FWf 5 2 RX7 (.array .int) := ⟨_, _, _, rfl, by decide +kernel, by decide +kernel, by decide +kernel⟩
theorem fwf_6_0 : FWf 6 0 RX8 (.array .int) := ⟨_, _, _, rfl, by decide +kernel, by decide +kernel, by decide +kernel⟩
theorem fwf_6_2 : FWf 6 2 RX8 (.array (.object "LeanCity$City")) := ⟨_, _, _, rfl, by decide +kernel, by decide +kernel, by decide +kernel⟩
theorem fwf_6_3 : FWf 6 3 RX8 (.array .int) := ⟨_, _, _, rfl, by decide +kernel, by decide +kernel, by decide +kernel⟩
theorem fwf_7_0 : FWf 7 0 RX9 (.array .int) := ⟨_, _, _, rfl, by decide +kernel, by decide +kernel, by decide +kernel⟩
theorem fwf_7_1 : FWf 7 1 RX9 (.array .int) := ⟨_, _, _, rfl, by decide +kernel, by decide +kernel, by decide +kernel⟩
theorem fwf_7_2 : FWf 7 2 RX9 (.array .int) := ⟨_, _, _, rfl, by decide +kernel, by decide +kernel, by decide +kernel⟩
theorem fwf_7_3 : FWf 7 3 RX9 (.array .int) := ⟨_, _, _, rfl, by decide +kernel, by decide +kernel, by decide +kernel⟩
theorem fwf_7_4 : FWf 7 4 RX9 (.array .int) := ⟨_, _, _, rfl, by decide +kernel, by decide +kernel, by decide +kernel⟩
theorem fwf_7_5 : FWf 7 5 RX9 (.array .int) := ⟨_, _, _, rfl, by decide +kernel, by decide +kernel, by decide +kernel⟩
theorem fwf_7_6 : FWf 7 6 RX9 (.array .int) := ⟨_, _, _, rfl, by decide +kernel, by decide +kernel, by decide +kernel⟩
theorem fwf_7_7 : FWf 7 7 RX9 (.array .int) := ⟨_, _, _, rfl, by decide +kernel, by decide +kernel, by decide +kernel⟩
theorem fwf_7_8 : FWf 7 8 RX9 (.array .int) := ⟨_, _, _, rfl, by decide +kernel, by decide +kernel, by decide +kernel⟩
theorem fwf_8_0 : FWf 8 0 RX10 (.array .int) := ⟨_, _, _, rfl, by decide +kernel, by decide +kernel, by decide +kernel⟩
theorem fwf_9_0 : FWf 9 0 RX11 (.object "LeanCity$Tape") := ⟨_, _, _, rfl, by decide +kernel, by decide +kernel, by decide +kernel⟩
theorem fwf_9_1 : FWf 9 1 RX11 (.object "LeanCity$City") := ⟨_, _, _, rfl, by decide +kernel, by decide +kernel, by decide +kernel⟩
theorem fwf_9_2 : FWf 9 2 RX11 (.object "LeanCity$City") := ⟨_, _, _, rfl, by decide +kernel, by decide +kernel, by decide +kernel⟩
theorem fwf_9_3 : FWf 9 3 RX11 (.object "LeanCity$Law") := ⟨_, _, _, rfl, by decide +kernel, by decide +kernel, by decide +kernel⟩
theorem fwf_9_4 : FWf 9 4 RX11 (.object "LeanCity$Law") := ⟨_, _, _, rfl, by decide +kernel, by decide +kernel, by decide +kernel⟩
theorem fwf_9_5 : FWf 9 5 RX11 (.object "LeanCity$Course") := ⟨_, _, _, rfl, by decide +kernel, by decide +kernel, by decide +kernel⟩
theorem fwf_9_6 : FWf 9 6 RX11 (.object "LeanCity$Razing") := ⟨_, _, _, rfl, by decide +kernel, by decide +kernel, by decide +kernel⟩
theorem fwf_9_7 : FWf 9 7 RX11 (.object "LeanCity$Posts") := ⟨_, _, _, rfl, by decide +kernel, by decide +kernel, by decide +kernel⟩
theorem fwf_9_8 : FWf 9 8 RX11 (.object "LeanCity$Breaks") := ⟨_, _, _, rfl, by decide +kernel, by decide +kernel, by decide +kernel⟩
theorem fwf_9_9 : FWf 9 9 RX11 (.object "LeanCity$City") := ⟨_, _, _, rfl, by decide +kernel, by decide +kernel, by decide +kernel⟩
theorem fwf_9_10 : FWf 9 10 RX11 (.object "LeanCity$Law") := ⟨_, _, _, rfl, by decide +kernel, by decide +kernel, by decide +kernel⟩
theorem fwf_9_12 : FWf 9 12 RX11 (.array (.object "LeanCity$City")) := ⟨_, _, _, rfl, by decide +kernel, by decide +kernel, by decide +kernel⟩
theorem fwf_10_1 : FWf 10 1 RX12 (.array .int) := ⟨_, _, _, rfl, by decide +kernel, by decide +kernel, by decide +kernel⟩
theorem fwf_10_2 : FWf 10 2 RX12 (.array .int) := ⟨_, _, _, rfl, by decide +kernel, by decide +kernel, by decide +kernel⟩
theorem fwf_10_3 : FWf 10 3 RX12 (.array .int) := ⟨_, _, _, rfl, by decide +kernel, by decide +kernel, by decide +kernel⟩
theorem fwf_10_4 : FWf 10 4 RX12 (.array .int) := ⟨_, _, _, rfl, by decide +kernel, by decide +kernel, by decide +kernel⟩
theorem fwf_10_5 : FWf 10 5 RX12 (.array .int) := ⟨_, _, _, rfl, by decide +kernel, by decide +kernel, by decide +kernel⟩
theorem fwf_10_8 : FWf 10 8 RX12 (.array .int) := ⟨_, _, _, rfl, by decide +kernel, by decide +kernel, by decide +kernel⟩
theorem fwf_10_9 : FWf 10 9 RX12 (.array .int) := ⟨_, _, _, rfl, by decide +kernel, by decide +kernel, by decide +kernel⟩
theorem fwf_10_10 : FWf 10 10 RX12 (.array .byte) := ⟨_, _, _, rfl, by decide +kernel, by decide +kernel, by decide +kernel⟩
theorem fwf_10_17 : FWf 10 17 RX12 (.array .int) := ⟨_, _, _, rfl, by decide +kernel, by decide +kernel, by decide +kernel⟩
theorem fwf_10_19 : FWf 10 19 RX12 (.array .int) := ⟨_, _, _, rfl, by decide +kernel, by decide +kernel, by decide +kernel⟩
theorem fwf_10_23 : FWf 10 23 RX12 (.array .int) := ⟨_, _, _, rfl, by decide +kernel, by decide +kernel, by decide +kernel⟩
theorem fwf_10_24 : FWf 10 24 RX12 (.array .int) := ⟨_, _, _, rfl, by decide +kernel, by decide +kernel, by decide +kernel⟩
theorem fwf_10_25 : FWf 10 25 RX12 (.array .boolean) := ⟨_, _, _, rfl, by decide +kernel, by decide +kernel, by decide +kernel⟩
theorem fwf_10_26 : FWf 10 26 RX12 (.array .int) := ⟨_, _, _, rfl, by decide +kernel, by decide +kernel, by decide +kernel⟩
theorem fwf_10_27 : FWf 10 27 RX12 (.array .int) := ⟨_, _, _, rfl, by decide +kernel, by decide +kernel, by decide +kernel⟩
theorem fwf_10_28 : FWf 10 28 RX12 (.array .int) := ⟨_, _, _, rfl, by decide +kernel, by decide +kernel, by decide +kernel⟩
theorem cfw_1_15 : FW 1 15 (.int) := ⟨_, _, _, rfl, by decide +kernel, by decide +kernel⟩
theorem cfw_1_17 : FW 1 17 (.int) := ⟨_, _, _, rfl, by decide +kernel, by decide +kernel⟩
theorem cfw_3_8 : FW 3 8 (.int) := ⟨_, _, _, rfl, by decide +kernel, by decide +kernel⟩
theorem cfw_8_2 : FW 8 2 (.int) := ⟨_, _, _, rfl, by decide +kernel, by decide +kernel⟩
theorem cfw_8_5 : FW 8 5 (.int) := ⟨_, _, _, rfl, by decide +kernel, by decide +kernel⟩
theorem cfw_10_16 : FW 10 16 (.int) := ⟨_, _, _, rfl, by decide +kernel, by decide +kernel⟩
theorem cl_X1_36 : Cond.classLink RX1 36 "LeanCity$Log" ∈ TB := (tbk tin_1 75 rfl rfl)
theorem cl_X11_7 : Cond.classLink RX11 7 "LeanCity$Tape" ∈ TB := (tbk tin_1 37 rfl rfl)
theorem cl_X11_16 : Cond.classLink RX11 16 "LeanCity$City" ∈ TB := (tbk tin_1 69 rfl rfl)
theorem cl_X11_26 : Cond.classLink RX11 26 "LeanCity$Law" ∈ TB := (tbk tin_1 178 rfl rfl)
theorem cl_X11_36 : Cond.classLink RX11 36 "LeanCity$Course" ∈ TB := (tbk tin_1 213 rfl rfl)
theorem cl_X11_43 : Cond.classLink RX11 43 "LeanCity$Razing" ∈ TB := (tbk tin_2 37 rfl rfl)
theorem cl_X11_50 : Cond.classLink RX11 50 "LeanCity$Posts" ∈ TB := (tbk tin_2 61 rfl rfl)
theorem cl_X11_57 : Cond.classLink RX11 57 "LeanCity$Breaks" ∈ TB := (tbk tin_2 77 rfl rfl)
theorem cl_X3_9 : Cond.classLink RX3 9 "LeanCity$Strain" ∈ TB := (tbk tin_1 219 rfl rfl)
theorem cl_X8_15 : Cond.classLink RX8 15 "LeanCity$City" ∈ TB := (tbk tin_2 43 rfl rfl)
theorem inst_X11 : Cond.instantiable "LeanCity" 15 ∈ TB := (tbk tin_1 30 rfl rfl)
theorem ini_X11 : Cond.initialized "LeanCity" ∈ TB := (tbk tin_1 1 rfl rfl)
theorem dv_X11 : ∀ j, j < 15 → defaultValue ((parseFieldDescriptor (TX11 j).2.2.1).getD .int) = vp_V [.null, .null, .null, .null, .null, .null, .null, .null, .null, .null, .null, .int 0, .null, .int 0, .int 0] j := by decide +kernel
theorem inst_X0 : Cond.instantiable "LeanCity$Breaks" 5 ∈ TB := (tbk tin_2 78 rfl rfl)
theorem ini_X0 : Cond.initialized "LeanCity$Breaks" ∈ TB := (tbk tin_1 10 rfl rfl)
theorem dv_X0 : ∀ j, j < 5 → defaultValue ((parseFieldDescriptor (TX0 j).2.2.1).getD .int) = vp_V [.null, .int 0, .null, .null, .int 0] j := by decide +kernel
theorem inst_X1 : Cond.instantiable "LeanCity$City" 18 ∈ TB := (tbk tin_1 70 rfl rfl)
theorem ini_X1 : Cond.initialized "LeanCity$City" ∈ TB := (tbk tin_1 3 rfl rfl)
theorem dv_X1 : ∀ j, j < 18 → defaultValue ((parseFieldDescriptor (TX1 j).2.2.1).getD .int) = vp_V [.null, .null, .null, .null, .null, .null, .null, .null, .null, .int 0, .int 0, .int 0, .int 0, .int 0, .int 0, .int 0, .int 0, .int 0] j := by decide +kernel
theorem inst_X3 : Cond.instantiable "LeanCity$Course" 2 ∈ TB := (tbk tin_1 214 rfl rfl)
theorem ini_X3 : Cond.initialized "LeanCity$Course" ∈ TB := (tbk tin_1 6 rfl rfl)
theorem dv_X3 : ∀ j, j < 2 → defaultValue ((parseFieldDescriptor (TX3 j).2.2.1).getD .int) = vp_V [.null, .int 0] j := by decide +kernel
theorem inst_X4 : Cond.instantiable "LeanCity$Law" 9 ∈ TB := (tbk tin_1 179 rfl rfl)
theorem ini_X4 : Cond.initialized "LeanCity$Law" ∈ TB := (tbk tin_1 5 rfl rfl)
theorem dv_X4 : ∀ j, j < 9 → defaultValue ((parseFieldDescriptor (TX4 j).2.2.1).getD .int) = vp_V [.null, .null, .null, .null, .null, .null, .null, .int 0, .int 0] j := by decide +kernel
theorem inst_X6 : Cond.instantiable "LeanCity$Log" 2 ∈ TB := (tbk tin_1 76 rfl rfl)
theorem ini_X6 : Cond.initialized "LeanCity$Log" ∈ TB := (tbk tin_1 4 rfl rfl)
theorem dv_X6 : ∀ j, j < 2 → defaultValue ((parseFieldDescriptor (TX6 j).2.2.1).getD .int) = vp_V [.null, .int 0] j := by decide +kernel
theorem inst_X7 : Cond.instantiable "LeanCity$Posts" 3 ∈ TB := (tbk tin_2 62 rfl rfl)
theorem ini_X7 : Cond.initialized "LeanCity$Posts" ∈ TB := (tbk tin_1 9 rfl rfl)
theorem dv_X7 : ∀ j, j < 3 → defaultValue ((parseFieldDescriptor (TX7 j).2.2.1).getD .int) = vp_V [.null, .null, .null] j := by decide +kernel
theorem inst_X8 : Cond.instantiable "LeanCity$Razing" 4 ∈ TB := (tbk tin_2 38 rfl rfl)
theorem ini_X8 : Cond.initialized "LeanCity$Razing" ∈ TB := (tbk tin_1 8 rfl rfl)
theorem dv_X8 : ∀ j, j < 4 → defaultValue ((parseFieldDescriptor (TX8 j).2.2.1).getD .int) = vp_V [.null, .int 0, .null, .null] j := by decide +kernel
theorem inst_X9 : Cond.instantiable "LeanCity$Strain" 11 ∈ TB := (tbk tin_1 220 rfl rfl)
theorem ini_X9 : Cond.initialized "LeanCity$Strain" ∈ TB := (tbk tin_1 7 rfl rfl)
theorem dv_X9 : ∀ j, j < 11 → defaultValue ((parseFieldDescriptor (TX9 j).2.2.1).getD .int) = vp_V [.null, .null, .null, .null, .null, .null, .null, .null, .null, .int 0, .int 0] j := by decide +kernel
theorem inst_X10 : Cond.instantiable "LeanCity$Tape" 7 ∈ TB := (tbk tin_1 38 rfl rfl)
theorem ini_X10 : Cond.initialized "LeanCity$Tape" ∈ TB := (tbk tin_1 2 rfl rfl)
theorem dv_X10 : ∀ j, j < 7 → defaultValue ((parseFieldDescriptor (TX10 j).2.2.1).getD .int) = vp_V [.null, .int 0, .int 0, .int 0, .int 0, .int 0, .int 0] j := by decide +kernel
theorem inst_X12 : Cond.instantiable "LeanCityModel" 29 ∈ TB := (tbk tin_7 5 rfl rfl)
theorem ini_X12 : Cond.initialized "LeanCityModel" ∈ TB := (tbk tin_1 11 rfl rfl)
theorem dv_X12 : ∀ j, j < 29 → defaultValue ((parseFieldDescriptor (TX12 j).2.2.1).getD .int) = vp_V [.int 0, .null, .null, .null, .null, .null, .int 0, .int 0, .null, .null, .null, .int 0, .int 0, .int 0, .int 0, .int 0, .int 0, .null, .int 0, .null, .int 0, .int 0, .int 0, .null, .null, .null, .null, .null, .null] j := by decide +kernel
theorem aw9_0 : Cond.arrayClass (newarray.typeOf .int) ∈ TB := (tbk tin_1 68 rfl rfl)
theorem aw9_1 : Cond.arrayClass (newarray.typeOf .byte) ∈ TB := (tbk tin_4 175 rfl rfl)
theorem aw9_2 : Cond.arrayClass (newarray.typeOf .boolean) ∈ TB := (tbk tin_7 98 rfl rfl)
theorem aw9_3 : Cond.arrayClass (newarray.typeOf .long) ∈ TB := (tbk tin_10 25 rfl rfl)
theorem ow_X0 : Cond.methodLink RX0 3 Lib.objectInit ∈ TB ∧ Cond.instanceMethod Lib.objectInit ∈ TB ∧ Cond.code Lib.objectInit ⟨#[0xb1]⟩ 1 none ∈ TB := ⟨(tbk tin_2 82 rfl rfl), (tbk tin_1 35 rfl rfl), (tbk tin_1 36 rfl rfl)⟩
theorem ow_X1 : Cond.methodLink RX1 3 Lib.objectInit ∈ TB ∧ Cond.instanceMethod Lib.objectInit ∈ TB ∧ Cond.code Lib.objectInit ⟨#[0xb1]⟩ 1 none ∈ TB := ⟨(tbk tin_1 74 rfl rfl), (tbk tin_1 35 rfl rfl), (tbk tin_1 36 rfl rfl)⟩
theorem ow_X10 : Cond.methodLink RX10 3 Lib.objectInit ∈ TB ∧ Cond.instanceMethod Lib.objectInit ∈ TB ∧ Cond.code Lib.objectInit ⟨#[0xb1]⟩ 1 none ∈ TB := ⟨(tbk tin_1 42 rfl rfl), (tbk tin_1 35 rfl rfl), (tbk tin_1 36 rfl rfl)⟩
theorem ow_X11 : Cond.methodLink RX11 1 Lib.objectInit ∈ TB ∧ Cond.instanceMethod Lib.objectInit ∈ TB ∧ Cond.code Lib.objectInit ⟨#[0xb1]⟩ 1 none ∈ TB := ⟨(tbk tin_1 34 rfl rfl), (tbk tin_1 35 rfl rfl), (tbk tin_1 36 rfl rfl)⟩
theorem ow_X12 : Cond.methodLink RX12 7 Lib.objectInit ∈ TB ∧ Cond.instanceMethod Lib.objectInit ∈ TB ∧ Cond.code Lib.objectInit ⟨#[0xb1]⟩ 1 none ∈ TB := ⟨(tbk tin_7 9 rfl rfl), (tbk tin_1 35 rfl rfl), (tbk tin_1 36 rfl rfl)⟩
theorem ow_X3 : Cond.methodLink RX3 3 Lib.objectInit ∈ TB ∧ Cond.instanceMethod Lib.objectInit ∈ TB ∧ Cond.code Lib.objectInit ⟨#[0xb1]⟩ 1 none ∈ TB := ⟨(tbk tin_1 218 rfl rfl), (tbk tin_1 35 rfl rfl), (tbk tin_1 36 rfl rfl)⟩
theorem ow_X4 : Cond.methodLink RX4 3 Lib.objectInit ∈ TB ∧ Cond.instanceMethod Lib.objectInit ∈ TB ∧ Cond.code Lib.objectInit ⟨#[0xb1]⟩ 1 none ∈ TB := ⟨(tbk tin_1 183 rfl rfl), (tbk tin_1 35 rfl rfl), (tbk tin_1 36 rfl rfl)⟩
theorem ow_X6 : Cond.methodLink RX6 3 Lib.objectInit ∈ TB ∧ Cond.instanceMethod Lib.objectInit ∈ TB ∧ Cond.code Lib.objectInit ⟨#[0xb1]⟩ 1 none ∈ TB := ⟨(tbk tin_1 80 rfl rfl), (tbk tin_1 35 rfl rfl), (tbk tin_1 36 rfl rfl)⟩
theorem ow_X7 : Cond.methodLink RX7 3 Lib.objectInit ∈ TB ∧ Cond.instanceMethod Lib.objectInit ∈ TB ∧ Cond.code Lib.objectInit ⟨#[0xb1]⟩ 1 none ∈ TB := ⟨(tbk tin_2 66 rfl rfl), (tbk tin_1 35 rfl rfl), (tbk tin_1 36 rfl rfl)⟩
theorem ow_X8 : Cond.methodLink RX8 3 Lib.objectInit ∈ TB ∧ Cond.instanceMethod Lib.objectInit ∈ TB ∧ Cond.code Lib.objectInit ⟨#[0xb1]⟩ 1 none ∈ TB := ⟨(tbk tin_2 42 rfl rfl), (tbk tin_1 35 rfl rfl), (tbk tin_1 36 rfl rfl)⟩
theorem ow_X9 : Cond.methodLink RX9 3 Lib.objectInit ∈ TB ∧ Cond.instanceMethod Lib.objectInit ∈ TB ∧ Cond.code Lib.objectInit ⟨#[0xb1]⟩ 1 none ∈ TB := ⟨(tbk tin_1 224 rfl rfl), (tbk tin_1 35 rfl rfl), (tbk tin_1 36 rfl rfl)⟩
theorem cwi_X1_38 : (CW RX1 38 yX6_init cX6_init 1 none 0 ∨ (Cond.methodLinkNest RX1 38 yX6_init "LeanCity" ∈ NWN ∧ Cond.initialized yX6_init.cls ∈ TB ∧ Cond.code yX6_init cX6_init 1 none ∈ TB ∧ (yX6_init.cls ≠ "java/lang/invoke/MethodHandle" ∧ yX6_init.cls ≠ "java/lang/invoke/VarHandle" ∧ (parseMethodDescriptor yX6_init.desc).map (fun d => d.parameters.length) = some 0))) ∧ Cond.instanceMethod yX6_init ∈ TB := ⟨Or.inr ⟨List.mem_filter.mpr ⟨tin_1 _ (List.mem_of_getElem? (i := 77) rfl), rfl⟩, (tbk tin_1 4 rfl rfl), (tbk tin_1 79 rfl rfl), by decide +kernel, by decide +kernel, by decide +kernel⟩, (tbk tin_1 78 rfl rfl)⟩
theorem cwi_X11_9 : (CW RX11 9 yX10_init cX10_init 1 none 0 ∨ (Cond.methodLinkNest RX11 9 yX10_init "LeanCity" ∈ NWN ∧ Cond.initialized yX10_init.cls ∈ TB ∧ Cond.code yX10_init cX10_init 1 none ∈ TB ∧ (yX10_init.cls ≠ "java/lang/invoke/MethodHandle" ∧ yX10_init.cls ≠ "java/lang/invoke/VarHandle" ∧ (parseMethodDescriptor yX10_init.desc).map (fun d => d.parameters.length) = some 0))) ∧ Cond.instanceMethod yX10_init ∈ TB := ⟨Or.inr ⟨List.mem_filter.mpr ⟨tin_1 _ (List.mem_of_getElem? (i := 39) rfl), rfl⟩, (tbk tin_1 2 rfl rfl), (tbk tin_1 41 rfl rfl), by decide +kernel, by decide +kernel, by decide +kernel⟩, (tbk tin_1 40 rfl rfl)⟩
theorem cwi_X11_18 : (CW RX11 18 yX1_init cX1_init 1 none 0 ∨ (Cond.methodLinkNest RX11 18 yX1_init "LeanCity" ∈ NWN ∧ Cond.initialized yX1_init.cls ∈ TB ∧ Cond.code yX1_init cX1_init 1 none ∈ TB ∧ (yX1_init.cls ≠ "java/lang/invoke/MethodHandle" ∧ yX1_init.cls ≠ "java/lang/invoke/VarHandle" ∧ (parseMethodDescriptor yX1_init.desc).map (fun d => d.parameters.length) = some 0))) ∧ Cond.instanceMethod yX1_init ∈ TB := ⟨Or.inr ⟨List.mem_filter.mpr ⟨tin_1 _ (List.mem_of_getElem? (i := 71) rfl), rfl⟩, (tbk tin_1 3 rfl rfl), (tbk tin_1 73 rfl rfl), by decide +kernel, by decide +kernel, by decide +kernel⟩, (tbk tin_1 72 rfl rfl)⟩
theorem cwi_X11_28 : (CW RX11 28 yX4_init cX4_init 1 none 0 ∨ (Cond.methodLinkNest RX11 28 yX4_init "LeanCity" ∈ NWN ∧ Cond.initialized yX4_init.cls ∈ TB ∧ Cond.code yX4_init cX4_init 1 none ∈ TB ∧ (yX4_init.cls ≠ "java/lang/invoke/MethodHandle" ∧ yX4_init.cls ≠ "java/lang/invoke/VarHandle" ∧ (parseMethodDescriptor yX4_init.desc).map (fun d => d.parameters.length) = some 0))) ∧ Cond.instanceMethod yX4_init ∈ TB := ⟨Or.inr ⟨List.mem_filter.mpr ⟨tin_1 _ (List.mem_of_getElem? (i := 180) rfl), rfl⟩, (tbk tin_1 5 rfl rfl), (tbk tin_1 182 rfl rfl), by decide +kernel, by decide +kernel, by decide +kernel⟩, (tbk tin_1 181 rfl rfl)⟩
theorem cwi_X11_38 : (CW RX11 38 yX3_init cX3_init 1 none 0 ∨ (Cond.methodLinkNest RX11 38 yX3_init "LeanCity" ∈ NWN ∧ Cond.initialized yX3_init.cls ∈ TB ∧ Cond.code yX3_init cX3_init 1 none ∈ TB ∧ (yX3_init.cls ≠ "java/lang/invoke/MethodHandle" ∧ yX3_init.cls ≠ "java/lang/invoke/VarHandle" ∧ (parseMethodDescriptor yX3_init.desc).map (fun d => d.parameters.length) = some 0))) ∧ Cond.instanceMethod yX3_init ∈ TB := ⟨Or.inr ⟨List.mem_filter.mpr ⟨tin_1 _ (List.mem_of_getElem? (i := 215) rfl), rfl⟩, (tbk tin_1 6 rfl rfl), (tbk tin_1 217 rfl rfl), by decide +kernel, by decide +kernel, by decide +kernel⟩, (tbk tin_1 216 rfl rfl)⟩
theorem cwi_X11_45 : (CW RX11 45 yX8_init cX8_init 2 none 0 ∨ (Cond.methodLinkNest RX11 45 yX8_init "LeanCity" ∈ NWN ∧ Cond.initialized yX8_init.cls ∈ TB ∧ Cond.code yX8_init cX8_init 2 none ∈ TB ∧ (yX8_init.cls ≠ "java/lang/invoke/MethodHandle" ∧ yX8_init.cls ≠ "java/lang/invoke/VarHandle" ∧ (parseMethodDescriptor yX8_init.desc).map (fun d => d.parameters.length) = some 0))) ∧ Cond.instanceMethod yX8_init ∈ TB := ⟨Or.inl ⟨(tbk tin_2 39 rfl rfl), (tbk tin_1 8 rfl rfl), (tbk tin_2 41 rfl rfl), by decide +kernel, by decide +kernel, by decide +kernel⟩, (tbk tin_2 40 rfl rfl)⟩
theorem cwi_X11_52 : (CW RX11 52 yX7_init cX7_init 1 none 0 ∨ (Cond.methodLinkNest RX11 52 yX7_init "LeanCity" ∈ NWN ∧ Cond.initialized yX7_init.cls ∈ TB ∧ Cond.code yX7_init cX7_init 1 none ∈ TB ∧ (yX7_init.cls ≠ "java/lang/invoke/MethodHandle" ∧ yX7_init.cls ≠ "java/lang/invoke/VarHandle" ∧ (parseMethodDescriptor yX7_init.desc).map (fun d => d.parameters.length) = some 0))) ∧ Cond.instanceMethod yX7_init ∈ TB := ⟨Or.inr ⟨List.mem_filter.mpr ⟨tin_2 _ (List.mem_of_getElem? (i := 63) rfl), rfl⟩, (tbk tin_1 9 rfl rfl), (tbk tin_2 65 rfl rfl), by decide +kernel, by decide +kernel, by decide +kernel⟩, (tbk tin_2 64 rfl rfl)⟩
theorem cwi_X11_59 : (CW RX11 59 yX0_init cX0_init 1 none 0 ∨ (Cond.methodLinkNest RX11 59 yX0_init "LeanCity" ∈ NWN ∧ Cond.initialized yX0_init.cls ∈ TB ∧ Cond.code yX0_init cX0_init 1 none ∈ TB ∧ (yX0_init.cls ≠ "java/lang/invoke/MethodHandle" ∧ yX0_init.cls ≠ "java/lang/invoke/VarHandle" ∧ (parseMethodDescriptor yX0_init.desc).map (fun d => d.parameters.length) = some 0))) ∧ Cond.instanceMethod yX0_init ∈ TB := ⟨Or.inr ⟨List.mem_filter.mpr ⟨tin_2 _ (List.mem_of_getElem? (i := 79) rfl), rfl⟩, (tbk tin_1 10 rfl rfl), (tbk tin_2 81 rfl rfl), by decide +kernel, by decide +kernel, by decide +kernel⟩, (tbk tin_2 80 rfl rfl)⟩
theorem cwi_X3_11 : (CW RX3 11 yX9_init cX9_init 1 none 0 ∨ (Cond.methodLinkNest RX3 11 yX9_init "LeanCity" ∈ NWN ∧ Cond.initialized yX9_init.cls ∈ TB ∧ Cond.code yX9_init cX9_init 1 none ∈ TB ∧ (yX9_init.cls ≠ "java/lang/invoke/MethodHandle" ∧ yX9_init.cls ≠ "java/lang/invoke/VarHandle" ∧ (parseMethodDescriptor yX9_init.desc).map (fun d => d.parameters.length) = some 0))) ∧ Cond.instanceMethod yX9_init ∈ TB := ⟨Or.inr ⟨List.mem_filter.mpr ⟨tin_1 _ (List.mem_of_getElem? (i := 221) rfl), rfl⟩, (tbk tin_1 7 rfl rfl), (tbk tin_1 223 rfl rfl), by decide +kernel, by decide +kernel, by decide +kernel⟩, (tbk tin_1 222 rfl rfl)⟩
theorem cwi_X8_24 : (CW RX8 24 yX1_init cX1_init 1 none 0 ∨ (Cond.methodLinkNest RX8 24 yX1_init "LeanCity" ∈ NWN ∧ Cond.initialized yX1_init.cls ∈ TB ∧ Cond.code yX1_init cX1_init 1 none ∈ TB ∧ (yX1_init.cls ≠ "java/lang/invoke/MethodHandle" ∧ yX1_init.cls ≠ "java/lang/invoke/VarHandle" ∧ (parseMethodDescriptor yX1_init.desc).map (fun d => d.parameters.length) = some 0))) ∧ Cond.instanceMethod yX1_init ∈ TB := ⟨Or.inr ⟨List.mem_filter.mpr ⟨tin_2 _ (List.mem_of_getElem? (i := 45) rfl), rfl⟩, (tbk tin_1 3 rfl rfl), (tbk tin_1 73 rfl rfl), by decide +kernel, by decide +kernel, by decide +kernel⟩, (tbk tin_1 72 rfl rfl)⟩
def sh_X10 (c : Nat → ClassId) (h0 : Nat) (qs : Nat → Nat) : va_W := [(h0, .inr (8, [.ref (qs 0), .int 0, .int (-1), .int 0, .int 0, .int (-1), .int 0]))] ++ ([] ++ [((qs 0), .inl (c 0, 400, .inl fun _ => 0))])
def sh_X6 (c : Nat → ClassId) (h0 : Nat) (qs : Nat → Nat) : va_W := [(h0, .inr (4, [.ref (qs 0), .int 0]))] ++ ([] ++ [((qs 0), .inl (c 0, 360, .inl fun _ => 0))])
def sh_X1 (c : Nat → ClassId) (h0 : Nat) (qs : Nat → Nat) : va_W := [(h0, .inr (1, [.ref (qs 0), .ref (qs 1), .ref (qs 2), .ref (qs 3), .ref (qs 4), .ref (qs 5), .ref (qs 6), .ref (qs 7), .ref (qs 8), .int 0, .int 0, .int 0, .int 0, .int 0, .int 0, .int 20, .int 0, .int 1]))] ++ ((((((((([] ++ [((qs 0), .inl (c 0, 8, .inl fun _ => 0))]) ++ [((qs 1), .inl (c 0, 8, .inl fun _ => 0))]) ++ [((qs 2), .inl (c 0, 8, .inl fun _ => 0))]) ++ [((qs 3), .inl (c 0, 8, .inl fun _ => 0))]) ++ [((qs 4), .inl (c 0, 64, .inl fun _ => 0))]) ++ [((qs 5), .inl (c 0, 6, .inl fun _ => 0))]) ++ [((qs 6), .inl (c 0, 6, .inl fun _ => 0))]) ++ [((qs 7), .inl (c 0, 6, .inl fun _ => 0))]) ++ sh_X6 c (qs 8) (fun i => qs (9 + i)))
def sh_X4 (c : Nat → ClassId) (h0 : Nat) (qs : Nat → Nat) : va_W := [(h0, .inr (3, [.ref (qs 0), .ref (qs 1), .ref (qs 2), .ref (qs 3), .ref (qs 4), .ref (qs 5), .ref (qs 6), .int 0, .int (-1)]))] ++ ((((((([] ++ [((qs 0), .inl (c 0, 12, .inl fun _ => 0))]) ++ [((qs 1), .inl (c 0, 12, .inl fun _ => 0))]) ++ [((qs 2), .inl (c 0, 12, .inl fun _ => 0))]) ++ [((qs 3), .inl (c 0, 12, .inl fun _ => 0))]) ++ [((qs 4), .inl (c 0, 400, .inl fun _ => 0))]) ++ [((qs 5), .inl (c 0, 400, .inl fun _ => 0))]) ++ [((qs 6), .inl (c 0, 32, .inl fun _ => 0))])
def sh_X9 (c : Nat → ClassId) (h0 : Nat) (qs : Nat → Nat) : va_W := [(h0, .inr (7, [.ref (qs 0), .ref (qs 1), .ref (qs 2), .ref (qs 3), .ref (qs 4), .ref (qs 5), .ref (qs 6), .ref (qs 7), .ref (qs 8), .int 0, .int 0]))] ++ ((((((((([] ++ [((qs 0), .inl (c 0, 8, .inl fun _ => 0))]) ++ [((qs 1), .inl (c 0, 8, .inl fun _ => 0))]) ++ [((qs 2), .inl (c 0, 8, .inl fun _ => 0))]) ++ [((qs 3), .inl (c 0, 8, .inl fun _ => 0))]) ++ [((qs 4), .inl (c 0, 8, .inl fun _ => 0))]) ++ [((qs 5), .inl (c 0, 8, .inl fun _ => 0))]) ++ [((qs 6), .inl (c 0, 8, .inl fun _ => 0))]) ++ [((qs 7), .inl (c 0, 8, .inl fun _ => 0))]) ++ [((qs 8), .inl (c 0, 9, .inl fun _ => 0))])
def sh_X3 (c : Nat → ClassId) (h0 : Nat) (qs : Nat → Nat) : va_W := [(h0, .inr (2, [.ref (qs 0), .int 0]))] ++ ([] ++ sh_X9 c (qs 0) (fun i => qs (1 + i)))
def sh_X7 (c : Nat → ClassId) (h0 : Nat) (qs : Nat → Nat) : va_W := [(h0, .inr (5, [.ref (qs 0), .ref (qs 1), .ref (qs 2)]))] ++ ((([] ++ [((qs 0), .inl (c 0, 1792, .inl fun _ => 0))]) ++ [((qs 1), .inl (c 0, 48, .inl fun _ => 0))]) ++ [((qs 2), .inl (c 0, 6, .inl fun _ => 0))])
def sh_X0 (c : Nat → ClassId) (h0 : Nat) (qs : Nat → Nat) : va_W := [(h0, .inr (0, [.ref (qs 0), .int 0, .ref (qs 1), .ref (qs 2), .int 0]))] ++ ((([] ++ [((qs 0), .inl (c 0, 65, .inl fun _ => 0))]) ++ [((qs 1), .inl (c 0, 520, .inl fun _ => 0))]) ++ [((qs 2), .inl (c 0, 40, .inl fun _ => 0))])
def sh_X8 (c : Nat → ClassId) (h0 : Nat) (qs : Nat → Nat) : va_W := [(h0, .inr (6, [.ref (qs 0), .int 0, .ref (qs 1), .ref (qs 2)])), ((qs 1), .inl (c 4, 6, .inr (.inr (.inr (.inr (va_up (va_up (va_up (va_up (va_up (va_up (fun _ => none) 0 (some (qs 3))) 1 (some (qs 4))) 2 (some (qs 5))) 3 (some (qs 6))) 4 (some (qs 7))) 5 (some (qs 8))))))))] ++ (((((((([] ++ [((qs 0), .inl (c 0, 5, .inl fun _ => 0))]) ++ [((qs 2), .inl (c 0, 5, .inl fun _ => 0))]) ++ sh_X1 c (qs 3) (fun i => qs (9 + i))) ++ sh_X1 c (qs 4) (fun i => qs (19 + i))) ++ sh_X1 c (qs 5) (fun i => qs (29 + i))) ++ sh_X1 c (qs 6) (fun i => qs (39 + i))) ++ sh_X1 c (qs 7) (fun i => qs (49 + i))) ++ sh_X1 c (qs 8) (fun i => qs (59 + i)))
def sh_X11 (c : Nat → ClassId) (h0 : Nat) (qs : Nat → Nat) : va_W := [(h0, .inr (9, [.ref (qs 0), .ref (qs 1), .ref (qs 2), .ref (qs 3), .ref (qs 4), .ref (qs 5), .ref (qs 6), .ref (qs 7), .ref (qs 8), .ref (qs 9), .ref (qs 10), .int 0, .ref (qs 11), .int 0, .int 0])), ((qs 11), .inl (c 4, 12, .inr (.inr (.inr (.inr (va_up (va_up (va_up (va_up (va_up (va_up (va_up (va_up (va_up (va_up (va_up (va_up (fun _ => none) 0 (some (qs 12))) 1 (some (qs 13))) 2 (some (qs 14))) 3 (some (qs 15))) 4 (some (qs 16))) 5 (some (qs 17))) 6 (some (qs 18))) 7 (some (qs 19))) 8 (some (qs 20))) 9 (some (qs 21))) 10 (some (qs 22))) 11 (some (qs 23))))))))] ++ ((((((((((((((((((((((([] ++ sh_X10 c (qs 0) (fun i => qs (24 + i))) ++ sh_X1 c (qs 1) (fun i => qs (25 + i))) ++ sh_X1 c (qs 2) (fun i => qs (35 + i))) ++ sh_X4 c (qs 3) (fun i => qs (45 + i))) ++ sh_X4 c (qs 4) (fun i => qs (52 + i))) ++ sh_X3 c (qs 5) (fun i => qs (59 + i))) ++ sh_X8 c (qs 6) (fun i => qs (69 + i))) ++ sh_X7 c (qs 7) (fun i => qs (138 + i))) ++ sh_X0 c (qs 8) (fun i => qs (141 + i))) ++ sh_X1 c (qs 9) (fun i => qs (144 + i))) ++ sh_X4 c (qs 10) (fun i => qs (154 + i))) ++ sh_X1 c (qs 12) (fun i => qs (161 + i))) ++ sh_X1 c (qs 13) (fun i => qs (171 + i))) ++ sh_X1 c (qs 14) (fun i => qs (181 + i))) ++ sh_X1 c (qs 15) (fun i => qs (191 + i))) ++ sh_X1 c (qs 16) (fun i => qs (201 + i))) ++ sh_X1 c (qs 17) (fun i => qs (211 + i))) ++ sh_X1 c (qs 18) (fun i => qs (221 + i))) ++ sh_X1 c (qs 19) (fun i => qs (231 + i))) ++ sh_X1 c (qs 20) (fun i => qs (241 + i))) ++ sh_X1 c (qs 21) (fun i => qs (251 + i))) ++ sh_X1 c (qs 22) (fun i => qs (261 + i))) ++ sh_X1 c (qs 23) (fun i => qs (271 + i)))
def sh_X12 (c : Nat → ClassId) (h0 : Nat) (qs : Nat → Nat) : va_W := [(h0, .inr (10, [.int 0, .ref (qs 0), .ref (qs 1), .ref (qs 2), .ref (qs 3), .ref (qs 4), .int 0, .int 0, .ref (qs 5), .ref (qs 6), .ref (qs 7), .int 0, .int 0, .int 0, .int 0, .int 0, .int (-1), .ref (qs 8), .int 0, .ref (qs 9), .int 0, .int 0, .int 0, .ref (qs 10), .ref (qs 11), .ref (qs 12), .ref (qs 13), .ref (qs 14), .ref (qs 15)])), ((qs 0), .inl (c 0, 2190, .inl (upd (upd (fun _ => 0) 7 20) 9 1)))] ++ ((((((((((((((([] ++ [((qs 1), .inl (c 0, 1341, .inl fun _ => 0))]) ++ [((qs 2), .inl (c 0, 1341, .inl fun _ => 0))]) ++ [((qs 3), .inl (c 0, 492, .inl fun _ => 0))]) ++ [((qs 4), .inl (c 0, 5904, .inl fun _ => 0))]) ++ [((qs 5), .inl (c 0, 8, .inl fun _ => 0))]) ++ [((qs 6), .inl (c 0, 8, .inl fun _ => 0))]) ++ [((qs 7), .inl (c 1, 400, .inl fun _ => 0))]) ++ [((qs 8), .inl (c 0, 5, .inl fun _ => 0))]) ++ [((qs 9), .inl (c 0, 400, .inl fun _ => 0))]) ++ [((qs 10), .inl (c 0, 5, .inl fun _ => 0))]) ++ [((qs 11), .inl (c 0, 5, .inl fun _ => 0))]) ++ [((qs 12), .inl (c 2, 65, .inl fun _ => 0))]) ++ [((qs 13), .inl (c 0, 520, .inl fun _ => 0))]) ++ [((qs 14), .inl (c 0, 8, .inl fun _ => 0))]) ++ [((qs 15), .inl (c 0, 1792, .inl fun _ => 0))])
set_option maxRecDepth 100000 in
set_option maxHeartbeats 1000000 in
theorem CN_X10 (g : NG) : CtN g 2 yX10_init cX10_init 1 8 [.null, .int 0, .int 0, .int 0, .int 0, .int 0, .int 0] 1 400 (fun h0 ws => ∃ qs : Nat → Nat, ws = sh_X10 g.2.2 h0 qs) :=
  CtN_of RX10 rfl (by decide) rfl rfl (fun X A h0 hX1 hX hin => by
    subst hX1
    show JN X _ _ A 0 0 0 [(0, .ref h0)] [] ([(h0, .inr (8, [.null, .int 0, .int 0, .int 0, .int 0, .int 0, .int 0]))] ++ [])
    refine N_aload_n hX 0 dX10_init_0 rfl rfl ?_
    refine N_objInit hX dX10_init_1 ow_X10.1 ow_X10.2.1 ow_X10.2.2 ⟨by decide, by decide⟩ rfl ?_
    refine N_aload_n hX 0 dX10_init_4 rfl rfl ?_
    refine N_sipush hX 400 dX10_init_5 rfl ?_
    refine N_newarr (a0 := (400, .inl fun _ => 0)) hX 0 400 dX10_init_8 aw9_0 rfl (fun _ h => by cases h) (fun _ => rfl) (by decide) (by decide) (by decide) ⟨by decide, by decide⟩ (fun q0 => ?_)
    refine N_putF (k := 0) hX hin [(h0, .inr (8, [.ref q0, .int 0, .int 0, .int 0, .int 0, .int 0, .int 0]))] dX10_init_10 cfl_X10_9 fwf_8_0 rfl rfl rfl rfl rfl ?_
    refine N_aload_n hX 0 dX10_init_13 rfl rfl ?_
    refine N_iconst hX (-1) dX10_init_14 rfl ?_
    refine N_put (k := 0) hX [(h0, .inr (8, [.ref q0, .int 0, .int (-1), .int 0, .int 0, .int 0, .int 0]))] dX10_init_15 cfl_X10_15 cfw_8_2 rfl rfl rfl rfl rfl ?_
    refine N_aload_n hX 0 dX10_init_18 rfl rfl ?_
    refine N_iconst hX (-1) dX10_init_19 rfl ?_
    refine N_put (k := 0) hX [(h0, .inr (8, [.ref q0, .int 0, .int (-1), .int 0, .int 0, .int (-1), .int 0]))] dX10_init_20 cfl_X10_19 cfw_8_5 rfl rfl rfl rfl rfl ?_
    exact N_vret hX dX10_init_23 (Post := fun ws => ∃ qs : Nat → Nat, ws = sh_X10 X.1.2.2 h0 qs) ⟨fun i => [q0].getD i 0, rfl⟩ (by decide) (by decide))
set_option maxRecDepth 100000 in
set_option maxHeartbeats 1000000 in
theorem CN_X6 (g : NG) : CtN g 2 yX6_init cX6_init 1 4 [.null, .int 0] 1 360 (fun h0 ws => ∃ qs : Nat → Nat, ws = sh_X6 g.2.2 h0 qs) :=
  CtN_of RX6 rfl (by decide) rfl rfl (fun X A h0 hX1 hX hin => by
    subst hX1
    show JN X _ _ A 0 0 0 [(0, .ref h0)] [] ([(h0, .inr (4, [.null, .int 0]))] ++ [])
    refine N_aload_n hX 0 dX6_init_0 rfl rfl ?_
    refine N_objInit hX dX6_init_1 ow_X6.1 ow_X6.2.1 ow_X6.2.2 ⟨by decide, by decide⟩ rfl ?_
    refine N_aload_n hX 0 dX6_init_4 rfl rfl ?_
    refine N_sipush hX 360 dX6_init_5 rfl ?_
    refine N_newarr (a0 := (360, .inl fun _ => 0)) hX 0 360 dX6_init_8 aw9_0 rfl (fun _ h => by cases h) (fun _ => rfl) (by decide) (by decide) (by decide) ⟨by decide, by decide⟩ (fun q0 => ?_)
    refine N_putF (k := 0) hX hin [(h0, .inr (4, [.ref q0, .int 0]))] dX6_init_10 cfl_X6_9 fwf_4_0 rfl rfl rfl rfl rfl ?_
    exact N_vret hX dX6_init_13 (Post := fun ws => ∃ qs : Nat → Nat, ws = sh_X6 X.1.2.2 h0 qs) ⟨fun i => [q0].getD i 0, rfl⟩ (by decide) (by decide))
set_option maxRecDepth 100000 in
set_option maxHeartbeats 1000000 in
theorem CN_X1 (g : NG) : CtN g 3 yX1_init cX1_init 1 1 [.null, .null, .null, .null, .null, .null, .null, .null, .null, .int 0, .int 0, .int 0, .int 0, .int 0, .int 0, .int 0, .int 0, .int 0] 10 476 (fun h0 ws => ∃ qs : Nat → Nat, ws = sh_X1 g.2.2 h0 qs) :=
  CtN_of RX1 rfl (by decide) rfl rfl (fun X A h0 hX1 hX hin => by
    subst hX1
    show JN X _ _ A 0 0 0 [(0, .ref h0)] [] ([(h0, .inr (1, [.null, .null, .null, .null, .null, .null, .null, .null, .null, .int 0, .int 0, .int 0, .int 0, .int 0, .int 0, .int 0, .int 0, .int 0]))] ++ [])
    refine N_aload_n hX 0 dX1_init_0 rfl rfl ?_
    refine N_objInit hX dX1_init_1 ow_X1.1 ow_X1.2.1 ow_X1.2.2 ⟨by decide, by decide⟩ rfl ?_
    refine N_aload_n hX 0 dX1_init_4 rfl rfl ?_
    refine N_bipush hX 8 dX1_init_5 rfl ?_
    refine N_newarr (a0 := (8, .inl fun _ => 0)) hX 0 8 dX1_init_7 aw9_0 rfl (fun _ h => by cases h) (fun _ => rfl) (by decide) (by decide) (by decide) ⟨by decide, by decide⟩ (fun q0 => ?_)
    refine N_putF (k := 0) hX hin [(h0, .inr (1, [.ref q0, .null, .null, .null, .null, .null, .null, .null, .null, .int 0, .int 0, .int 0, .int 0, .int 0, .int 0, .int 0, .int 0, .int 0]))] dX1_init_9 cfl_X1_9 fwf_1_0 rfl rfl rfl rfl rfl ?_
    refine N_aload_n hX 0 dX1_init_12 rfl rfl ?_
    refine N_bipush hX 8 dX1_init_13 rfl ?_
    refine N_newarr (a0 := (8, .inl fun _ => 0)) hX 0 8 dX1_init_15 aw9_0 rfl (fun _ h => by cases h) (fun _ => rfl) (by decide) (by decide) (by decide) ⟨by decide, by decide⟩ (fun q1 => ?_)
    refine N_putF (k := 0) hX hin [(h0, .inr (1, [.ref q0, .ref q1, .null, .null, .null, .null, .null, .null, .null, .int 0, .int 0, .int 0, .int 0, .int 0, .int 0, .int 0, .int 0, .int 0]))] dX1_init_17 cfl_X1_15 fwf_1_1 rfl rfl rfl rfl rfl ?_
    refine N_aload_n hX 0 dX1_init_20 rfl rfl ?_
    refine N_bipush hX 8 dX1_init_21 rfl ?_
    refine N_newarr (a0 := (8, .inl fun _ => 0)) hX 0 8 dX1_init_23 aw9_0 rfl (fun _ h => by cases h) (fun _ => rfl) (by decide) (by decide) (by decide) ⟨by decide, by decide⟩ (fun q2 => ?_)
    refine N_putF (k := 0) hX hin [(h0, .inr (1, [.ref q0, .ref q1, .ref q2, .null, .null, .null, .null, .null, .null, .int 0, .int 0, .int 0, .int 0, .int 0, .int 0, .int 0, .int 0, .int 0]))] dX1_init_25 cfl_X1_18 fwf_1_2 rfl rfl rfl rfl rfl ?_
    refine N_aload_n hX 0 dX1_init_28 rfl rfl ?_
    refine N_bipush hX 8 dX1_init_29 rfl ?_
    refine N_newarr (a0 := (8, .inl fun _ => 0)) hX 0 8 dX1_init_31 aw9_0 rfl (fun _ h => by cases h) (fun _ => rfl) (by decide) (by decide) (by decide) ⟨by decide, by decide⟩ (fun q3 => ?_)
    refine N_putF (k := 0) hX hin [(h0, .inr (1, [.ref q0, .ref q1, .ref q2, .ref q3, .null, .null, .null, .null, .null, .int 0, .int 0, .int 0, .int 0, .int 0, .int 0, .int 0, .int 0, .int 0]))] dX1_init_33 cfl_X1_21 fwf_1_3 rfl rfl rfl rfl rfl ?_
    refine N_aload_n hX 0 dX1_init_36 rfl rfl ?_
    refine N_bipush hX 64 dX1_init_37 rfl ?_
    refine N_newarr (a0 := (64, .inl fun _ => 0)) hX 0 64 dX1_init_39 aw9_0 rfl (fun _ h => by cases h) (fun _ => rfl) (by decide) (by decide) (by decide) ⟨by decide, by decide⟩ (fun q4 => ?_)
    refine N_putF (k := 0) hX hin [(h0, .inr (1, [.ref q0, .ref q1, .ref q2, .ref q3, .ref q4, .null, .null, .null, .null, .int 0, .int 0, .int 0, .int 0, .int 0, .int 0, .int 0, .int 0, .int 0]))] dX1_init_41 cfl_X1_24 fwf_1_4 rfl rfl rfl rfl rfl ?_
    refine N_aload_n hX 0 dX1_init_44 rfl rfl ?_
    refine N_bipush hX 6 dX1_init_45 rfl ?_
    refine N_newarr (a0 := (6, .inl fun _ => 0)) hX 0 6 dX1_init_47 aw9_0 rfl (fun _ h => by cases h) (fun _ => rfl) (by decide) (by decide) (by decide) ⟨by decide, by decide⟩ (fun q5 => ?_)
    refine N_putF (k := 0) hX hin [(h0, .inr (1, [.ref q0, .ref q1, .ref q2, .ref q3, .ref q4, .ref q5, .null, .null, .null, .int 0, .int 0, .int 0, .int 0, .int 0, .int 0, .int 0, .int 0, .int 0]))] dX1_init_49 cfl_X1_27 fwf_1_5 rfl rfl rfl rfl rfl ?_
    refine N_aload_n hX 0 dX1_init_52 rfl rfl ?_
    refine N_bipush hX 6 dX1_init_53 rfl ?_
    refine N_newarr (a0 := (6, .inl fun _ => 0)) hX 0 6 dX1_init_55 aw9_0 rfl (fun _ h => by cases h) (fun _ => rfl) (by decide) (by decide) (by decide) ⟨by decide, by decide⟩ (fun q6 => ?_)
    refine N_putF (k := 0) hX hin [(h0, .inr (1, [.ref q0, .ref q1, .ref q2, .ref q3, .ref q4, .ref q5, .ref q6, .null, .null, .int 0, .int 0, .int 0, .int 0, .int 0, .int 0, .int 0, .int 0, .int 0]))] dX1_init_57 cfl_X1_30 fwf_1_6 rfl rfl rfl rfl rfl ?_
    refine N_aload_n hX 0 dX1_init_60 rfl rfl ?_
    refine N_bipush hX 6 dX1_init_61 rfl ?_
    refine N_newarr (a0 := (6, .inl fun _ => 0)) hX 0 6 dX1_init_63 aw9_0 rfl (fun _ h => by cases h) (fun _ => rfl) (by decide) (by decide) (by decide) ⟨by decide, by decide⟩ (fun q7 => ?_)
    refine N_putF (k := 0) hX hin [(h0, .inr (1, [.ref q0, .ref q1, .ref q2, .ref q3, .ref q4, .ref q5, .ref q6, .ref q7, .null, .int 0, .int 0, .int 0, .int 0, .int 0, .int 0, .int 0, .int 0, .int 0]))] dX1_init_65 cfl_X1_33 fwf_1_7 rfl rfl rfl rfl rfl ?_
    refine N_aload_n hX 0 dX1_init_68 rfl rfl ?_
    refine N_new (ci := 4) (fs := [.null, .int 0]) hX dX1_init_69 cl_X1_36 inst_X6 ini_X6 rfl (fun j hj => dv_X6 j hj) ⟨by decide, by decide⟩ (fun q8 => ?_)
    refine N_dup hX dX1_init_72 rfl ?_
    refine N_call (mc := 1) (ms := 360) hX dX1_init_73 cwi_X1_38 rfl (CN_X6 X.1) (by decide) (by decide) rfl ⟨by decide, by decide⟩ rfl (fun w9 hw9 => ?_)
    obtain ⟨qs0, rfl⟩ := hw9
    refine N_putF (k := 0) hX hin [(h0, .inr (1, [.ref q0, .ref q1, .ref q2, .ref q3, .ref q4, .ref q5, .ref q6, .ref q7, .ref q8, .int 0, .int 0, .int 0, .int 0, .int 0, .int 0, .int 0, .int 0, .int 0]))] dX1_init_76 cfl_X1_39 fwf_1_8 rfl rfl rfl rfl rfl ?_
    refine N_aload_n hX 0 dX1_init_79 rfl rfl ?_
    refine N_bipush hX 20 dX1_init_80 rfl ?_
    refine N_put (k := 0) hX [(h0, .inr (1, [.ref q0, .ref q1, .ref q2, .ref q3, .ref q4, .ref q5, .ref q6, .ref q7, .ref q8, .int 0, .int 0, .int 0, .int 0, .int 0, .int 0, .int 20, .int 0, .int 0]))] dX1_init_82 cfl_X1_43 cfw_1_15 rfl rfl rfl rfl rfl ?_
    refine N_aload_n hX 0 dX1_init_85 rfl rfl ?_
    refine N_iconst hX 1 dX1_init_86 rfl ?_
    refine N_put (k := 0) hX [(h0, .inr (1, [.ref q0, .ref q1, .ref q2, .ref q3, .ref q4, .ref q5, .ref q6, .ref q7, .ref q8, .int 0, .int 0, .int 0, .int 0, .int 0, .int 0, .int 20, .int 0, .int 1]))] dX1_init_87 cfl_X1_47 cfw_1_17 rfl rfl rfl rfl rfl ?_
    exact N_vret hX dX1_init_90 (Post := fun ws => ∃ qs : Nat → Nat, ws = sh_X1 X.1.2.2 h0 qs) ⟨fun i => if i < 9 then [q0, q1, q2, q3, q4, q5, q6, q7, q8].getD i 0 else qs0 (i - 9), (by
      unfold sh_X1
      rfl)⟩ (by decide) (by decide))
set_option maxRecDepth 100000 in
set_option maxHeartbeats 1000000 in
theorem CN_X4 (g : NG) : CtN g 2 yX4_init cX4_init 1 3 [.null, .null, .null, .null, .null, .null, .null, .int 0, .int 0] 7 880 (fun h0 ws => ∃ qs : Nat → Nat, ws = sh_X4 g.2.2 h0 qs) :=
  CtN_of RX4 rfl (by decide) rfl rfl (fun X A h0 hX1 hX hin => by
    subst hX1
    show JN X _ _ A 0 0 0 [(0, .ref h0)] [] ([(h0, .inr (3, [.null, .null, .null, .null, .null, .null, .null, .int 0, .int 0]))] ++ [])
    refine N_aload_n hX 0 dX4_init_0 rfl rfl ?_
    refine N_objInit hX dX4_init_1 ow_X4.1 ow_X4.2.1 ow_X4.2.2 ⟨by decide, by decide⟩ rfl ?_
    refine N_aload_n hX 0 dX4_init_4 rfl rfl ?_
    refine N_bipush hX 12 dX4_init_5 rfl ?_
    refine N_newarr (a0 := (12, .inl fun _ => 0)) hX 0 12 dX4_init_7 aw9_0 rfl (fun _ h => by cases h) (fun _ => rfl) (by decide) (by decide) (by decide) ⟨by decide, by decide⟩ (fun q0 => ?_)
    refine N_putF (k := 0) hX hin [(h0, .inr (3, [.ref q0, .null, .null, .null, .null, .null, .null, .int 0, .int 0]))] dX4_init_9 cfl_X4_9 fwf_3_0 rfl rfl rfl rfl rfl ?_
    refine N_aload_n hX 0 dX4_init_12 rfl rfl ?_
    refine N_bipush hX 12 dX4_init_13 rfl ?_
    refine N_newarr (a0 := (12, .inl fun _ => 0)) hX 0 12 dX4_init_15 aw9_0 rfl (fun _ h => by cases h) (fun _ => rfl) (by decide) (by decide) (by decide) ⟨by decide, by decide⟩ (fun q1 => ?_)
    refine N_putF (k := 0) hX hin [(h0, .inr (3, [.ref q0, .ref q1, .null, .null, .null, .null, .null, .int 0, .int 0]))] dX4_init_17 cfl_X4_15 fwf_3_1 rfl rfl rfl rfl rfl ?_
    refine N_aload_n hX 0 dX4_init_20 rfl rfl ?_
    refine N_bipush hX 12 dX4_init_21 rfl ?_
    refine N_newarr (a0 := (12, .inl fun _ => 0)) hX 0 12 dX4_init_23 aw9_0 rfl (fun _ h => by cases h) (fun _ => rfl) (by decide) (by decide) (by decide) ⟨by decide, by decide⟩ (fun q2 => ?_)
    refine N_putF (k := 0) hX hin [(h0, .inr (3, [.ref q0, .ref q1, .ref q2, .null, .null, .null, .null, .int 0, .int 0]))] dX4_init_25 cfl_X4_18 fwf_3_2 rfl rfl rfl rfl rfl ?_
    refine N_aload_n hX 0 dX4_init_28 rfl rfl ?_
    refine N_bipush hX 12 dX4_init_29 rfl ?_
    refine N_newarr (a0 := (12, .inl fun _ => 0)) hX 0 12 dX4_init_31 aw9_0 rfl (fun _ h => by cases h) (fun _ => rfl) (by decide) (by decide) (by decide) ⟨by decide, by decide⟩ (fun q3 => ?_)
    refine N_putF (k := 0) hX hin [(h0, .inr (3, [.ref q0, .ref q1, .ref q2, .ref q3, .null, .null, .null, .int 0, .int 0]))] dX4_init_33 cfl_X4_21 fwf_3_3 rfl rfl rfl rfl rfl ?_
    refine N_aload_n hX 0 dX4_init_36 rfl rfl ?_
    refine N_sipush hX 400 dX4_init_37 rfl ?_
    refine N_newarr (a0 := (400, .inl fun _ => 0)) hX 0 400 dX4_init_40 aw9_0 rfl (fun _ h => by cases h) (fun _ => rfl) (by decide) (by decide) (by decide) ⟨by decide, by decide⟩ (fun q4 => ?_)
    refine N_putF (k := 0) hX hin [(h0, .inr (3, [.ref q0, .ref q1, .ref q2, .ref q3, .ref q4, .null, .null, .int 0, .int 0]))] dX4_init_42 cfl_X4_24 fwf_3_4 rfl rfl rfl rfl rfl ?_
    refine N_aload_n hX 0 dX4_init_45 rfl rfl ?_
    refine N_sipush hX 400 dX4_init_46 rfl ?_
    refine N_newarr (a0 := (400, .inl fun _ => 0)) hX 0 400 dX4_init_49 aw9_0 rfl (fun _ h => by cases h) (fun _ => rfl) (by decide) (by decide) (by decide) ⟨by decide, by decide⟩ (fun q5 => ?_)
    refine N_putF (k := 0) hX hin [(h0, .inr (3, [.ref q0, .ref q1, .ref q2, .ref q3, .ref q4, .ref q5, .null, .int 0, .int 0]))] dX4_init_51 cfl_X4_27 fwf_3_5 rfl rfl rfl rfl rfl ?_
    refine N_aload_n hX 0 dX4_init_54 rfl rfl ?_
    refine N_bipush hX 32 dX4_init_55 rfl ?_
    refine N_newarr (a0 := (32, .inl fun _ => 0)) hX 0 32 dX4_init_57 aw9_0 rfl (fun _ h => by cases h) (fun _ => rfl) (by decide) (by decide) (by decide) ⟨by decide, by decide⟩ (fun q6 => ?_)
    refine N_putF (k := 0) hX hin [(h0, .inr (3, [.ref q0, .ref q1, .ref q2, .ref q3, .ref q4, .ref q5, .ref q6, .int 0, .int 0]))] dX4_init_59 cfl_X4_30 fwf_3_6 rfl rfl rfl rfl rfl ?_
    refine N_aload_n hX 0 dX4_init_62 rfl rfl ?_
    refine N_iconst hX (-1) dX4_init_63 rfl ?_
    refine N_put (k := 0) hX [(h0, .inr (3, [.ref q0, .ref q1, .ref q2, .ref q3, .ref q4, .ref q5, .ref q6, .int 0, .int (-1)]))] dX4_init_64 cfl_X4_33 cfw_3_8 rfl rfl rfl rfl rfl ?_
    exact N_vret hX dX4_init_67 (Post := fun ws => ∃ qs : Nat → Nat, ws = sh_X4 X.1.2.2 h0 qs) ⟨fun i => [q0, q1, q2, q3, q4, q5, q6].getD i 0, rfl⟩ (by decide) (by decide))
set_option maxRecDepth 100000 in
set_option maxHeartbeats 1000000 in
theorem CN_X9 (g : NG) : CtN g 2 yX9_init cX9_init 1 7 [.null, .null, .null, .null, .null, .null, .null, .null, .null, .int 0, .int 0] 9 73 (fun h0 ws => ∃ qs : Nat → Nat, ws = sh_X9 g.2.2 h0 qs) :=
  CtN_of RX9 rfl (by decide) rfl rfl (fun X A h0 hX1 hX hin => by
    subst hX1
    show JN X _ _ A 0 0 0 [(0, .ref h0)] [] ([(h0, .inr (7, [.null, .null, .null, .null, .null, .null, .null, .null, .null, .int 0, .int 0]))] ++ [])
    refine N_aload_n hX 0 dX9_init_0 rfl rfl ?_
    refine N_objInit hX dX9_init_1 ow_X9.1 ow_X9.2.1 ow_X9.2.2 ⟨by decide, by decide⟩ rfl ?_
    refine N_aload_n hX 0 dX9_init_4 rfl rfl ?_
    refine N_bipush hX 8 dX9_init_5 rfl ?_
    refine N_newarr (a0 := (8, .inl fun _ => 0)) hX 0 8 dX9_init_7 aw9_0 rfl (fun _ h => by cases h) (fun _ => rfl) (by decide) (by decide) (by decide) ⟨by decide, by decide⟩ (fun q0 => ?_)
    refine N_putF (k := 0) hX hin [(h0, .inr (7, [.ref q0, .null, .null, .null, .null, .null, .null, .null, .null, .int 0, .int 0]))] dX9_init_9 cfl_X9_9 fwf_7_0 rfl rfl rfl rfl rfl ?_
    refine N_aload_n hX 0 dX9_init_12 rfl rfl ?_
    refine N_bipush hX 8 dX9_init_13 rfl ?_
    refine N_newarr (a0 := (8, .inl fun _ => 0)) hX 0 8 dX9_init_15 aw9_0 rfl (fun _ h => by cases h) (fun _ => rfl) (by decide) (by decide) (by decide) ⟨by decide, by decide⟩ (fun q1 => ?_)
    refine N_putF (k := 0) hX hin [(h0, .inr (7, [.ref q0, .ref q1, .null, .null, .null, .null, .null, .null, .null, .int 0, .int 0]))] dX9_init_17 cfl_X9_15 fwf_7_1 rfl rfl rfl rfl rfl ?_
    refine N_aload_n hX 0 dX9_init_20 rfl rfl ?_
    refine N_bipush hX 8 dX9_init_21 rfl ?_
    refine N_newarr (a0 := (8, .inl fun _ => 0)) hX 0 8 dX9_init_23 aw9_0 rfl (fun _ h => by cases h) (fun _ => rfl) (by decide) (by decide) (by decide) ⟨by decide, by decide⟩ (fun q2 => ?_)
    refine N_putF (k := 0) hX hin [(h0, .inr (7, [.ref q0, .ref q1, .ref q2, .null, .null, .null, .null, .null, .null, .int 0, .int 0]))] dX9_init_25 cfl_X9_18 fwf_7_2 rfl rfl rfl rfl rfl ?_
    refine N_aload_n hX 0 dX9_init_28 rfl rfl ?_
    refine N_bipush hX 8 dX9_init_29 rfl ?_
    refine N_newarr (a0 := (8, .inl fun _ => 0)) hX 0 8 dX9_init_31 aw9_0 rfl (fun _ h => by cases h) (fun _ => rfl) (by decide) (by decide) (by decide) ⟨by decide, by decide⟩ (fun q3 => ?_)
    refine N_putF (k := 0) hX hin [(h0, .inr (7, [.ref q0, .ref q1, .ref q2, .ref q3, .null, .null, .null, .null, .null, .int 0, .int 0]))] dX9_init_33 cfl_X9_21 fwf_7_3 rfl rfl rfl rfl rfl ?_
    refine N_aload_n hX 0 dX9_init_36 rfl rfl ?_
    refine N_bipush hX 8 dX9_init_37 rfl ?_
    refine N_newarr (a0 := (8, .inl fun _ => 0)) hX 0 8 dX9_init_39 aw9_0 rfl (fun _ h => by cases h) (fun _ => rfl) (by decide) (by decide) (by decide) ⟨by decide, by decide⟩ (fun q4 => ?_)
    refine N_putF (k := 0) hX hin [(h0, .inr (7, [.ref q0, .ref q1, .ref q2, .ref q3, .ref q4, .null, .null, .null, .null, .int 0, .int 0]))] dX9_init_41 cfl_X9_24 fwf_7_4 rfl rfl rfl rfl rfl ?_
    refine N_aload_n hX 0 dX9_init_44 rfl rfl ?_
    refine N_bipush hX 8 dX9_init_45 rfl ?_
    refine N_newarr (a0 := (8, .inl fun _ => 0)) hX 0 8 dX9_init_47 aw9_0 rfl (fun _ h => by cases h) (fun _ => rfl) (by decide) (by decide) (by decide) ⟨by decide, by decide⟩ (fun q5 => ?_)
    refine N_putF (k := 0) hX hin [(h0, .inr (7, [.ref q0, .ref q1, .ref q2, .ref q3, .ref q4, .ref q5, .null, .null, .null, .int 0, .int 0]))] dX9_init_49 cfl_X9_27 fwf_7_5 rfl rfl rfl rfl rfl ?_
    refine N_aload_n hX 0 dX9_init_52 rfl rfl ?_
    refine N_bipush hX 8 dX9_init_53 rfl ?_
    refine N_newarr (a0 := (8, .inl fun _ => 0)) hX 0 8 dX9_init_55 aw9_0 rfl (fun _ h => by cases h) (fun _ => rfl) (by decide) (by decide) (by decide) ⟨by decide, by decide⟩ (fun q6 => ?_)
    refine N_putF (k := 0) hX hin [(h0, .inr (7, [.ref q0, .ref q1, .ref q2, .ref q3, .ref q4, .ref q5, .ref q6, .null, .null, .int 0, .int 0]))] dX9_init_57 cfl_X9_30 fwf_7_6 rfl rfl rfl rfl rfl ?_
    refine N_aload_n hX 0 dX9_init_60 rfl rfl ?_
    refine N_bipush hX 8 dX9_init_61 rfl ?_
    refine N_newarr (a0 := (8, .inl fun _ => 0)) hX 0 8 dX9_init_63 aw9_0 rfl (fun _ h => by cases h) (fun _ => rfl) (by decide) (by decide) (by decide) ⟨by decide, by decide⟩ (fun q7 => ?_)
    refine N_putF (k := 0) hX hin [(h0, .inr (7, [.ref q0, .ref q1, .ref q2, .ref q3, .ref q4, .ref q5, .ref q6, .ref q7, .null, .int 0, .int 0]))] dX9_init_65 cfl_X9_33 fwf_7_7 rfl rfl rfl rfl rfl ?_
    refine N_aload_n hX 0 dX9_init_68 rfl rfl ?_
    refine N_bipush hX 9 dX9_init_69 rfl ?_
    refine N_newarr (a0 := (9, .inl fun _ => 0)) hX 0 9 dX9_init_71 aw9_0 rfl (fun _ h => by cases h) (fun _ => rfl) (by decide) (by decide) (by decide) ⟨by decide, by decide⟩ (fun q8 => ?_)
    refine N_putF (k := 0) hX hin [(h0, .inr (7, [.ref q0, .ref q1, .ref q2, .ref q3, .ref q4, .ref q5, .ref q6, .ref q7, .ref q8, .int 0, .int 0]))] dX9_init_73 cfl_X9_36 fwf_7_8 rfl rfl rfl rfl rfl ?_
    exact N_vret hX dX9_init_76 (Post := fun ws => ∃ qs : Nat → Nat, ws = sh_X9 X.1.2.2 h0 qs) ⟨fun i => [q0, q1, q2, q3, q4, q5, q6, q7, q8].getD i 0, rfl⟩ (by decide) (by decide))
set_option maxRecDepth 100000 in
set_option maxHeartbeats 1000000 in
theorem CN_X3 (g : NG) : CtN g 3 yX3_init cX3_init 1 2 [.null, .int 0] 10 84 (fun h0 ws => ∃ qs : Nat → Nat, ws = sh_X3 g.2.2 h0 qs) :=
  CtN_of RX3 rfl (by decide) rfl rfl (fun X A h0 hX1 hX hin => by
    subst hX1
    show JN X _ _ A 0 0 0 [(0, .ref h0)] [] ([(h0, .inr (2, [.null, .int 0]))] ++ [])
    refine N_aload_n hX 0 dX3_init_0 rfl rfl ?_
    refine N_objInit hX dX3_init_1 ow_X3.1 ow_X3.2.1 ow_X3.2.2 ⟨by decide, by decide⟩ rfl ?_
    refine N_aload_n hX 0 dX3_init_4 rfl rfl ?_
    refine N_new (ci := 7) (fs := [.null, .null, .null, .null, .null, .null, .null, .null, .null, .int 0, .int 0]) hX dX3_init_5 cl_X3_9 inst_X9 ini_X9 rfl (fun j hj => dv_X9 j hj) ⟨by decide, by decide⟩ (fun q0 => ?_)
    refine N_dup hX dX3_init_8 rfl ?_
    refine N_call (mc := 9) (ms := 73) hX dX3_init_9 cwi_X3_11 rfl (CN_X9 X.1) (by decide) (by decide) rfl ⟨by decide, by decide⟩ rfl (fun w9 hw9 => ?_)
    obtain ⟨qs0, rfl⟩ := hw9
    refine N_putF (k := 0) hX hin [(h0, .inr (2, [.ref q0, .int 0]))] dX3_init_12 cfl_X3_12 fwf_2_0 rfl rfl rfl rfl rfl ?_
    exact N_vret hX dX3_init_15 (Post := fun ws => ∃ qs : Nat → Nat, ws = sh_X3 X.1.2.2 h0 qs) ⟨fun i => if i < 1 then [q0].getD i 0 else qs0 (i - 1), (by
      unfold sh_X3
      rfl)⟩ (by decide) (by decide))
set_option maxRecDepth 100000 in
set_option maxHeartbeats 1000000 in
theorem CN_X7 (g : NG) : CtN g 2 yX7_init cX7_init 1 5 [.null, .null, .null] 3 1846 (fun h0 ws => ∃ qs : Nat → Nat, ws = sh_X7 g.2.2 h0 qs) :=
  CtN_of RX7 rfl (by decide) rfl rfl (fun X A h0 hX1 hX hin => by
    subst hX1
    show JN X _ _ A 0 0 0 [(0, .ref h0)] [] ([(h0, .inr (5, [.null, .null, .null]))] ++ [])
    refine N_aload_n hX 0 dX7_init_0 rfl rfl ?_
    refine N_objInit hX dX7_init_1 ow_X7.1 ow_X7.2.1 ow_X7.2.2 ⟨by decide, by decide⟩ rfl ?_
    refine N_aload_n hX 0 dX7_init_4 rfl rfl ?_
    refine N_sipush hX 1792 dX7_init_5 rfl ?_
    refine N_newarr (a0 := (1792, .inl fun _ => 0)) hX 0 1792 dX7_init_8 aw9_0 rfl (fun _ h => by cases h) (fun _ => rfl) (by decide) (by decide) (by decide) ⟨by decide, by decide⟩ (fun q0 => ?_)
    refine N_putF (k := 0) hX hin [(h0, .inr (5, [.ref q0, .null, .null]))] dX7_init_10 cfl_X7_11 fwf_5_0 rfl rfl rfl rfl rfl ?_
    refine N_aload_n hX 0 dX7_init_13 rfl rfl ?_
    refine N_bipush hX 48 dX7_init_14 rfl ?_
    refine N_newarr (a0 := (48, .inl fun _ => 0)) hX 0 48 dX7_init_16 aw9_0 rfl (fun _ h => by cases h) (fun _ => rfl) (by decide) (by decide) (by decide) ⟨by decide, by decide⟩ (fun q1 => ?_)
    refine N_putF (k := 0) hX hin [(h0, .inr (5, [.ref q0, .ref q1, .null]))] dX7_init_18 cfl_X7_15 fwf_5_1 rfl rfl rfl rfl rfl ?_
    refine N_aload_n hX 0 dX7_init_21 rfl rfl ?_
    refine N_bipush hX 6 dX7_init_22 rfl ?_
    refine N_newarr (a0 := (6, .inl fun _ => 0)) hX 0 6 dX7_init_24 aw9_0 rfl (fun _ h => by cases h) (fun _ => rfl) (by decide) (by decide) (by decide) ⟨by decide, by decide⟩ (fun q2 => ?_)
    refine N_putF (k := 0) hX hin [(h0, .inr (5, [.ref q0, .ref q1, .ref q2]))] dX7_init_26 cfl_X7_18 fwf_5_2 rfl rfl rfl rfl rfl ?_
    exact N_vret hX dX7_init_29 (Post := fun ws => ∃ qs : Nat → Nat, ws = sh_X7 X.1.2.2 h0 qs) ⟨fun i => [q0, q1, q2].getD i 0, rfl⟩ (by decide) (by decide))
set_option maxRecDepth 100000 in
set_option maxHeartbeats 1000000 in
theorem CN_X0 (g : NG) : CtN g 2 yX0_init cX0_init 1 0 [.null, .int 0, .null, .null, .int 0] 3 625 (fun h0 ws => ∃ qs : Nat → Nat, ws = sh_X0 g.2.2 h0 qs) :=
  CtN_of RX0 rfl (by decide) rfl rfl (fun X A h0 hX1 hX hin => by
    subst hX1
    show JN X _ _ A 0 0 0 [(0, .ref h0)] [] ([(h0, .inr (0, [.null, .int 0, .null, .null, .int 0]))] ++ [])
    refine N_aload_n hX 0 dX0_init_0 rfl rfl ?_
    refine N_objInit hX dX0_init_1 ow_X0.1 ow_X0.2.1 ow_X0.2.2 ⟨by decide, by decide⟩ rfl ?_
    refine N_aload_n hX 0 dX0_init_4 rfl rfl ?_
    refine N_bipush hX 65 dX0_init_5 rfl ?_
    refine N_newarr (a0 := (65, .inl fun _ => 0)) hX 0 65 dX0_init_7 aw9_0 rfl (fun _ h => by cases h) (fun _ => rfl) (by decide) (by decide) (by decide) ⟨by decide, by decide⟩ (fun q0 => ?_)
    refine N_putF (k := 0) hX hin [(h0, .inr (0, [.ref q0, .int 0, .null, .null, .int 0]))] dX0_init_9 cfl_X0_11 fwf_0_0 rfl rfl rfl rfl rfl ?_
    refine N_aload_n hX 0 dX0_init_12 rfl rfl ?_
    refine N_sipush hX 520 dX0_init_13 rfl ?_
    refine N_newarr (a0 := (520, .inl fun _ => 0)) hX 0 520 dX0_init_16 aw9_0 rfl (fun _ h => by cases h) (fun _ => rfl) (by decide) (by decide) (by decide) ⟨by decide, by decide⟩ (fun q1 => ?_)
    refine N_putF (k := 0) hX hin [(h0, .inr (0, [.ref q0, .int 0, .ref q1, .null, .int 0]))] dX0_init_18 cfl_X0_15 fwf_0_2 rfl rfl rfl rfl rfl ?_
    refine N_aload_n hX 0 dX0_init_21 rfl rfl ?_
    refine N_bipush hX 40 dX0_init_22 rfl ?_
    refine N_newarr (a0 := (40, .inl fun _ => 0)) hX 0 40 dX0_init_24 aw9_0 rfl (fun _ h => by cases h) (fun _ => rfl) (by decide) (by decide) (by decide) ⟨by decide, by decide⟩ (fun q2 => ?_)
    refine N_putF (k := 0) hX hin [(h0, .inr (0, [.ref q0, .int 0, .ref q1, .ref q2, .int 0]))] dX0_init_26 cfl_X0_18 fwf_0_3 rfl rfl rfl rfl rfl ?_
    exact N_vret hX dX0_init_29 (Post := fun ws => ∃ qs : Nat → Nat, ws = sh_X0 X.1.2.2 h0 qs) ⟨fun i => [q0, q1, q2].getD i 0, rfl⟩ (by decide) (by decide))
set_option maxRecDepth 100000 in
set_option maxHeartbeats 1000000 in
theorem CN_X8 (g : NG) : CtN g 4 yX8_init cX8_init 2 6 [.null, .int 0, .null, .null] 69 2980 (fun h0 ws => ∃ qs : Nat → Nat, ws = sh_X8 g.2.2 h0 qs) :=
  CtN_of RX8 rfl (by decide) rfl rfl (fun X A h0 hX1 hX hin => by
    subst hX1
    show JN X _ _ A 0 0 0 [(0, .ref h0)] [] ([(h0, .inr (6, [.null, .int 0, .null, .null]))] ++ [])
    refine N_aload_n hX 0 dX8_init_0 rfl rfl ?_
    refine N_objInit hX dX8_init_1 ow_X8.1 ow_X8.2.1 ow_X8.2.2 ⟨by decide, by decide⟩ rfl ?_
    refine N_aload_n hX 0 dX8_init_4 rfl rfl ?_
    refine N_iconst hX 5 dX8_init_5 rfl ?_
    refine N_newarr (a0 := (5, .inl fun _ => 0)) hX 0 5 dX8_init_6 aw9_0 rfl (fun _ h => by cases h) (fun _ => rfl) (by decide) (by decide) (by decide) ⟨by decide, by decide⟩ (fun q0 => ?_)
    refine N_putF (k := 0) hX hin [(h0, .inr (6, [.ref q0, .int 0, .null, .null]))] dX8_init_8 cfl_X8_9 fwf_6_0 rfl rfl rfl rfl rfl ?_
    refine N_aload_n hX 0 dX8_init_11 rfl rfl ?_
    refine N_bipush hX 6 dX8_init_12 rfl ?_
    refine N_newq hX 6 dX8_init_14 cl_X8_15 (by decide) (by decide) (by decide) ⟨by decide, by decide⟩ (fun q1 => ?_)
    refine N_track ?_
    refine N_putF (k := 0) hX hin [(h0, .inr (6, [.ref q0, .int 0, .ref q1, .null])), (q1, .inl (X.1.2.2 4, 6, .inr (.inr (.inr (.inr (fun _ => none))))))] dX8_init_17 cfl_X8_17 fwf_6_2 rfl rfl rfl rfl rfl ?_
    refine N_aload_n hX 0 dX8_init_20 rfl rfl ?_
    refine N_iconst hX 5 dX8_init_21 rfl ?_
    refine N_newarr (a0 := (5, .inl fun _ => 0)) hX 0 5 dX8_init_22 aw9_0 rfl (fun _ h => by cases h) (fun _ => rfl) (by decide) (by decide) (by decide) ⟨by decide, by decide⟩ (fun q2 => ?_)
    refine N_putF (k := 0) hX hin [(h0, .inr (6, [.ref q0, .int 0, .ref q1, .ref q2])), (q1, .inl (X.1.2.2 4, 6, .inr (.inr (.inr (.inr (fun _ => none))))))] dX8_init_24 cfl_X8_21 fwf_6_3 rfl rfl rfl rfl rfl ?_
    refine N_iconst hX 0 dX8_init_27 rfl ?_
    refine N_istore_n hX [(1, .int 0), (0, .ref h0)] dX8_init_28 rfl rfl rfl ?_
    refine N_iload_n hX 0 dX8_init_29 rfl rfl ?_
    refine N_aload_n hX 1 dX8_init_30 rfl rfl ?_
    refine N_get (k := 0) hX dX8_init_31 cfl_X8_17 rfl rfl ?_
    refine N_alenq (k := 1) hX 6 dX8_init_34 rfl (by decide) ?_
    refine N_geF hX 57 dX8_init_35 rfl (by decide) ?_
    refine N_aload_n hX 1 dX8_init_38 rfl rfl ?_
    refine N_get (k := 0) hX dX8_init_39 cfl_X8_17 rfl rfl ?_
    refine N_iload_n hX 0 dX8_init_42 rfl rfl ?_
    refine N_new (ci := 1) (fs := [.null, .null, .null, .null, .null, .null, .null, .null, .null, .int 0, .int 0, .int 0, .int 0, .int 0, .int 0, .int 0, .int 0, .int 0]) hX dX8_init_43 cl_X8_15 inst_X1 ini_X1 rfl (fun j hj => dv_X1 j hj) ⟨by decide, by decide⟩ (fun q3 => ?_)
    refine N_dup hX dX8_init_46 rfl ?_
    refine N_call (mc := 10) (ms := 476) hX dX8_init_47 cwi_X8_24 rfl (CN_X1 X.1) (by decide) (by decide) rfl ⟨by decide, by decide⟩ rfl (fun w9 hw9 => ?_)
    obtain ⟨qs0, rfl⟩ := hw9
    refine N_astq (k := 1) hX [(h0, .inr (6, [.ref q0, .int 0, .ref q1, .ref q2])), (q1, .inl (X.1.2.2 4, 6, .inr (.inr (.inr (.inr (va_up (fun _ => none) 0 (some q3)))))))] dX8_init_50 rfl (List.mem_append_right _ List.mem_cons_self) (by decide) rfl ?_
    refine N_iinc hX 1 0 [(1, .int 1), (0, .ref h0)] dX8_init_51 rfl (by decide) rfl rfl ?_
    refine N_goto hX 29 dX8_init_54 rfl ?_
    refine N_iload_n hX 0 dX8_init_29 rfl rfl ?_
    refine N_aload_n hX 1 dX8_init_30 rfl rfl ?_
    refine N_get (k := 0) hX dX8_init_31 cfl_X8_17 rfl rfl ?_
    refine N_alenq (k := 1) hX 6 dX8_init_34 rfl (by decide) ?_
    refine N_geF hX 57 dX8_init_35 rfl (by decide) ?_
    refine N_aload_n hX 1 dX8_init_38 rfl rfl ?_
    refine N_get (k := 0) hX dX8_init_39 cfl_X8_17 rfl rfl ?_
    refine N_iload_n hX 0 dX8_init_42 rfl rfl ?_
    refine N_new (ci := 1) (fs := [.null, .null, .null, .null, .null, .null, .null, .null, .null, .int 0, .int 0, .int 0, .int 0, .int 0, .int 0, .int 0, .int 0, .int 0]) hX dX8_init_43 cl_X8_15 inst_X1 ini_X1 rfl (fun j hj => dv_X1 j hj) ⟨by decide, by decide⟩ (fun q4 => ?_)
    refine N_dup hX dX8_init_46 rfl ?_
    refine N_call (mc := 10) (ms := 476) hX dX8_init_47 cwi_X8_24 rfl (CN_X1 X.1) (by decide) (by decide) rfl ⟨by decide, by decide⟩ rfl (fun w9 hw9 => ?_)
    obtain ⟨qs1, rfl⟩ := hw9
    refine N_astq (k := 1) hX [(h0, .inr (6, [.ref q0, .int 0, .ref q1, .ref q2])), (q1, .inl (X.1.2.2 4, 6, .inr (.inr (.inr (.inr (va_up (va_up (fun _ => none) 0 (some q3)) 1 (some q4)))))))] dX8_init_50 rfl (List.mem_append_right _ List.mem_cons_self) (by decide) rfl ?_
    refine N_iinc hX 2 0 [(1, .int 2), (0, .ref h0)] dX8_init_51 rfl (by decide) rfl rfl ?_
    refine N_goto hX 29 dX8_init_54 rfl ?_
    refine N_iload_n hX 0 dX8_init_29 rfl rfl ?_
    refine N_aload_n hX 1 dX8_init_30 rfl rfl ?_
    refine N_get (k := 0) hX dX8_init_31 cfl_X8_17 rfl rfl ?_
    refine N_alenq (k := 1) hX 6 dX8_init_34 rfl (by decide) ?_
    refine N_geF hX 57 dX8_init_35 rfl (by decide) ?_
    refine N_aload_n hX 1 dX8_init_38 rfl rfl ?_
    refine N_get (k := 0) hX dX8_init_39 cfl_X8_17 rfl rfl ?_
    refine N_iload_n hX 0 dX8_init_42 rfl rfl ?_
    refine N_new (ci := 1) (fs := [.null, .null, .null, .null, .null, .null, .null, .null, .null, .int 0, .int 0, .int 0, .int 0, .int 0, .int 0, .int 0, .int 0, .int 0]) hX dX8_init_43 cl_X8_15 inst_X1 ini_X1 rfl (fun j hj => dv_X1 j hj) ⟨by decide, by decide⟩ (fun q5 => ?_)
    refine N_dup hX dX8_init_46 rfl ?_
    refine N_call (mc := 10) (ms := 476) hX dX8_init_47 cwi_X8_24 rfl (CN_X1 X.1) (by decide) (by decide) rfl ⟨by decide, by decide⟩ rfl (fun w9 hw9 => ?_)
    obtain ⟨qs2, rfl⟩ := hw9
    refine N_astq (k := 1) hX [(h0, .inr (6, [.ref q0, .int 0, .ref q1, .ref q2])), (q1, .inl (X.1.2.2 4, 6, .inr (.inr (.inr (.inr (va_up (va_up (va_up (fun _ => none) 0 (some q3)) 1 (some q4)) 2 (some q5)))))))] dX8_init_50 rfl (List.mem_append_right _ List.mem_cons_self) (by decide) rfl ?_
    refine N_iinc hX 3 0 [(1, .int 3), (0, .ref h0)] dX8_init_51 rfl (by decide) rfl rfl ?_
    refine N_goto hX 29 dX8_init_54 rfl ?_
    refine N_iload_n hX 0 dX8_init_29 rfl rfl ?_
    refine N_aload_n hX 1 dX8_init_30 rfl rfl ?_
    refine N_get (k := 0) hX dX8_init_31 cfl_X8_17 rfl rfl ?_
    refine N_alenq (k := 1) hX 6 dX8_init_34 rfl (by decide) ?_
    refine N_geF hX 57 dX8_init_35 rfl (by decide) ?_
    refine N_aload_n hX 1 dX8_init_38 rfl rfl ?_
    refine N_get (k := 0) hX dX8_init_39 cfl_X8_17 rfl rfl ?_
    refine N_iload_n hX 0 dX8_init_42 rfl rfl ?_
    refine N_new (ci := 1) (fs := [.null, .null, .null, .null, .null, .null, .null, .null, .null, .int 0, .int 0, .int 0, .int 0, .int 0, .int 0, .int 0, .int 0, .int 0]) hX dX8_init_43 cl_X8_15 inst_X1 ini_X1 rfl (fun j hj => dv_X1 j hj) ⟨by decide, by decide⟩ (fun q6 => ?_)
    refine N_dup hX dX8_init_46 rfl ?_
    refine N_call (mc := 10) (ms := 476) hX dX8_init_47 cwi_X8_24 rfl (CN_X1 X.1) (by decide) (by decide) rfl ⟨by decide, by decide⟩ rfl (fun w9 hw9 => ?_)
    obtain ⟨qs3, rfl⟩ := hw9
    refine N_astq (k := 1) hX [(h0, .inr (6, [.ref q0, .int 0, .ref q1, .ref q2])), (q1, .inl (X.1.2.2 4, 6, .inr (.inr (.inr (.inr (va_up (va_up (va_up (va_up (fun _ => none) 0 (some q3)) 1 (some q4)) 2 (some q5)) 3 (some q6)))))))] dX8_init_50 rfl (List.mem_append_right _ List.mem_cons_self) (by decide) rfl ?_
    refine N_iinc hX 4 0 [(1, .int 4), (0, .ref h0)] dX8_init_51 rfl (by decide) rfl rfl ?_
    refine N_goto hX 29 dX8_init_54 rfl ?_
    refine N_iload_n hX 0 dX8_init_29 rfl rfl ?_
    refine N_aload_n hX 1 dX8_init_30 rfl rfl ?_
    refine N_get (k := 0) hX dX8_init_31 cfl_X8_17 rfl rfl ?_
    refine N_alenq (k := 1) hX 6 dX8_init_34 rfl (by decide) ?_
    refine N_geF hX 57 dX8_init_35 rfl (by decide) ?_
    refine N_aload_n hX 1 dX8_init_38 rfl rfl ?_
    refine N_get (k := 0) hX dX8_init_39 cfl_X8_17 rfl rfl ?_
    refine N_iload_n hX 0 dX8_init_42 rfl rfl ?_
    refine N_new (ci := 1) (fs := [.null, .null, .null, .null, .null, .null, .null, .null, .null, .int 0, .int 0, .int 0, .int 0, .int 0, .int 0, .int 0, .int 0, .int 0]) hX dX8_init_43 cl_X8_15 inst_X1 ini_X1 rfl (fun j hj => dv_X1 j hj) ⟨by decide, by decide⟩ (fun q7 => ?_)
    refine N_dup hX dX8_init_46 rfl ?_
    refine N_call (mc := 10) (ms := 476) hX dX8_init_47 cwi_X8_24 rfl (CN_X1 X.1) (by decide) (by decide) rfl ⟨by decide, by decide⟩ rfl (fun w9 hw9 => ?_)
    obtain ⟨qs4, rfl⟩ := hw9
    refine N_astq (k := 1) hX [(h0, .inr (6, [.ref q0, .int 0, .ref q1, .ref q2])), (q1, .inl (X.1.2.2 4, 6, .inr (.inr (.inr (.inr (va_up (va_up (va_up (va_up (va_up (fun _ => none) 0 (some q3)) 1 (some q4)) 2 (some q5)) 3 (some q6)) 4 (some q7)))))))] dX8_init_50 rfl (List.mem_append_right _ List.mem_cons_self) (by decide) rfl ?_
    refine N_iinc hX 5 0 [(1, .int 5), (0, .ref h0)] dX8_init_51 rfl (by decide) rfl rfl ?_
    refine N_goto hX 29 dX8_init_54 rfl ?_
    refine N_iload_n hX 0 dX8_init_29 rfl rfl ?_
    refine N_aload_n hX 1 dX8_init_30 rfl rfl ?_
    refine N_get (k := 0) hX dX8_init_31 cfl_X8_17 rfl rfl ?_
    refine N_alenq (k := 1) hX 6 dX8_init_34 rfl (by decide) ?_
    refine N_geF hX 57 dX8_init_35 rfl (by decide) ?_
    refine N_aload_n hX 1 dX8_init_38 rfl rfl ?_
    refine N_get (k := 0) hX dX8_init_39 cfl_X8_17 rfl rfl ?_
    refine N_iload_n hX 0 dX8_init_42 rfl rfl ?_
    refine N_new (ci := 1) (fs := [.null, .null, .null, .null, .null, .null, .null, .null, .null, .int 0, .int 0, .int 0, .int 0, .int 0, .int 0, .int 0, .int 0, .int 0]) hX dX8_init_43 cl_X8_15 inst_X1 ini_X1 rfl (fun j hj => dv_X1 j hj) ⟨by decide, by decide⟩ (fun q8 => ?_)
    refine N_dup hX dX8_init_46 rfl ?_
    refine N_call (mc := 10) (ms := 476) hX dX8_init_47 cwi_X8_24 rfl (CN_X1 X.1) (by decide) (by decide) rfl ⟨by decide, by decide⟩ rfl (fun w9 hw9 => ?_)
    obtain ⟨qs5, rfl⟩ := hw9
    refine N_astq (k := 1) hX [(h0, .inr (6, [.ref q0, .int 0, .ref q1, .ref q2])), (q1, .inl (X.1.2.2 4, 6, .inr (.inr (.inr (.inr (va_up (va_up (va_up (va_up (va_up (va_up (fun _ => none) 0 (some q3)) 1 (some q4)) 2 (some q5)) 3 (some q6)) 4 (some q7)) 5 (some q8)))))))] dX8_init_50 rfl (List.mem_append_right _ List.mem_cons_self) (by decide) rfl ?_
    refine N_iinc hX 6 0 [(1, .int 6), (0, .ref h0)] dX8_init_51 rfl (by decide) rfl rfl ?_
    refine N_goto hX 29 dX8_init_54 rfl ?_
    refine N_iload_n hX 0 dX8_init_29 rfl rfl ?_
    refine N_aload_n hX 1 dX8_init_30 rfl rfl ?_
    refine N_get (k := 0) hX dX8_init_31 cfl_X8_17 rfl rfl ?_
    refine N_alenq (k := 1) hX 6 dX8_init_34 rfl (by decide) ?_
    refine N_geT hX 57 dX8_init_35 rfl (by decide) ?_
    exact N_vret hX dX8_init_57 (Post := fun ws => ∃ qs : Nat → Nat, ws = sh_X8 X.1.2.2 h0 qs) ⟨fun i => if i < 9 then [q0, q1, q2, q3, q4, q5, q6, q7, q8].getD i 0 else if i < 19 then qs0 (i - 9) else if i < 29 then qs1 (i - 19) else if i < 39 then qs2 (i - 29) else if i < 49 then qs3 (i - 39) else if i < 59 then qs4 (i - 49) else qs5 (i - 59), (by
      unfold sh_X8
      rfl)⟩ (by decide) (by decide))
set_option maxRecDepth 100000 in
set_option maxHeartbeats 1000000 in
theorem CN_X11 (g : NG) : CtN g 6 yX11_init cX11_init 2 9 [.null, .null, .null, .null, .null, .null, .null, .null, .null, .null, .null, .int 0, .null, .int 0, .int 0] 281 16045 (fun h0 ws => ∃ qs : Nat → Nat, ws = sh_X11 g.2.2 h0 qs) :=
  CtN_of RX11 rfl (by decide) rfl rfl (fun X A h0 hX1 hX hin => by
    subst hX1
    show JN X _ _ A 0 0 0 [(0, .ref h0)] [] ([(h0, .inr (9, [.null, .null, .null, .null, .null, .null, .null, .null, .null, .null, .null, .int 0, .null, .int 0, .int 0]))] ++ [])
    refine N_aload_n hX 0 dX11_init_0 rfl rfl ?_
    refine N_objInit hX dX11_init_1 ow_X11.1 ow_X11.2.1 ow_X11.2.2 ⟨by decide, by decide⟩ rfl ?_
    refine N_aload_n hX 0 dX11_init_4 rfl rfl ?_
    refine N_new (ci := 8) (fs := [.null, .int 0, .int 0, .int 0, .int 0, .int 0, .int 0]) hX dX11_init_5 cl_X11_7 inst_X10 ini_X10 rfl (fun j hj => dv_X10 j hj) ⟨by decide, by decide⟩ (fun q0 => ?_)
    refine N_dup hX dX11_init_8 rfl ?_
    refine N_call (mc := 1) (ms := 400) hX dX11_init_9 cwi_X11_9 rfl (CN_X10 X.1) (by decide) (by decide) rfl ⟨by decide, by decide⟩ rfl (fun w9 hw9 => ?_)
    obtain ⟨qs0, rfl⟩ := hw9
    refine N_putF (k := 0) hX hin [(h0, .inr (9, [.ref q0, .null, .null, .null, .null, .null, .null, .null, .null, .null, .null, .int 0, .null, .int 0, .int 0]))] dX11_init_12 cfl_X11_10 fwf_9_0 rfl rfl rfl rfl rfl ?_
    refine N_aload_n hX 0 dX11_init_15 rfl rfl ?_
    refine N_new (ci := 1) (fs := [.null, .null, .null, .null, .null, .null, .null, .null, .null, .int 0, .int 0, .int 0, .int 0, .int 0, .int 0, .int 0, .int 0, .int 0]) hX dX11_init_16 cl_X11_16 inst_X1 ini_X1 rfl (fun j hj => dv_X1 j hj) ⟨by decide, by decide⟩ (fun q1 => ?_)
    refine N_dup hX dX11_init_19 rfl ?_
    refine N_call (mc := 10) (ms := 476) hX dX11_init_20 cwi_X11_18 rfl (CN_X1 X.1) (by decide) (by decide) rfl ⟨by decide, by decide⟩ rfl (fun w9 hw9 => ?_)
    obtain ⟨qs1, rfl⟩ := hw9
    refine N_putF (k := 0) hX hin [(h0, .inr (9, [.ref q0, .ref q1, .null, .null, .null, .null, .null, .null, .null, .null, .null, .int 0, .null, .int 0, .int 0]))] dX11_init_23 cfl_X11_19 fwf_9_1 rfl rfl rfl rfl rfl ?_
    refine N_aload_n hX 0 dX11_init_26 rfl rfl ?_
    refine N_new (ci := 1) (fs := [.null, .null, .null, .null, .null, .null, .null, .null, .null, .int 0, .int 0, .int 0, .int 0, .int 0, .int 0, .int 0, .int 0, .int 0]) hX dX11_init_27 cl_X11_16 inst_X1 ini_X1 rfl (fun j hj => dv_X1 j hj) ⟨by decide, by decide⟩ (fun q2 => ?_)
    refine N_dup hX dX11_init_30 rfl ?_
    refine N_call (mc := 10) (ms := 476) hX dX11_init_31 cwi_X11_18 rfl (CN_X1 X.1) (by decide) (by decide) rfl ⟨by decide, by decide⟩ rfl (fun w9 hw9 => ?_)
    obtain ⟨qs2, rfl⟩ := hw9
    refine N_putF (k := 0) hX hin [(h0, .inr (9, [.ref q0, .ref q1, .ref q2, .null, .null, .null, .null, .null, .null, .null, .null, .int 0, .null, .int 0, .int 0]))] dX11_init_34 cfl_X11_23 fwf_9_2 rfl rfl rfl rfl rfl ?_
    refine N_aload_n hX 0 dX11_init_37 rfl rfl ?_
    refine N_new (ci := 3) (fs := [.null, .null, .null, .null, .null, .null, .null, .int 0, .int 0]) hX dX11_init_38 cl_X11_26 inst_X4 ini_X4 rfl (fun j hj => dv_X4 j hj) ⟨by decide, by decide⟩ (fun q3 => ?_)
    refine N_dup hX dX11_init_41 rfl ?_
    refine N_call (mc := 7) (ms := 880) hX dX11_init_42 cwi_X11_28 rfl (CN_X4 X.1) (by decide) (by decide) rfl ⟨by decide, by decide⟩ rfl (fun w9 hw9 => ?_)
    obtain ⟨qs3, rfl⟩ := hw9
    refine N_putF (k := 0) hX hin [(h0, .inr (9, [.ref q0, .ref q1, .ref q2, .ref q3, .null, .null, .null, .null, .null, .null, .null, .int 0, .null, .int 0, .int 0]))] dX11_init_45 cfl_X11_29 fwf_9_3 rfl rfl rfl rfl rfl ?_
    refine N_aload_n hX 0 dX11_init_48 rfl rfl ?_
    refine N_new (ci := 3) (fs := [.null, .null, .null, .null, .null, .null, .null, .int 0, .int 0]) hX dX11_init_49 cl_X11_26 inst_X4 ini_X4 rfl (fun j hj => dv_X4 j hj) ⟨by decide, by decide⟩ (fun q4 => ?_)
    refine N_dup hX dX11_init_52 rfl ?_
    refine N_call (mc := 7) (ms := 880) hX dX11_init_53 cwi_X11_28 rfl (CN_X4 X.1) (by decide) (by decide) rfl ⟨by decide, by decide⟩ rfl (fun w9 hw9 => ?_)
    obtain ⟨qs4, rfl⟩ := hw9
    refine N_putF (k := 0) hX hin [(h0, .inr (9, [.ref q0, .ref q1, .ref q2, .ref q3, .ref q4, .null, .null, .null, .null, .null, .null, .int 0, .null, .int 0, .int 0]))] dX11_init_56 cfl_X11_33 fwf_9_4 rfl rfl rfl rfl rfl ?_
    refine N_aload_n hX 0 dX11_init_59 rfl rfl ?_
    refine N_new (ci := 2) (fs := [.null, .int 0]) hX dX11_init_60 cl_X11_36 inst_X3 ini_X3 rfl (fun j hj => dv_X3 j hj) ⟨by decide, by decide⟩ (fun q5 => ?_)
    refine N_dup hX dX11_init_63 rfl ?_
    refine N_call (mc := 10) (ms := 84) hX dX11_init_64 cwi_X11_38 rfl (CN_X3 X.1) (by decide) (by decide) rfl ⟨by decide, by decide⟩ rfl (fun w9 hw9 => ?_)
    obtain ⟨qs5, rfl⟩ := hw9
    refine N_putF (k := 0) hX hin [(h0, .inr (9, [.ref q0, .ref q1, .ref q2, .ref q3, .ref q4, .ref q5, .null, .null, .null, .null, .null, .int 0, .null, .int 0, .int 0]))] dX11_init_67 cfl_X11_39 fwf_9_5 rfl rfl rfl rfl rfl ?_
    refine N_aload_n hX 0 dX11_init_70 rfl rfl ?_
    refine N_new (ci := 6) (fs := [.null, .int 0, .null, .null]) hX dX11_init_71 cl_X11_43 inst_X8 ini_X8 rfl (fun j hj => dv_X8 j hj) ⟨by decide, by decide⟩ (fun q6 => ?_)
    refine N_dup hX dX11_init_74 rfl ?_
    refine N_call (mc := 69) (ms := 2980) hX dX11_init_75 cwi_X11_45 rfl (CN_X8 X.1) (by decide) (by decide) rfl ⟨by decide, by decide⟩ rfl (fun w9 hw9 => ?_)
    obtain ⟨qs6, rfl⟩ := hw9
    refine N_putF (k := 0) hX hin [(h0, .inr (9, [.ref q0, .ref q1, .ref q2, .ref q3, .ref q4, .ref q5, .ref q6, .null, .null, .null, .null, .int 0, .null, .int 0, .int 0]))] dX11_init_78 cfl_X11_46 fwf_9_6 rfl rfl rfl rfl rfl ?_
    refine N_aload_n hX 0 dX11_init_81 rfl rfl ?_
    refine N_new (ci := 5) (fs := [.null, .null, .null]) hX dX11_init_82 cl_X11_50 inst_X7 ini_X7 rfl (fun j hj => dv_X7 j hj) ⟨by decide, by decide⟩ (fun q7 => ?_)
    refine N_dup hX dX11_init_85 rfl ?_
    refine N_call (mc := 3) (ms := 1846) hX dX11_init_86 cwi_X11_52 rfl (CN_X7 X.1) (by decide) (by decide) rfl ⟨by decide, by decide⟩ rfl (fun w9 hw9 => ?_)
    obtain ⟨qs7, rfl⟩ := hw9
    refine N_putF (k := 0) hX hin [(h0, .inr (9, [.ref q0, .ref q1, .ref q2, .ref q3, .ref q4, .ref q5, .ref q6, .ref q7, .null, .null, .null, .int 0, .null, .int 0, .int 0]))] dX11_init_89 cfl_X11_53 fwf_9_7 rfl rfl rfl rfl rfl ?_
    refine N_aload_n hX 0 dX11_init_92 rfl rfl ?_
    refine N_new (ci := 0) (fs := [.null, .int 0, .null, .null, .int 0]) hX dX11_init_93 cl_X11_57 inst_X0 ini_X0 rfl (fun j hj => dv_X0 j hj) ⟨by decide, by decide⟩ (fun q8 => ?_)
    refine N_dup hX dX11_init_96 rfl ?_
    refine N_call (mc := 3) (ms := 625) hX dX11_init_97 cwi_X11_59 rfl (CN_X0 X.1) (by decide) (by decide) rfl ⟨by decide, by decide⟩ rfl (fun w9 hw9 => ?_)
    obtain ⟨qs8, rfl⟩ := hw9
    refine N_putF (k := 0) hX hin [(h0, .inr (9, [.ref q0, .ref q1, .ref q2, .ref q3, .ref q4, .ref q5, .ref q6, .ref q7, .ref q8, .null, .null, .int 0, .null, .int 0, .int 0]))] dX11_init_100 cfl_X11_60 fwf_9_8 rfl rfl rfl rfl rfl ?_
    refine N_aload_n hX 0 dX11_init_103 rfl rfl ?_
    refine N_new (ci := 1) (fs := [.null, .null, .null, .null, .null, .null, .null, .null, .null, .int 0, .int 0, .int 0, .int 0, .int 0, .int 0, .int 0, .int 0, .int 0]) hX dX11_init_104 cl_X11_16 inst_X1 ini_X1 rfl (fun j hj => dv_X1 j hj) ⟨by decide, by decide⟩ (fun q9 => ?_)
    refine N_dup hX dX11_init_107 rfl ?_
    refine N_call (mc := 10) (ms := 476) hX dX11_init_108 cwi_X11_18 rfl (CN_X1 X.1) (by decide) (by decide) rfl ⟨by decide, by decide⟩ rfl (fun w9 hw9 => ?_)
    obtain ⟨qs9, rfl⟩ := hw9
    refine N_putF (k := 0) hX hin [(h0, .inr (9, [.ref q0, .ref q1, .ref q2, .ref q3, .ref q4, .ref q5, .ref q6, .ref q7, .ref q8, .ref q9, .null, .int 0, .null, .int 0, .int 0]))] dX11_init_111 cfl_X11_64 fwf_9_9 rfl rfl rfl rfl rfl ?_
    refine N_aload_n hX 0 dX11_init_114 rfl rfl ?_
    refine N_new (ci := 3) (fs := [.null, .null, .null, .null, .null, .null, .null, .int 0, .int 0]) hX dX11_init_115 cl_X11_26 inst_X4 ini_X4 rfl (fun j hj => dv_X4 j hj) ⟨by decide, by decide⟩ (fun q10 => ?_)
    refine N_dup hX dX11_init_118 rfl ?_
    refine N_call (mc := 7) (ms := 880) hX dX11_init_119 cwi_X11_28 rfl (CN_X4 X.1) (by decide) (by decide) rfl ⟨by decide, by decide⟩ rfl (fun w9 hw9 => ?_)
    obtain ⟨qs10, rfl⟩ := hw9
    refine N_putF (k := 0) hX hin [(h0, .inr (9, [.ref q0, .ref q1, .ref q2, .ref q3, .ref q4, .ref q5, .ref q6, .ref q7, .ref q8, .ref q9, .ref q10, .int 0, .null, .int 0, .int 0]))] dX11_init_122 cfl_X11_67 fwf_9_10 rfl rfl rfl rfl rfl ?_
    refine N_aload_n hX 0 dX11_init_125 rfl rfl ?_
    refine N_bipush hX 12 dX11_init_126 rfl ?_
    refine N_newq hX 12 dX11_init_128 cl_X11_16 (by decide) (by decide) (by decide) ⟨by decide, by decide⟩ (fun q11 => ?_)
    refine N_track ?_
    refine N_putF (k := 0) hX hin [(h0, .inr (9, [.ref q0, .ref q1, .ref q2, .ref q3, .ref q4, .ref q5, .ref q6, .ref q7, .ref q8, .ref q9, .ref q10, .int 0, .ref q11, .int 0, .int 0])), (q11, .inl (X.1.2.2 4, 12, .inr (.inr (.inr (.inr (fun _ => none))))))] dX11_init_131 cfl_X11_70 fwf_9_12 rfl rfl rfl rfl rfl ?_
    refine N_iconst hX 0 dX11_init_134 rfl ?_
    refine N_istore_n hX [(1, .int 0), (0, .ref h0)] dX11_init_135 rfl rfl rfl ?_
    refine N_iload_n hX 0 dX11_init_136 rfl rfl ?_
    refine N_aload_n hX 1 dX11_init_137 rfl rfl ?_
    refine N_get (k := 0) hX dX11_init_138 cfl_X11_70 rfl rfl ?_
    refine N_alenq (k := 1) hX 12 dX11_init_141 rfl (by decide) ?_
    refine N_geF hX 164 dX11_init_142 rfl (by decide) ?_
    refine N_aload_n hX 1 dX11_init_145 rfl rfl ?_
    refine N_get (k := 0) hX dX11_init_146 cfl_X11_70 rfl rfl ?_
    refine N_iload_n hX 0 dX11_init_149 rfl rfl ?_
    refine N_new (ci := 1) (fs := [.null, .null, .null, .null, .null, .null, .null, .null, .null, .int 0, .int 0, .int 0, .int 0, .int 0, .int 0, .int 0, .int 0, .int 0]) hX dX11_init_150 cl_X11_16 inst_X1 ini_X1 rfl (fun j hj => dv_X1 j hj) ⟨by decide, by decide⟩ (fun q12 => ?_)
    refine N_dup hX dX11_init_153 rfl ?_
    refine N_call (mc := 10) (ms := 476) hX dX11_init_154 cwi_X11_18 rfl (CN_X1 X.1) (by decide) (by decide) rfl ⟨by decide, by decide⟩ rfl (fun w9 hw9 => ?_)
    obtain ⟨qs11, rfl⟩ := hw9
    refine N_astq (k := 1) hX [(h0, .inr (9, [.ref q0, .ref q1, .ref q2, .ref q3, .ref q4, .ref q5, .ref q6, .ref q7, .ref q8, .ref q9, .ref q10, .int 0, .ref q11, .int 0, .int 0])), (q11, .inl (X.1.2.2 4, 12, .inr (.inr (.inr (.inr (va_up (fun _ => none) 0 (some q12)))))))] dX11_init_157 rfl (List.mem_append_right _ List.mem_cons_self) (by decide) rfl ?_
    refine N_iinc hX 1 0 [(1, .int 1), (0, .ref h0)] dX11_init_158 rfl (by decide) rfl rfl ?_
    refine N_goto hX 136 dX11_init_161 rfl ?_
    refine N_iload_n hX 0 dX11_init_136 rfl rfl ?_
    refine N_aload_n hX 1 dX11_init_137 rfl rfl ?_
    refine N_get (k := 0) hX dX11_init_138 cfl_X11_70 rfl rfl ?_
    refine N_alenq (k := 1) hX 12 dX11_init_141 rfl (by decide) ?_
    refine N_geF hX 164 dX11_init_142 rfl (by decide) ?_
    refine N_aload_n hX 1 dX11_init_145 rfl rfl ?_
    refine N_get (k := 0) hX dX11_init_146 cfl_X11_70 rfl rfl ?_
    refine N_iload_n hX 0 dX11_init_149 rfl rfl ?_
    refine N_new (ci := 1) (fs := [.null, .null, .null, .null, .null, .null, .null, .null, .null, .int 0, .int 0, .int 0, .int 0, .int 0, .int 0, .int 0, .int 0, .int 0]) hX dX11_init_150 cl_X11_16 inst_X1 ini_X1 rfl (fun j hj => dv_X1 j hj) ⟨by decide, by decide⟩ (fun q13 => ?_)
    refine N_dup hX dX11_init_153 rfl ?_
    refine N_call (mc := 10) (ms := 476) hX dX11_init_154 cwi_X11_18 rfl (CN_X1 X.1) (by decide) (by decide) rfl ⟨by decide, by decide⟩ rfl (fun w9 hw9 => ?_)
    obtain ⟨qs12, rfl⟩ := hw9
    refine N_astq (k := 1) hX [(h0, .inr (9, [.ref q0, .ref q1, .ref q2, .ref q3, .ref q4, .ref q5, .ref q6, .ref q7, .ref q8, .ref q9, .ref q10, .int 0, .ref q11, .int 0, .int 0])), (q11, .inl (X.1.2.2 4, 12, .inr (.inr (.inr (.inr (va_up (va_up (fun _ => none) 0 (some q12)) 1 (some q13)))))))] dX11_init_157 rfl (List.mem_append_right _ List.mem_cons_self) (by decide) rfl ?_
    refine N_iinc hX 2 0 [(1, .int 2), (0, .ref h0)] dX11_init_158 rfl (by decide) rfl rfl ?_
    refine N_goto hX 136 dX11_init_161 rfl ?_
    refine N_iload_n hX 0 dX11_init_136 rfl rfl ?_
    refine N_aload_n hX 1 dX11_init_137 rfl rfl ?_
    refine N_get (k := 0) hX dX11_init_138 cfl_X11_70 rfl rfl ?_
    refine N_alenq (k := 1) hX 12 dX11_init_141 rfl (by decide) ?_
    refine N_geF hX 164 dX11_init_142 rfl (by decide) ?_
    refine N_aload_n hX 1 dX11_init_145 rfl rfl ?_
    refine N_get (k := 0) hX dX11_init_146 cfl_X11_70 rfl rfl ?_
    refine N_iload_n hX 0 dX11_init_149 rfl rfl ?_
    refine N_new (ci := 1) (fs := [.null, .null, .null, .null, .null, .null, .null, .null, .null, .int 0, .int 0, .int 0, .int 0, .int 0, .int 0, .int 0, .int 0, .int 0]) hX dX11_init_150 cl_X11_16 inst_X1 ini_X1 rfl (fun j hj => dv_X1 j hj) ⟨by decide, by decide⟩ (fun q14 => ?_)
    refine N_dup hX dX11_init_153 rfl ?_
    refine N_call (mc := 10) (ms := 476) hX dX11_init_154 cwi_X11_18 rfl (CN_X1 X.1) (by decide) (by decide) rfl ⟨by decide, by decide⟩ rfl (fun w9 hw9 => ?_)
    obtain ⟨qs13, rfl⟩ := hw9
    refine N_astq (k := 1) hX [(h0, .inr (9, [.ref q0, .ref q1, .ref q2, .ref q3, .ref q4, .ref q5, .ref q6, .ref q7, .ref q8, .ref q9, .ref q10, .int 0, .ref q11, .int 0, .int 0])), (q11, .inl (X.1.2.2 4, 12, .inr (.inr (.inr (.inr (va_up (va_up (va_up (fun _ => none) 0 (some q12)) 1 (some q13)) 2 (some q14)))))))] dX11_init_157 rfl (List.mem_append_right _ List.mem_cons_self) (by decide) rfl ?_
    refine N_iinc hX 3 0 [(1, .int 3), (0, .ref h0)] dX11_init_158 rfl (by decide) rfl rfl ?_
    refine N_goto hX 136 dX11_init_161 rfl ?_
    refine N_iload_n hX 0 dX11_init_136 rfl rfl ?_
    refine N_aload_n hX 1 dX11_init_137 rfl rfl ?_
    refine N_get (k := 0) hX dX11_init_138 cfl_X11_70 rfl rfl ?_
    refine N_alenq (k := 1) hX 12 dX11_init_141 rfl (by decide) ?_
    refine N_geF hX 164 dX11_init_142 rfl (by decide) ?_
    refine N_aload_n hX 1 dX11_init_145 rfl rfl ?_
    refine N_get (k := 0) hX dX11_init_146 cfl_X11_70 rfl rfl ?_
    refine N_iload_n hX 0 dX11_init_149 rfl rfl ?_
    refine N_new (ci := 1) (fs := [.null, .null, .null, .null, .null, .null, .null, .null, .null, .int 0, .int 0, .int 0, .int 0, .int 0, .int 0, .int 0, .int 0, .int 0]) hX dX11_init_150 cl_X11_16 inst_X1 ini_X1 rfl (fun j hj => dv_X1 j hj) ⟨by decide, by decide⟩ (fun q15 => ?_)
    refine N_dup hX dX11_init_153 rfl ?_
    refine N_call (mc := 10) (ms := 476) hX dX11_init_154 cwi_X11_18 rfl (CN_X1 X.1) (by decide) (by decide) rfl ⟨by decide, by decide⟩ rfl (fun w9 hw9 => ?_)
    obtain ⟨qs14, rfl⟩ := hw9
    refine N_astq (k := 1) hX [(h0, .inr (9, [.ref q0, .ref q1, .ref q2, .ref q3, .ref q4, .ref q5, .ref q6, .ref q7, .ref q8, .ref q9, .ref q10, .int 0, .ref q11, .int 0, .int 0])), (q11, .inl (X.1.2.2 4, 12, .inr (.inr (.inr (.inr (va_up (va_up (va_up (va_up (fun _ => none) 0 (some q12)) 1 (some q13)) 2 (some q14)) 3 (some q15)))))))] dX11_init_157 rfl (List.mem_append_right _ List.mem_cons_self) (by decide) rfl ?_
    refine N_iinc hX 4 0 [(1, .int 4), (0, .ref h0)] dX11_init_158 rfl (by decide) rfl rfl ?_
    refine N_goto hX 136 dX11_init_161 rfl ?_
    refine N_iload_n hX 0 dX11_init_136 rfl rfl ?_
    refine N_aload_n hX 1 dX11_init_137 rfl rfl ?_
    refine N_get (k := 0) hX dX11_init_138 cfl_X11_70 rfl rfl ?_
    refine N_alenq (k := 1) hX 12 dX11_init_141 rfl (by decide) ?_
    refine N_geF hX 164 dX11_init_142 rfl (by decide) ?_
    refine N_aload_n hX 1 dX11_init_145 rfl rfl ?_
    refine N_get (k := 0) hX dX11_init_146 cfl_X11_70 rfl rfl ?_
    refine N_iload_n hX 0 dX11_init_149 rfl rfl ?_
    refine N_new (ci := 1) (fs := [.null, .null, .null, .null, .null, .null, .null, .null, .null, .int 0, .int 0, .int 0, .int 0, .int 0, .int 0, .int 0, .int 0, .int 0]) hX dX11_init_150 cl_X11_16 inst_X1 ini_X1 rfl (fun j hj => dv_X1 j hj) ⟨by decide, by decide⟩ (fun q16 => ?_)
    refine N_dup hX dX11_init_153 rfl ?_
    refine N_call (mc := 10) (ms := 476) hX dX11_init_154 cwi_X11_18 rfl (CN_X1 X.1) (by decide) (by decide) rfl ⟨by decide, by decide⟩ rfl (fun w9 hw9 => ?_)
    obtain ⟨qs15, rfl⟩ := hw9
    refine N_astq (k := 1) hX [(h0, .inr (9, [.ref q0, .ref q1, .ref q2, .ref q3, .ref q4, .ref q5, .ref q6, .ref q7, .ref q8, .ref q9, .ref q10, .int 0, .ref q11, .int 0, .int 0])), (q11, .inl (X.1.2.2 4, 12, .inr (.inr (.inr (.inr (va_up (va_up (va_up (va_up (va_up (fun _ => none) 0 (some q12)) 1 (some q13)) 2 (some q14)) 3 (some q15)) 4 (some q16)))))))] dX11_init_157 rfl (List.mem_append_right _ List.mem_cons_self) (by decide) rfl ?_
    refine N_iinc hX 5 0 [(1, .int 5), (0, .ref h0)] dX11_init_158 rfl (by decide) rfl rfl ?_
    refine N_goto hX 136 dX11_init_161 rfl ?_
    refine N_iload_n hX 0 dX11_init_136 rfl rfl ?_
    refine N_aload_n hX 1 dX11_init_137 rfl rfl ?_
    refine N_get (k := 0) hX dX11_init_138 cfl_X11_70 rfl rfl ?_
    refine N_alenq (k := 1) hX 12 dX11_init_141 rfl (by decide) ?_
    refine N_geF hX 164 dX11_init_142 rfl (by decide) ?_
    refine N_aload_n hX 1 dX11_init_145 rfl rfl ?_
    refine N_get (k := 0) hX dX11_init_146 cfl_X11_70 rfl rfl ?_
    refine N_iload_n hX 0 dX11_init_149 rfl rfl ?_
    refine N_new (ci := 1) (fs := [.null, .null, .null, .null, .null, .null, .null, .null, .null, .int 0, .int 0, .int 0, .int 0, .int 0, .int 0, .int 0, .int 0, .int 0]) hX dX11_init_150 cl_X11_16 inst_X1 ini_X1 rfl (fun j hj => dv_X1 j hj) ⟨by decide, by decide⟩ (fun q17 => ?_)
    refine N_dup hX dX11_init_153 rfl ?_
    refine N_call (mc := 10) (ms := 476) hX dX11_init_154 cwi_X11_18 rfl (CN_X1 X.1) (by decide) (by decide) rfl ⟨by decide, by decide⟩ rfl (fun w9 hw9 => ?_)
    obtain ⟨qs16, rfl⟩ := hw9
    refine N_astq (k := 1) hX [(h0, .inr (9, [.ref q0, .ref q1, .ref q2, .ref q3, .ref q4, .ref q5, .ref q6, .ref q7, .ref q8, .ref q9, .ref q10, .int 0, .ref q11, .int 0, .int 0])), (q11, .inl (X.1.2.2 4, 12, .inr (.inr (.inr (.inr (va_up (va_up (va_up (va_up (va_up (va_up (fun _ => none) 0 (some q12)) 1 (some q13)) 2 (some q14)) 3 (some q15)) 4 (some q16)) 5 (some q17)))))))] dX11_init_157 rfl (List.mem_append_right _ List.mem_cons_self) (by decide) rfl ?_
    refine N_iinc hX 6 0 [(1, .int 6), (0, .ref h0)] dX11_init_158 rfl (by decide) rfl rfl ?_
    refine N_goto hX 136 dX11_init_161 rfl ?_
    refine N_iload_n hX 0 dX11_init_136 rfl rfl ?_
    refine N_aload_n hX 1 dX11_init_137 rfl rfl ?_
    refine N_get (k := 0) hX dX11_init_138 cfl_X11_70 rfl rfl ?_
    refine N_alenq (k := 1) hX 12 dX11_init_141 rfl (by decide) ?_
    refine N_geF hX 164 dX11_init_142 rfl (by decide) ?_
    refine N_aload_n hX 1 dX11_init_145 rfl rfl ?_
    refine N_get (k := 0) hX dX11_init_146 cfl_X11_70 rfl rfl ?_
    refine N_iload_n hX 0 dX11_init_149 rfl rfl ?_
    refine N_new (ci := 1) (fs := [.null, .null, .null, .null, .null, .null, .null, .null, .null, .int 0, .int 0, .int 0, .int 0, .int 0, .int 0, .int 0, .int 0, .int 0]) hX dX11_init_150 cl_X11_16 inst_X1 ini_X1 rfl (fun j hj => dv_X1 j hj) ⟨by decide, by decide⟩ (fun q18 => ?_)
    refine N_dup hX dX11_init_153 rfl ?_
    refine N_call (mc := 10) (ms := 476) hX dX11_init_154 cwi_X11_18 rfl (CN_X1 X.1) (by decide) (by decide) rfl ⟨by decide, by decide⟩ rfl (fun w9 hw9 => ?_)
    obtain ⟨qs17, rfl⟩ := hw9
    refine N_astq (k := 1) hX [(h0, .inr (9, [.ref q0, .ref q1, .ref q2, .ref q3, .ref q4, .ref q5, .ref q6, .ref q7, .ref q8, .ref q9, .ref q10, .int 0, .ref q11, .int 0, .int 0])), (q11, .inl (X.1.2.2 4, 12, .inr (.inr (.inr (.inr (va_up (va_up (va_up (va_up (va_up (va_up (va_up (fun _ => none) 0 (some q12)) 1 (some q13)) 2 (some q14)) 3 (some q15)) 4 (some q16)) 5 (some q17)) 6 (some q18)))))))] dX11_init_157 rfl (List.mem_append_right _ List.mem_cons_self) (by decide) rfl ?_
    refine N_iinc hX 7 0 [(1, .int 7), (0, .ref h0)] dX11_init_158 rfl (by decide) rfl rfl ?_
    refine N_goto hX 136 dX11_init_161 rfl ?_
    refine N_iload_n hX 0 dX11_init_136 rfl rfl ?_
    refine N_aload_n hX 1 dX11_init_137 rfl rfl ?_
    refine N_get (k := 0) hX dX11_init_138 cfl_X11_70 rfl rfl ?_
    refine N_alenq (k := 1) hX 12 dX11_init_141 rfl (by decide) ?_
    refine N_geF hX 164 dX11_init_142 rfl (by decide) ?_
    refine N_aload_n hX 1 dX11_init_145 rfl rfl ?_
    refine N_get (k := 0) hX dX11_init_146 cfl_X11_70 rfl rfl ?_
    refine N_iload_n hX 0 dX11_init_149 rfl rfl ?_
    refine N_new (ci := 1) (fs := [.null, .null, .null, .null, .null, .null, .null, .null, .null, .int 0, .int 0, .int 0, .int 0, .int 0, .int 0, .int 0, .int 0, .int 0]) hX dX11_init_150 cl_X11_16 inst_X1 ini_X1 rfl (fun j hj => dv_X1 j hj) ⟨by decide, by decide⟩ (fun q19 => ?_)
    refine N_dup hX dX11_init_153 rfl ?_
    refine N_call (mc := 10) (ms := 476) hX dX11_init_154 cwi_X11_18 rfl (CN_X1 X.1) (by decide) (by decide) rfl ⟨by decide, by decide⟩ rfl (fun w9 hw9 => ?_)
    obtain ⟨qs18, rfl⟩ := hw9
    refine N_astq (k := 1) hX [(h0, .inr (9, [.ref q0, .ref q1, .ref q2, .ref q3, .ref q4, .ref q5, .ref q6, .ref q7, .ref q8, .ref q9, .ref q10, .int 0, .ref q11, .int 0, .int 0])), (q11, .inl (X.1.2.2 4, 12, .inr (.inr (.inr (.inr (va_up (va_up (va_up (va_up (va_up (va_up (va_up (va_up (fun _ => none) 0 (some q12)) 1 (some q13)) 2 (some q14)) 3 (some q15)) 4 (some q16)) 5 (some q17)) 6 (some q18)) 7 (some q19)))))))] dX11_init_157 rfl (List.mem_append_right _ List.mem_cons_self) (by decide) rfl ?_
    refine N_iinc hX 8 0 [(1, .int 8), (0, .ref h0)] dX11_init_158 rfl (by decide) rfl rfl ?_
    refine N_goto hX 136 dX11_init_161 rfl ?_
    refine N_iload_n hX 0 dX11_init_136 rfl rfl ?_
    refine N_aload_n hX 1 dX11_init_137 rfl rfl ?_
    refine N_get (k := 0) hX dX11_init_138 cfl_X11_70 rfl rfl ?_
    refine N_alenq (k := 1) hX 12 dX11_init_141 rfl (by decide) ?_
    refine N_geF hX 164 dX11_init_142 rfl (by decide) ?_
    refine N_aload_n hX 1 dX11_init_145 rfl rfl ?_
    refine N_get (k := 0) hX dX11_init_146 cfl_X11_70 rfl rfl ?_
    refine N_iload_n hX 0 dX11_init_149 rfl rfl ?_
    refine N_new (ci := 1) (fs := [.null, .null, .null, .null, .null, .null, .null, .null, .null, .int 0, .int 0, .int 0, .int 0, .int 0, .int 0, .int 0, .int 0, .int 0]) hX dX11_init_150 cl_X11_16 inst_X1 ini_X1 rfl (fun j hj => dv_X1 j hj) ⟨by decide, by decide⟩ (fun q20 => ?_)
    refine N_dup hX dX11_init_153 rfl ?_
    refine N_call (mc := 10) (ms := 476) hX dX11_init_154 cwi_X11_18 rfl (CN_X1 X.1) (by decide) (by decide) rfl ⟨by decide, by decide⟩ rfl (fun w9 hw9 => ?_)
    obtain ⟨qs19, rfl⟩ := hw9
    refine N_astq (k := 1) hX [(h0, .inr (9, [.ref q0, .ref q1, .ref q2, .ref q3, .ref q4, .ref q5, .ref q6, .ref q7, .ref q8, .ref q9, .ref q10, .int 0, .ref q11, .int 0, .int 0])), (q11, .inl (X.1.2.2 4, 12, .inr (.inr (.inr (.inr (va_up (va_up (va_up (va_up (va_up (va_up (va_up (va_up (va_up (fun _ => none) 0 (some q12)) 1 (some q13)) 2 (some q14)) 3 (some q15)) 4 (some q16)) 5 (some q17)) 6 (some q18)) 7 (some q19)) 8 (some q20)))))))] dX11_init_157 rfl (List.mem_append_right _ List.mem_cons_self) (by decide) rfl ?_
    refine N_iinc hX 9 0 [(1, .int 9), (0, .ref h0)] dX11_init_158 rfl (by decide) rfl rfl ?_
    refine N_goto hX 136 dX11_init_161 rfl ?_
    refine N_iload_n hX 0 dX11_init_136 rfl rfl ?_
    refine N_aload_n hX 1 dX11_init_137 rfl rfl ?_
    refine N_get (k := 0) hX dX11_init_138 cfl_X11_70 rfl rfl ?_
    refine N_alenq (k := 1) hX 12 dX11_init_141 rfl (by decide) ?_
    refine N_geF hX 164 dX11_init_142 rfl (by decide) ?_
    refine N_aload_n hX 1 dX11_init_145 rfl rfl ?_
    refine N_get (k := 0) hX dX11_init_146 cfl_X11_70 rfl rfl ?_
    refine N_iload_n hX 0 dX11_init_149 rfl rfl ?_
    refine N_new (ci := 1) (fs := [.null, .null, .null, .null, .null, .null, .null, .null, .null, .int 0, .int 0, .int 0, .int 0, .int 0, .int 0, .int 0, .int 0, .int 0]) hX dX11_init_150 cl_X11_16 inst_X1 ini_X1 rfl (fun j hj => dv_X1 j hj) ⟨by decide, by decide⟩ (fun q21 => ?_)
    refine N_dup hX dX11_init_153 rfl ?_
    refine N_call (mc := 10) (ms := 476) hX dX11_init_154 cwi_X11_18 rfl (CN_X1 X.1) (by decide) (by decide) rfl ⟨by decide, by decide⟩ rfl (fun w9 hw9 => ?_)
    obtain ⟨qs20, rfl⟩ := hw9
    refine N_astq (k := 1) hX [(h0, .inr (9, [.ref q0, .ref q1, .ref q2, .ref q3, .ref q4, .ref q5, .ref q6, .ref q7, .ref q8, .ref q9, .ref q10, .int 0, .ref q11, .int 0, .int 0])), (q11, .inl (X.1.2.2 4, 12, .inr (.inr (.inr (.inr (va_up (va_up (va_up (va_up (va_up (va_up (va_up (va_up (va_up (va_up (fun _ => none) 0 (some q12)) 1 (some q13)) 2 (some q14)) 3 (some q15)) 4 (some q16)) 5 (some q17)) 6 (some q18)) 7 (some q19)) 8 (some q20)) 9 (some q21)))))))] dX11_init_157 rfl (List.mem_append_right _ List.mem_cons_self) (by decide) rfl ?_
    refine N_iinc hX 10 0 [(1, .int 10), (0, .ref h0)] dX11_init_158 rfl (by decide) rfl rfl ?_
    refine N_goto hX 136 dX11_init_161 rfl ?_
    refine N_iload_n hX 0 dX11_init_136 rfl rfl ?_
    refine N_aload_n hX 1 dX11_init_137 rfl rfl ?_
    refine N_get (k := 0) hX dX11_init_138 cfl_X11_70 rfl rfl ?_
    refine N_alenq (k := 1) hX 12 dX11_init_141 rfl (by decide) ?_
    refine N_geF hX 164 dX11_init_142 rfl (by decide) ?_
    refine N_aload_n hX 1 dX11_init_145 rfl rfl ?_
    refine N_get (k := 0) hX dX11_init_146 cfl_X11_70 rfl rfl ?_
    refine N_iload_n hX 0 dX11_init_149 rfl rfl ?_
    refine N_new (ci := 1) (fs := [.null, .null, .null, .null, .null, .null, .null, .null, .null, .int 0, .int 0, .int 0, .int 0, .int 0, .int 0, .int 0, .int 0, .int 0]) hX dX11_init_150 cl_X11_16 inst_X1 ini_X1 rfl (fun j hj => dv_X1 j hj) ⟨by decide, by decide⟩ (fun q22 => ?_)
    refine N_dup hX dX11_init_153 rfl ?_
    refine N_call (mc := 10) (ms := 476) hX dX11_init_154 cwi_X11_18 rfl (CN_X1 X.1) (by decide) (by decide) rfl ⟨by decide, by decide⟩ rfl (fun w9 hw9 => ?_)
    obtain ⟨qs21, rfl⟩ := hw9
    refine N_astq (k := 1) hX [(h0, .inr (9, [.ref q0, .ref q1, .ref q2, .ref q3, .ref q4, .ref q5, .ref q6, .ref q7, .ref q8, .ref q9, .ref q10, .int 0, .ref q11, .int 0, .int 0])), (q11, .inl (X.1.2.2 4, 12, .inr (.inr (.inr (.inr (va_up (va_up (va_up (va_up (va_up (va_up (va_up (va_up (va_up (va_up (va_up (fun _ => none) 0 (some q12)) 1 (some q13)) 2 (some q14)) 3 (some q15)) 4 (some q16)) 5 (some q17)) 6 (some q18)) 7 (some q19)) 8 (some q20)) 9 (some q21)) 10 (some q22)))))))] dX11_init_157 rfl (List.mem_append_right _ List.mem_cons_self) (by decide) rfl ?_
    refine N_iinc hX 11 0 [(1, .int 11), (0, .ref h0)] dX11_init_158 rfl (by decide) rfl rfl ?_
    refine N_goto hX 136 dX11_init_161 rfl ?_
    refine N_iload_n hX 0 dX11_init_136 rfl rfl ?_
    refine N_aload_n hX 1 dX11_init_137 rfl rfl ?_
    refine N_get (k := 0) hX dX11_init_138 cfl_X11_70 rfl rfl ?_
    refine N_alenq (k := 1) hX 12 dX11_init_141 rfl (by decide) ?_
    refine N_geF hX 164 dX11_init_142 rfl (by decide) ?_
    refine N_aload_n hX 1 dX11_init_145 rfl rfl ?_
    refine N_get (k := 0) hX dX11_init_146 cfl_X11_70 rfl rfl ?_
    refine N_iload_n hX 0 dX11_init_149 rfl rfl ?_
    refine N_new (ci := 1) (fs := [.null, .null, .null, .null, .null, .null, .null, .null, .null, .int 0, .int 0, .int 0, .int 0, .int 0, .int 0, .int 0, .int 0, .int 0]) hX dX11_init_150 cl_X11_16 inst_X1 ini_X1 rfl (fun j hj => dv_X1 j hj) ⟨by decide, by decide⟩ (fun q23 => ?_)
    refine N_dup hX dX11_init_153 rfl ?_
    refine N_call (mc := 10) (ms := 476) hX dX11_init_154 cwi_X11_18 rfl (CN_X1 X.1) (by decide) (by decide) rfl ⟨by decide, by decide⟩ rfl (fun w9 hw9 => ?_)
    obtain ⟨qs22, rfl⟩ := hw9
    refine N_astq (k := 1) hX [(h0, .inr (9, [.ref q0, .ref q1, .ref q2, .ref q3, .ref q4, .ref q5, .ref q6, .ref q7, .ref q8, .ref q9, .ref q10, .int 0, .ref q11, .int 0, .int 0])), (q11, .inl (X.1.2.2 4, 12, .inr (.inr (.inr (.inr (va_up (va_up (va_up (va_up (va_up (va_up (va_up (va_up (va_up (va_up (va_up (va_up (fun _ => none) 0 (some q12)) 1 (some q13)) 2 (some q14)) 3 (some q15)) 4 (some q16)) 5 (some q17)) 6 (some q18)) 7 (some q19)) 8 (some q20)) 9 (some q21)) 10 (some q22)) 11 (some q23)))))))] dX11_init_157 rfl (List.mem_append_right _ List.mem_cons_self) (by decide) rfl ?_
    refine N_iinc hX 12 0 [(1, .int 12), (0, .ref h0)] dX11_init_158 rfl (by decide) rfl rfl ?_
    refine N_goto hX 136 dX11_init_161 rfl ?_
    refine N_iload_n hX 0 dX11_init_136 rfl rfl ?_
    refine N_aload_n hX 1 dX11_init_137 rfl rfl ?_
    refine N_get (k := 0) hX dX11_init_138 cfl_X11_70 rfl rfl ?_
    refine N_alenq (k := 1) hX 12 dX11_init_141 rfl (by decide) ?_
    refine N_geT hX 164 dX11_init_142 rfl (by decide) ?_
    exact N_vret hX dX11_init_164 (Post := fun ws => ∃ qs : Nat → Nat, ws = sh_X11 X.1.2.2 h0 qs) ⟨fun i => if i < 24 then [q0, q1, q2, q3, q4, q5, q6, q7, q8, q9, q10, q11, q12, q13, q14, q15, q16, q17, q18, q19, q20, q21, q22, q23].getD i 0 else if i < 25 then qs0 (i - 24) else if i < 35 then qs1 (i - 25) else if i < 45 then qs2 (i - 35) else if i < 52 then qs3 (i - 45) else if i < 59 then qs4 (i - 52) else if i < 69 then qs5 (i - 59) else if i < 138 then qs6 (i - 69) else if i < 141 then qs7 (i - 138) else if i < 144 then qs8 (i - 141) else if i < 154 then qs9 (i - 144) else if i < 161 then qs10 (i - 154) else if i < 171 then qs11 (i - 161) else if i < 181 then qs12 (i - 171) else if i < 191 then qs13 (i - 181) else if i < 201 then qs14 (i - 191) else if i < 211 then qs15 (i - 201) else if i < 221 then qs16 (i - 211) else if i < 231 then qs17 (i - 221) else if i < 241 then qs18 (i - 231) else if i < 251 then qs19 (i - 241) else if i < 261 then qs20 (i - 251) else if i < 271 then qs21 (i - 261) else qs22 (i - 271), (by
      unfold sh_X11
      rfl)⟩ (by decide) (by decide))
set_option maxRecDepth 100000 in
set_option maxHeartbeats 1000000 in
theorem CN_X12 (g : NG) : CtN g 2 yX12_init cX12_init 1 10 [.int 0, .null, .null, .null, .null, .null, .int 0, .int 0, .null, .null, .null, .int 0, .int 0, .int 0, .int 0, .int 0, .int 0, .null, .int 0, .null, .int 0, .int 0, .int 0, .null, .null, .null, .null, .null, .null] 16 14484 (fun h0 ws => ∃ qs : Nat → Nat, ws = sh_X12 g.2.2 h0 qs) :=
  CtN_of RX12 rfl (by decide) rfl rfl (fun X A h0 hX1 hX hin => by
    subst hX1
    show JN X _ _ A 0 0 0 [(0, .ref h0)] [] ([(h0, .inr (10, [.int 0, .null, .null, .null, .null, .null, .int 0, .int 0, .null, .null, .null, .int 0, .int 0, .int 0, .int 0, .int 0, .int 0, .null, .int 0, .null, .int 0, .int 0, .int 0, .null, .null, .null, .null, .null, .null]))] ++ [])
    refine N_aload_n hX 0 dX12_init_0 rfl rfl ?_
    refine N_objInit hX dX12_init_1 ow_X12.1 ow_X12.2.1 ow_X12.2.2 ⟨by decide, by decide⟩ rfl ?_
    refine N_aload_n hX 0 dX12_init_4 rfl rfl ?_
    refine N_sipush hX 2190 dX12_init_5 rfl ?_
    refine N_newarr (a0 := (2190, .inl fun _ => 0)) hX 0 2190 dX12_init_8 aw9_0 rfl (fun _ h => by cases h) (fun _ => rfl) (by decide) (by decide) (by decide) ⟨by decide, by decide⟩ (fun q0 => ?_)
    refine N_track ?_
    refine N_putF (k := 0) hX hin [(h0, .inr (10, [.int 0, .ref q0, .null, .null, .null, .null, .int 0, .int 0, .null, .null, .null, .int 0, .int 0, .int 0, .int 0, .int 0, .int 0, .null, .int 0, .null, .int 0, .int 0, .int 0, .null, .null, .null, .null, .null, .null])), (q0, .inl (X.1.2.2 0, 2190, .inl (fun _ => 0)))] dX12_init_10 cfl_X12_13 fwf_10_1 rfl rfl rfl rfl rfl ?_
    refine N_aload_n hX 0 dX12_init_13 rfl rfl ?_
    refine N_sipush hX 1341 dX12_init_14 rfl ?_
    refine N_newarr (a0 := (1341, .inl fun _ => 0)) hX 0 1341 dX12_init_17 aw9_0 rfl (fun _ h => by cases h) (fun _ => rfl) (by decide) (by decide) (by decide) ⟨by decide, by decide⟩ (fun q1 => ?_)
    refine N_putF (k := 0) hX hin [(h0, .inr (10, [.int 0, .ref q0, .ref q1, .null, .null, .null, .int 0, .int 0, .null, .null, .null, .int 0, .int 0, .int 0, .int 0, .int 0, .int 0, .null, .int 0, .null, .int 0, .int 0, .int 0, .null, .null, .null, .null, .null, .null])), (q0, .inl (X.1.2.2 0, 2190, .inl (fun _ => 0)))] dX12_init_19 cfl_X12_17 fwf_10_2 rfl rfl rfl rfl rfl ?_
    refine N_aload_n hX 0 dX12_init_22 rfl rfl ?_
    refine N_sipush hX 1341 dX12_init_23 rfl ?_
    refine N_newarr (a0 := (1341, .inl fun _ => 0)) hX 0 1341 dX12_init_26 aw9_0 rfl (fun _ h => by cases h) (fun _ => rfl) (by decide) (by decide) (by decide) ⟨by decide, by decide⟩ (fun q2 => ?_)
    refine N_putF (k := 0) hX hin [(h0, .inr (10, [.int 0, .ref q0, .ref q1, .ref q2, .null, .null, .int 0, .int 0, .null, .null, .null, .int 0, .int 0, .int 0, .int 0, .int 0, .int 0, .null, .int 0, .null, .int 0, .int 0, .int 0, .null, .null, .null, .null, .null, .null])), (q0, .inl (X.1.2.2 0, 2190, .inl (fun _ => 0)))] dX12_init_28 cfl_X12_20 fwf_10_3 rfl rfl rfl rfl rfl ?_
    refine N_aload_n hX 0 dX12_init_31 rfl rfl ?_
    refine N_sipush hX 492 dX12_init_32 rfl ?_
    refine N_newarr (a0 := (492, .inl fun _ => 0)) hX 0 492 dX12_init_35 aw9_0 rfl (fun _ h => by cases h) (fun _ => rfl) (by decide) (by decide) (by decide) ⟨by decide, by decide⟩ (fun q3 => ?_)
    refine N_putF (k := 0) hX hin [(h0, .inr (10, [.int 0, .ref q0, .ref q1, .ref q2, .ref q3, .null, .int 0, .int 0, .null, .null, .null, .int 0, .int 0, .int 0, .int 0, .int 0, .int 0, .null, .int 0, .null, .int 0, .int 0, .int 0, .null, .null, .null, .null, .null, .null])), (q0, .inl (X.1.2.2 0, 2190, .inl (fun _ => 0)))] dX12_init_37 cfl_X12_23 fwf_10_4 rfl rfl rfl rfl rfl ?_
    refine N_aload_n hX 0 dX12_init_40 rfl rfl ?_
    refine N_sipush hX 5904 dX12_init_41 rfl ?_
    refine N_newarr (a0 := (5904, .inl fun _ => 0)) hX 0 5904 dX12_init_44 aw9_0 rfl (fun _ h => by cases h) (fun _ => rfl) (by decide) (by decide) (by decide) ⟨by decide, by decide⟩ (fun q4 => ?_)
    refine N_putF (k := 0) hX hin [(h0, .inr (10, [.int 0, .ref q0, .ref q1, .ref q2, .ref q3, .ref q4, .int 0, .int 0, .null, .null, .null, .int 0, .int 0, .int 0, .int 0, .int 0, .int 0, .null, .int 0, .null, .int 0, .int 0, .int 0, .null, .null, .null, .null, .null, .null])), (q0, .inl (X.1.2.2 0, 2190, .inl (fun _ => 0)))] dX12_init_46 cfl_X12_26 fwf_10_5 rfl rfl rfl rfl rfl ?_
    refine N_aload_n hX 0 dX12_init_49 rfl rfl ?_
    refine N_bipush hX 8 dX12_init_50 rfl ?_
    refine N_newarr (a0 := (8, .inl fun _ => 0)) hX 0 8 dX12_init_52 aw9_0 rfl (fun _ h => by cases h) (fun _ => rfl) (by decide) (by decide) (by decide) ⟨by decide, by decide⟩ (fun q5 => ?_)
    refine N_putF (k := 0) hX hin [(h0, .inr (10, [.int 0, .ref q0, .ref q1, .ref q2, .ref q3, .ref q4, .int 0, .int 0, .ref q5, .null, .null, .int 0, .int 0, .int 0, .int 0, .int 0, .int 0, .null, .int 0, .null, .int 0, .int 0, .int 0, .null, .null, .null, .null, .null, .null])), (q0, .inl (X.1.2.2 0, 2190, .inl (fun _ => 0)))] dX12_init_54 cfl_X12_29 fwf_10_8 rfl rfl rfl rfl rfl ?_
    refine N_aload_n hX 0 dX12_init_57 rfl rfl ?_
    refine N_bipush hX 8 dX12_init_58 rfl ?_
    refine N_newarr (a0 := (8, .inl fun _ => 0)) hX 0 8 dX12_init_60 aw9_0 rfl (fun _ h => by cases h) (fun _ => rfl) (by decide) (by decide) (by decide) ⟨by decide, by decide⟩ (fun q6 => ?_)
    refine N_putF (k := 0) hX hin [(h0, .inr (10, [.int 0, .ref q0, .ref q1, .ref q2, .ref q3, .ref q4, .int 0, .int 0, .ref q5, .ref q6, .null, .int 0, .int 0, .int 0, .int 0, .int 0, .int 0, .null, .int 0, .null, .int 0, .int 0, .int 0, .null, .null, .null, .null, .null, .null])), (q0, .inl (X.1.2.2 0, 2190, .inl (fun _ => 0)))] dX12_init_62 cfl_X12_32 fwf_10_9 rfl rfl rfl rfl rfl ?_
    refine N_aload_n hX 0 dX12_init_65 rfl rfl ?_
    refine N_sipush hX 400 dX12_init_66 rfl ?_
    refine N_newarr (a0 := (400, .inl fun _ => 0)) hX 1 400 dX12_init_69 aw9_1 rfl (fun _ h => by cases h) (fun _ => rfl) (by decide) (by decide) (by decide) ⟨by decide, by decide⟩ (fun q7 => ?_)
    refine N_putF (k := 0) hX hin [(h0, .inr (10, [.int 0, .ref q0, .ref q1, .ref q2, .ref q3, .ref q4, .int 0, .int 0, .ref q5, .ref q6, .ref q7, .int 0, .int 0, .int 0, .int 0, .int 0, .int 0, .null, .int 0, .null, .int 0, .int 0, .int 0, .null, .null, .null, .null, .null, .null])), (q0, .inl (X.1.2.2 0, 2190, .inl (fun _ => 0)))] dX12_init_71 cfl_X12_35 fwf_10_10 rfl rfl rfl rfl rfl ?_
    refine N_aload_n hX 0 dX12_init_74 rfl rfl ?_
    refine N_iconst hX (-1) dX12_init_75 rfl ?_
    refine N_put (k := 0) hX [(h0, .inr (10, [.int 0, .ref q0, .ref q1, .ref q2, .ref q3, .ref q4, .int 0, .int 0, .ref q5, .ref q6, .ref q7, .int 0, .int 0, .int 0, .int 0, .int 0, .int (-1), .null, .int 0, .null, .int 0, .int 0, .int 0, .null, .null, .null, .null, .null, .null])), (q0, .inl (X.1.2.2 0, 2190, .inl (fun _ => 0)))] dX12_init_76 cfl_X12_39 cfw_10_16 rfl rfl rfl rfl rfl ?_
    refine N_aload_n hX 0 dX12_init_79 rfl rfl ?_
    refine N_iconst hX 5 dX12_init_80 rfl ?_
    refine N_newarr (a0 := (5, .inl fun _ => 0)) hX 0 5 dX12_init_81 aw9_0 rfl (fun _ h => by cases h) (fun _ => rfl) (by decide) (by decide) (by decide) ⟨by decide, by decide⟩ (fun q8 => ?_)
    refine N_putF (k := 0) hX hin [(h0, .inr (10, [.int 0, .ref q0, .ref q1, .ref q2, .ref q3, .ref q4, .int 0, .int 0, .ref q5, .ref q6, .ref q7, .int 0, .int 0, .int 0, .int 0, .int 0, .int (-1), .ref q8, .int 0, .null, .int 0, .int 0, .int 0, .null, .null, .null, .null, .null, .null])), (q0, .inl (X.1.2.2 0, 2190, .inl (fun _ => 0)))] dX12_init_83 cfl_X12_42 fwf_10_17 rfl rfl rfl rfl rfl ?_
    refine N_aload_n hX 0 dX12_init_86 rfl rfl ?_
    refine N_sipush hX 400 dX12_init_87 rfl ?_
    refine N_newarr (a0 := (400, .inl fun _ => 0)) hX 0 400 dX12_init_90 aw9_0 rfl (fun _ h => by cases h) (fun _ => rfl) (by decide) (by decide) (by decide) ⟨by decide, by decide⟩ (fun q9 => ?_)
    refine N_putF (k := 0) hX hin [(h0, .inr (10, [.int 0, .ref q0, .ref q1, .ref q2, .ref q3, .ref q4, .int 0, .int 0, .ref q5, .ref q6, .ref q7, .int 0, .int 0, .int 0, .int 0, .int 0, .int (-1), .ref q8, .int 0, .ref q9, .int 0, .int 0, .int 0, .null, .null, .null, .null, .null, .null])), (q0, .inl (X.1.2.2 0, 2190, .inl (fun _ => 0)))] dX12_init_92 cfl_X12_45 fwf_10_19 rfl rfl rfl rfl rfl ?_
    refine N_aload_n hX 0 dX12_init_95 rfl rfl ?_
    refine N_iconst hX 5 dX12_init_96 rfl ?_
    refine N_newarr (a0 := (5, .inl fun _ => 0)) hX 0 5 dX12_init_97 aw9_0 rfl (fun _ h => by cases h) (fun _ => rfl) (by decide) (by decide) (by decide) ⟨by decide, by decide⟩ (fun q10 => ?_)
    refine N_putF (k := 0) hX hin [(h0, .inr (10, [.int 0, .ref q0, .ref q1, .ref q2, .ref q3, .ref q4, .int 0, .int 0, .ref q5, .ref q6, .ref q7, .int 0, .int 0, .int 0, .int 0, .int 0, .int (-1), .ref q8, .int 0, .ref q9, .int 0, .int 0, .int 0, .ref q10, .null, .null, .null, .null, .null])), (q0, .inl (X.1.2.2 0, 2190, .inl (fun _ => 0)))] dX12_init_99 cfl_X12_48 fwf_10_23 rfl rfl rfl rfl rfl ?_
    refine N_aload_n hX 0 dX12_init_102 rfl rfl ?_
    refine N_iconst hX 5 dX12_init_103 rfl ?_
    refine N_newarr (a0 := (5, .inl fun _ => 0)) hX 0 5 dX12_init_104 aw9_0 rfl (fun _ h => by cases h) (fun _ => rfl) (by decide) (by decide) (by decide) ⟨by decide, by decide⟩ (fun q11 => ?_)
    refine N_putF (k := 0) hX hin [(h0, .inr (10, [.int 0, .ref q0, .ref q1, .ref q2, .ref q3, .ref q4, .int 0, .int 0, .ref q5, .ref q6, .ref q7, .int 0, .int 0, .int 0, .int 0, .int 0, .int (-1), .ref q8, .int 0, .ref q9, .int 0, .int 0, .int 0, .ref q10, .ref q11, .null, .null, .null, .null])), (q0, .inl (X.1.2.2 0, 2190, .inl (fun _ => 0)))] dX12_init_106 cfl_X12_51 fwf_10_24 rfl rfl rfl rfl rfl ?_
    refine N_aload_n hX 0 dX12_init_109 rfl rfl ?_
    refine N_bipush hX 65 dX12_init_110 rfl ?_
    refine N_newarr (a0 := (65, .inl fun _ => 0)) hX 2 65 dX12_init_112 aw9_2 rfl (fun _ h => by cases h) (fun _ => rfl) (by decide) (by decide) (by decide) ⟨by decide, by decide⟩ (fun q12 => ?_)
    refine N_putF (k := 0) hX hin [(h0, .inr (10, [.int 0, .ref q0, .ref q1, .ref q2, .ref q3, .ref q4, .int 0, .int 0, .ref q5, .ref q6, .ref q7, .int 0, .int 0, .int 0, .int 0, .int 0, .int (-1), .ref q8, .int 0, .ref q9, .int 0, .int 0, .int 0, .ref q10, .ref q11, .ref q12, .null, .null, .null])), (q0, .inl (X.1.2.2 0, 2190, .inl (fun _ => 0)))] dX12_init_114 cfl_X12_54 fwf_10_25 rfl rfl rfl rfl rfl ?_
    refine N_aload_n hX 0 dX12_init_117 rfl rfl ?_
    refine N_sipush hX 520 dX12_init_118 rfl ?_
    refine N_newarr (a0 := (520, .inl fun _ => 0)) hX 0 520 dX12_init_121 aw9_0 rfl (fun _ h => by cases h) (fun _ => rfl) (by decide) (by decide) (by decide) ⟨by decide, by decide⟩ (fun q13 => ?_)
    refine N_putF (k := 0) hX hin [(h0, .inr (10, [.int 0, .ref q0, .ref q1, .ref q2, .ref q3, .ref q4, .int 0, .int 0, .ref q5, .ref q6, .ref q7, .int 0, .int 0, .int 0, .int 0, .int 0, .int (-1), .ref q8, .int 0, .ref q9, .int 0, .int 0, .int 0, .ref q10, .ref q11, .ref q12, .ref q13, .null, .null])), (q0, .inl (X.1.2.2 0, 2190, .inl (fun _ => 0)))] dX12_init_123 cfl_X12_58 fwf_10_26 rfl rfl rfl rfl rfl ?_
    refine N_aload_n hX 0 dX12_init_126 rfl rfl ?_
    refine N_bipush hX 8 dX12_init_127 rfl ?_
    refine N_newarr (a0 := (8, .inl fun _ => 0)) hX 0 8 dX12_init_129 aw9_0 rfl (fun _ h => by cases h) (fun _ => rfl) (by decide) (by decide) (by decide) ⟨by decide, by decide⟩ (fun q14 => ?_)
    refine N_putF (k := 0) hX hin [(h0, .inr (10, [.int 0, .ref q0, .ref q1, .ref q2, .ref q3, .ref q4, .int 0, .int 0, .ref q5, .ref q6, .ref q7, .int 0, .int 0, .int 0, .int 0, .int 0, .int (-1), .ref q8, .int 0, .ref q9, .int 0, .int 0, .int 0, .ref q10, .ref q11, .ref q12, .ref q13, .ref q14, .null])), (q0, .inl (X.1.2.2 0, 2190, .inl (fun _ => 0)))] dX12_init_131 cfl_X12_61 fwf_10_27 rfl rfl rfl rfl rfl ?_
    refine N_aload_n hX 0 dX12_init_134 rfl rfl ?_
    refine N_sipush hX 1792 dX12_init_135 rfl ?_
    refine N_newarr (a0 := (1792, .inl fun _ => 0)) hX 0 1792 dX12_init_138 aw9_0 rfl (fun _ h => by cases h) (fun _ => rfl) (by decide) (by decide) (by decide) ⟨by decide, by decide⟩ (fun q15 => ?_)
    refine N_putF (k := 0) hX hin [(h0, .inr (10, [.int 0, .ref q0, .ref q1, .ref q2, .ref q3, .ref q4, .int 0, .int 0, .ref q5, .ref q6, .ref q7, .int 0, .int 0, .int 0, .int 0, .int 0, .int (-1), .ref q8, .int 0, .ref q9, .int 0, .int 0, .int 0, .ref q10, .ref q11, .ref q12, .ref q13, .ref q14, .ref q15])), (q0, .inl (X.1.2.2 0, 2190, .inl (fun _ => 0)))] dX12_init_140 cfl_X12_64 fwf_10_28 rfl rfl rfl rfl rfl ?_
    refine N_aload_n hX 0 dX12_init_143 rfl rfl ?_
    refine N_get (k := 0) hX dX12_init_144 cfl_X12_13 rfl rfl ?_
    refine N_bipush hX 7 dX12_init_147 rfl ?_
    refine N_bipush hX 20 dX12_init_149 rfl ?_
    refine N_iast (k := 1) hX [(h0, .inr (10, [.int 0, .ref q0, .ref q1, .ref q2, .ref q3, .ref q4, .int 0, .int 0, .ref q5, .ref q6, .ref q7, .int 0, .int 0, .int 0, .int 0, .int 0, .int (-1), .ref q8, .int 0, .ref q9, .int 0, .int 0, .int 0, .ref q10, .ref q11, .ref q12, .ref q13, .ref q14, .ref q15])), (q0, .inl (X.1.2.2 0, 2190, .inl (upd (fun _ => 0) 7 20)))] dX12_init_151 rfl (by decide) rfl ?_
    refine N_aload_n hX 0 dX12_init_152 rfl rfl ?_
    refine N_get (k := 0) hX dX12_init_153 cfl_X12_13 rfl rfl ?_
    refine N_bipush hX 9 dX12_init_156 rfl ?_
    refine N_iconst hX 1 dX12_init_158 rfl ?_
    refine N_iast (k := 1) hX [(h0, .inr (10, [.int 0, .ref q0, .ref q1, .ref q2, .ref q3, .ref q4, .int 0, .int 0, .ref q5, .ref q6, .ref q7, .int 0, .int 0, .int 0, .int 0, .int 0, .int (-1), .ref q8, .int 0, .ref q9, .int 0, .int 0, .int 0, .ref q10, .ref q11, .ref q12, .ref q13, .ref q14, .ref q15])), (q0, .inl (X.1.2.2 0, 2190, .inl (upd (upd (fun _ => 0) 7 20) 9 1)))] dX12_init_159 rfl (by decide) rfl ?_
    exact N_vret hX dX12_init_160 (Post := fun ws => ∃ qs : Nat → Nat, ws = sh_X12 X.1.2.2 h0 qs) ⟨fun i => [q0, q1, q2, q3, q4, q5, q6, q7, q8, q9, q10, q11, q12, q13, q14, q15].getD i 0, rfl⟩ (by decide) (by decide))
