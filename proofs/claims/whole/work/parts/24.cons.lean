theorem dX0_init_0 : decode cX0_init 0 = .ok (.aload_n 0, 1) := by decide +kernel
theorem dX0_init_1 : decode cX0_init 1 = .ok (.invokespecial 3, 3) := by decide +kernel
theorem dX0_init_4 : decode cX0_init 4 = .ok (.aload_n 0, 1) := by decide +kernel
theorem dX0_init_5 : decode cX0_init 5 = .ok (.bipush 30, 2) := by decide +kernel
theorem dX0_init_7 : decode cX0_init 7 = .ok (.newarray .int, 2) := by decide +kernel
theorem dX0_init_9 : decode cX0_init 9 = .ok (.putfield 9, 3) := by decide +kernel
theorem dX0_init_12 : decode cX0_init 12 = .ok (.aload_n 0, 1) := by decide +kernel
theorem dX0_init_13 : decode cX0_init 13 = .ok (.bipush 30, 2) := by decide +kernel
theorem dX0_init_15 : decode cX0_init 15 = .ok (.newarray .int, 2) := by decide +kernel
theorem dX0_init_17 : decode cX0_init 17 = .ok (.putfield 15, 3) := by decide +kernel
theorem dX0_init_20 : decode cX0_init 20 = .ok (.aload_n 0, 1) := by decide +kernel
theorem dX0_init_21 : decode cX0_init 21 = .ok (.bipush 30, 2) := by decide +kernel
theorem dX0_init_23 : decode cX0_init 23 = .ok (.newarray .int, 2) := by decide +kernel
theorem dX0_init_25 : decode cX0_init 25 = .ok (.putfield 18, 3) := by decide +kernel
theorem dX0_init_28 : decode cX0_init 28 = .ok (.aload_n 0, 1) := by decide +kernel
theorem dX0_init_29 : decode cX0_init 29 = .ok (.bipush 10, 2) := by decide +kernel
theorem dX0_init_31 : decode cX0_init 31 = .ok (.newarray .int, 2) := by decide +kernel
theorem dX0_init_33 : decode cX0_init 33 = .ok (.putfield 21, 3) := by decide +kernel
theorem dX0_init_36 : decode cX0_init 36 = .ok (.aload_n 0, 1) := by decide +kernel
theorem dX0_init_37 : decode cX0_init 37 = .ok (.getfield 21, 3) := by decide +kernel
theorem dX0_init_40 : decode cX0_init 40 = .ok (.iconst (-1), 1) := by decide +kernel
theorem dX0_init_41 : decode cX0_init 41 = .ok (.invokestatic 24, 3) := by decide +kernel
theorem dX0_init_44 : decode cX0_init 44 = .ok (.return_, 1) := by decide +kernel
theorem dX1_init_0 : decode cX1_init 0 = .ok (.aload_n 0, 1) := by decide +kernel
theorem dX1_init_1 : decode cX1_init 1 = .ok (.invokespecial 3, 3) := by decide +kernel
theorem dX1_init_4 : decode cX1_init 4 = .ok (.aload_n 0, 1) := by decide +kernel
theorem dX1_init_5 : decode cX1_init 5 = .ok (.new 9, 3) := by decide +kernel
theorem dX1_init_8 : decode cX1_init 8 = .ok (.dup, 1) := by decide +kernel
theorem dX1_init_9 : decode cX1_init 9 = .ok (.invokespecial 11, 3) := by decide +kernel
theorem dX1_init_12 : decode cX1_init 12 = .ok (.putfield 12, 3) := by decide +kernel
theorem dX1_init_15 : decode cX1_init 15 = .ok (.aload_n 0, 1) := by decide +kernel
theorem dX1_init_16 : decode cX1_init 16 = .ok (.bipush 40, 2) := by decide +kernel
theorem dX1_init_18 : decode cX1_init 18 = .ok (.newarray .int, 2) := by decide +kernel
theorem dX1_init_20 : decode cX1_init 20 = .ok (.putfield 18, 3) := by decide +kernel
theorem dX1_init_23 : decode cX1_init 23 = .ok (.aload_n 0, 1) := by decide +kernel
theorem dX1_init_24 : decode cX1_init 24 = .ok (.bipush 41, 2) := by decide +kernel
theorem dX1_init_26 : decode cX1_init 26 = .ok (.newarray .int, 2) := by decide +kernel
theorem dX1_init_28 : decode cX1_init 28 = .ok (.putfield 22, 3) := by decide +kernel
theorem dX1_init_31 : decode cX1_init 31 = .ok (.aload_n 0, 1) := by decide +kernel
theorem dX1_init_32 : decode cX1_init 32 = .ok (.sipush 492, 3) := by decide +kernel
theorem dX1_init_35 : decode cX1_init 35 = .ok (.newarray .long, 2) := by decide +kernel
theorem dX1_init_37 : decode cX1_init 37 = .ok (.putfield 25, 3) := by decide +kernel
theorem dX1_init_40 : decode cX1_init 40 = .ok (.aload_n 0, 1) := by decide +kernel
theorem dX1_init_41 : decode cX1_init 41 = .ok (.sipush 480, 3) := by decide +kernel
theorem dX1_init_44 : decode cX1_init 44 = .ok (.newarray .byte, 2) := by decide +kernel
theorem dX1_init_46 : decode cX1_init 46 = .ok (.putfield 29, 3) := by decide +kernel
theorem dX1_init_49 : decode cX1_init 49 = .ok (.return_, 1) := by decide +kernel
theorem dX2_init_0 : decode cX2_init 0 = .ok (.aload_n 0, 1) := by decide +kernel
theorem dX2_init_1 : decode cX2_init 1 = .ok (.invokespecial 3, 3) := by decide +kernel
theorem dX2_init_4 : decode cX2_init 4 = .ok (.aload_n 0, 1) := by decide +kernel
theorem dX2_init_5 : decode cX2_init 5 = .ok (.bipush 40, 2) := by decide +kernel
theorem dX2_init_7 : decode cX2_init 7 = .ok (.newarray .int, 2) := by decide +kernel
theorem dX2_init_9 : decode cX2_init 9 = .ok (.putfield 9, 3) := by decide +kernel
theorem dX2_init_12 : decode cX2_init 12 = .ok (.aload_n 0, 1) := by decide +kernel
theorem dX2_init_13 : decode cX2_init 13 = .ok (.bipush 40, 2) := by decide +kernel
theorem dX2_init_15 : decode cX2_init 15 = .ok (.newarray .int, 2) := by decide +kernel
theorem dX2_init_17 : decode cX2_init 17 = .ok (.putfield 15, 3) := by decide +kernel
theorem dX2_init_20 : decode cX2_init 20 = .ok (.aload_n 0, 1) := by decide +kernel
theorem dX2_init_21 : decode cX2_init 21 = .ok (.bipush 40, 2) := by decide +kernel
theorem dX2_init_23 : decode cX2_init 23 = .ok (.newarray .int, 2) := by decide +kernel
theorem dX2_init_25 : decode cX2_init 25 = .ok (.putfield 18, 3) := by decide +kernel
theorem dX2_init_28 : decode cX2_init 28 = .ok (.aload_n 0, 1) := by decide +kernel
theorem dX2_init_29 : decode cX2_init 29 = .ok (.bipush 40, 2) := by decide +kernel
theorem dX2_init_31 : decode cX2_init 31 = .ok (.newarray .int, 2) := by decide +kernel
theorem dX2_init_33 : decode cX2_init 33 = .ok (.putfield 21, 3) := by decide +kernel
theorem dX2_init_36 : decode cX2_init 36 = .ok (.aload_n 0, 1) := by decide +kernel
theorem dX2_init_37 : decode cX2_init 37 = .ok (.bipush 40, 2) := by decide +kernel
theorem dX2_init_39 : decode cX2_init 39 = .ok (.newarray .int, 2) := by decide +kernel
theorem dX2_init_41 : decode cX2_init 41 = .ok (.putfield 24, 3) := by decide +kernel
theorem dX2_init_44 : decode cX2_init 44 = .ok (.aload_n 0, 1) := by decide +kernel
theorem dX2_init_45 : decode cX2_init 45 = .ok (.bipush 40, 2) := by decide +kernel
theorem dX2_init_47 : decode cX2_init 47 = .ok (.newarray .int, 2) := by decide +kernel
theorem dX2_init_49 : decode cX2_init 49 = .ok (.putfield 27, 3) := by decide +kernel
theorem dX2_init_52 : decode cX2_init 52 = .ok (.aload_n 0, 1) := by decide +kernel
theorem dX2_init_53 : decode cX2_init 53 = .ok (.bipush 40, 2) := by decide +kernel
theorem dX2_init_55 : decode cX2_init 55 = .ok (.newarray .int, 2) := by decide +kernel
theorem dX2_init_57 : decode cX2_init 57 = .ok (.putfield 30, 3) := by decide +kernel
theorem dX2_init_60 : decode cX2_init 60 = .ok (.return_, 1) := by decide +kernel
theorem dX3_init_0 : decode cX3_init 0 = .ok (.aload_n 0, 1) := by decide +kernel
theorem dX3_init_1 : decode cX3_init 1 = .ok (.invokespecial 3, 3) := by decide +kernel
theorem dX3_init_4 : decode cX3_init 4 = .ok (.aload_n 0, 1) := by decide +kernel
theorem dX3_init_5 : decode cX3_init 5 = .ok (.sipush 1600, 3) := by decide +kernel
theorem dX3_init_8 : decode cX3_init 8 = .ok (.newarray .int, 2) := by decide +kernel
theorem dX3_init_10 : decode cX3_init 10 = .ok (.putfield 9, 3) := by decide +kernel
theorem dX3_init_13 : decode cX3_init 13 = .ok (.aload_n 0, 1) := by decide +kernel
theorem dX3_init_14 : decode cX3_init 14 = .ok (.bipush 40, 2) := by decide +kernel
theorem dX3_init_16 : decode cX3_init 16 = .ok (.newarray .int, 2) := by decide +kernel
theorem dX3_init_18 : decode cX3_init 18 = .ok (.putfield 15, 3) := by decide +kernel
theorem dX3_init_21 : decode cX3_init 21 = .ok (.aload_n 0, 1) := by decide +kernel
theorem dX3_init_22 : decode cX3_init 22 = .ok (.sipush 287, 3) := by decide +kernel
theorem dX3_init_25 : decode cX3_init 25 = .ok (.newarray .int, 2) := by decide +kernel
theorem dX3_init_27 : decode cX3_init 27 = .ok (.putfield 18, 3) := by decide +kernel
theorem dX3_init_30 : decode cX3_init 30 = .ok (.return_, 1) := by decide +kernel
theorem dX4_init_0 : decode cX4_init 0 = .ok (.aload_n 0, 1) := by decide +kernel
theorem dX4_init_1 : decode cX4_init 1 = .ok (.invokespecial 3, 3) := by decide +kernel
theorem dX4_init_4 : decode cX4_init 4 = .ok (.aload_n 0, 1) := by decide +kernel
theorem dX4_init_5 : decode cX4_init 5 = .ok (.sipush 1600, 3) := by decide +kernel
theorem dX4_init_8 : decode cX4_init 8 = .ok (.newarray .int, 2) := by decide +kernel
theorem dX4_init_10 : decode cX4_init 10 = .ok (.putfield 9, 3) := by decide +kernel
theorem dX4_init_13 : decode cX4_init 13 = .ok (.return_, 1) := by decide +kernel
theorem dX5_init_0 : decode cX5_init 0 = .ok (.aload_n 0, 1) := by decide +kernel
theorem dX5_init_1 : decode cX5_init 1 = .ok (.invokespecial 3, 3) := by decide +kernel
theorem dX5_init_4 : decode cX5_init 4 = .ok (.aload_n 0, 1) := by decide +kernel
theorem dX5_init_5 : decode cX5_init 5 = .ok (.iconst 4, 1) := by decide +kernel
theorem dX5_init_6 : decode cX5_init 6 = .ok (.newarray .int, 2) := by decide +kernel
theorem dX5_init_8 : decode cX5_init 8 = .ok (.dup, 1) := by decide +kernel
theorem dX5_init_9 : decode cX5_init 9 = .ok (.iconst 0, 1) := by decide +kernel
theorem dX5_init_10 : decode cX5_init 10 = .ok (.bipush 60, 2) := by decide +kernel
theorem dX5_init_12 : decode cX5_init 12 = .ok (.iastore, 1) := by decide +kernel
theorem dX5_init_13 : decode cX5_init 13 = .ok (.dup, 1) := by decide +kernel
theorem dX5_init_14 : decode cX5_init 14 = .ok (.iconst 1, 1) := by decide +kernel
theorem dX5_init_15 : decode cX5_init 15 = .ok (.iconst 0, 1) := by decide +kernel
theorem dX5_init_16 : decode cX5_init 16 = .ok (.iastore, 1) := by decide +kernel
theorem dX5_init_17 : decode cX5_init 17 = .ok (.dup, 1) := by decide +kernel
theorem dX5_init_18 : decode cX5_init 18 = .ok (.iconst 2, 1) := by decide +kernel
theorem dX5_init_19 : decode cX5_init 19 = .ok (.iconst (-1), 1) := by decide +kernel
theorem dX5_init_20 : decode cX5_init 20 = .ok (.iastore, 1) := by decide +kernel
theorem dX5_init_21 : decode cX5_init 21 = .ok (.dup, 1) := by decide +kernel
theorem dX5_init_22 : decode cX5_init 22 = .ok (.iconst 3, 1) := by decide +kernel
theorem dX5_init_23 : decode cX5_init 23 = .ok (.iconst 0, 1) := by decide +kernel
theorem dX5_init_24 : decode cX5_init 24 = .ok (.iastore, 1) := by decide +kernel
theorem dX5_init_25 : decode cX5_init 25 = .ok (.putfield 9, 3) := by decide +kernel
theorem dX5_init_28 : decode cX5_init 28 = .ok (.aload_n 0, 1) := by decide +kernel
theorem dX5_init_29 : decode cX5_init 29 = .ok (.sipush 160, 3) := by decide +kernel
theorem dX5_init_32 : decode cX5_init 32 = .ok (.newarray .int, 2) := by decide +kernel
theorem dX5_init_34 : decode cX5_init 34 = .ok (.putfield 15, 3) := by decide +kernel
theorem dX5_init_37 : decode cX5_init 37 = .ok (.return_, 1) := by decide +kernel
theorem dX6_init_0 : decode cX6_init 0 = .ok (.aload_n 0, 1) := by decide +kernel
theorem dX6_init_1 : decode cX6_init 1 = .ok (.invokespecial 3, 3) := by decide +kernel
theorem dX6_init_4 : decode cX6_init 4 = .ok (.aload_n 0, 1) := by decide +kernel
theorem dX6_init_5 : decode cX6_init 5 = .ok (.bipush 40, 2) := by decide +kernel
theorem dX6_init_7 : decode cX6_init 7 = .ok (.newarray .int, 2) := by decide +kernel
theorem dX6_init_9 : decode cX6_init 9 = .ok (.putfield 9, 3) := by decide +kernel
theorem dX6_init_12 : decode cX6_init 12 = .ok (.return_, 1) := by decide +kernel
theorem dX7_init_0 : decode cX7_init 0 = .ok (.aload_n 0, 1) := by decide +kernel
theorem dX7_init_1 : decode cX7_init 1 = .ok (.invokespecial 3, 3) := by decide +kernel
theorem dX7_init_4 : decode cX7_init 4 = .ok (.aload_n 0, 1) := by decide +kernel
theorem dX7_init_5 : decode cX7_init 5 = .ok (.iconst 4, 1) := by decide +kernel
theorem dX7_init_6 : decode cX7_init 6 = .ok (.anewarray 9, 3) := by decide +kernel
theorem dX7_init_9 : decode cX7_init 9 = .ok (.putfield 11, 3) := by decide +kernel
theorem dX7_init_12 : decode cX7_init 12 = .ok (.aload_n 0, 1) := by decide +kernel
theorem dX7_init_13 : decode cX7_init 13 = .ok (.iconst 5, 1) := by decide +kernel
theorem dX7_init_14 : decode cX7_init 14 = .ok (.newarray .int, 2) := by decide +kernel
theorem dX7_init_16 : decode cX7_init 16 = .ok (.dup, 1) := by decide +kernel
theorem dX7_init_17 : decode cX7_init 17 = .ok (.iconst 0, 1) := by decide +kernel
theorem dX7_init_18 : decode cX7_init 18 = .ok (.bipush 60, 2) := by decide +kernel
theorem dX7_init_20 : decode cX7_init 20 = .ok (.iastore, 1) := by decide +kernel
theorem dX7_init_21 : decode cX7_init 21 = .ok (.dup, 1) := by decide +kernel
theorem dX7_init_22 : decode cX7_init 22 = .ok (.iconst 1, 1) := by decide +kernel
theorem dX7_init_23 : decode cX7_init 23 = .ok (.iconst 3, 1) := by decide +kernel
theorem dX7_init_24 : decode cX7_init 24 = .ok (.iastore, 1) := by decide +kernel
theorem dX7_init_25 : decode cX7_init 25 = .ok (.dup, 1) := by decide +kernel
theorem dX7_init_26 : decode cX7_init 26 = .ok (.iconst 2, 1) := by decide +kernel
theorem dX7_init_27 : decode cX7_init 27 = .ok (.sipush 150, 3) := by decide +kernel
theorem dX7_init_30 : decode cX7_init 30 = .ok (.iastore, 1) := by decide +kernel
theorem dX7_init_31 : decode cX7_init 31 = .ok (.dup, 1) := by decide +kernel
theorem dX7_init_32 : decode cX7_init 32 = .ok (.iconst 3, 1) := by decide +kernel
theorem dX7_init_33 : decode cX7_init 33 = .ok (.iconst 0, 1) := by decide +kernel
theorem dX7_init_34 : decode cX7_init 34 = .ok (.iastore, 1) := by decide +kernel
theorem dX7_init_35 : decode cX7_init 35 = .ok (.dup, 1) := by decide +kernel
theorem dX7_init_36 : decode cX7_init 36 = .ok (.iconst 4, 1) := by decide +kernel
theorem dX7_init_37 : decode cX7_init 37 = .ok (.bipush 50, 2) := by decide +kernel
theorem dX7_init_39 : decode cX7_init 39 = .ok (.iastore, 1) := by decide +kernel
theorem dX7_init_40 : decode cX7_init 40 = .ok (.putfield 17, 3) := by decide +kernel
theorem dX7_init_43 : decode cX7_init 43 = .ok (.aload_n 0, 1) := by decide +kernel
theorem dX7_init_44 : decode cX7_init 44 = .ok (.new 21, 3) := by decide +kernel
theorem dX7_init_47 : decode cX7_init 47 = .ok (.dup, 1) := by decide +kernel
theorem dX7_init_48 : decode cX7_init 48 = .ok (.invokespecial 23, 3) := by decide +kernel
theorem dX7_init_51 : decode cX7_init 51 = .ok (.putfield 24, 3) := by decide +kernel
theorem dX7_init_54 : decode cX7_init 54 = .ok (.iconst 0, 1) := by decide +kernel
theorem dX7_init_55 : decode cX7_init 55 = .ok (.istore_n 1, 1) := by decide +kernel
theorem dX7_init_56 : decode cX7_init 56 = .ok (.iload_n 1, 1) := by decide +kernel
theorem dX7_init_57 : decode cX7_init 57 = .ok (.iconst 4, 1) := by decide +kernel
theorem dX7_init_58 : decode cX7_init 58 = .ok (.if_icmp .ge 22, 3) := by decide +kernel
theorem dX7_init_61 : decode cX7_init 61 = .ok (.aload_n 0, 1) := by decide +kernel
theorem dX7_init_62 : decode cX7_init 62 = .ok (.getfield 11, 3) := by decide +kernel
theorem dX7_init_65 : decode cX7_init 65 = .ok (.iload_n 1, 1) := by decide +kernel
theorem dX7_init_66 : decode cX7_init 66 = .ok (.new 9, 3) := by decide +kernel
theorem dX7_init_69 : decode cX7_init 69 = .ok (.dup, 1) := by decide +kernel
theorem dX7_init_70 : decode cX7_init 70 = .ok (.invokespecial 28, 3) := by decide +kernel
theorem dX7_init_73 : decode cX7_init 73 = .ok (.aastore, 1) := by decide +kernel
theorem dX7_init_74 : decode cX7_init 74 = .ok (.iinc 1 1, 3) := by decide +kernel
theorem dX7_init_77 : decode cX7_init 77 = .ok (.goto (-21), 3) := by decide +kernel
theorem dX7_init_80 : decode cX7_init 80 = .ok (.return_, 1) := by decide +kernel
theorem dX8_init_0 : decode cX8_init 0 = .ok (.aload_n 0, 1) := by decide +kernel
theorem dX8_init_1 : decode cX8_init 1 = .ok (.invokespecial 3, 3) := by decide +kernel
theorem dX8_init_4 : decode cX8_init 4 = .ok (.aload_n 0, 1) := by decide +kernel
theorem dX8_init_5 : decode cX8_init 5 = .ok (.bipush 120, 2) := by decide +kernel
theorem dX8_init_7 : decode cX8_init 7 = .ok (.newarray .byte, 2) := by decide +kernel
theorem dX8_init_9 : decode cX8_init 9 = .ok (.putfield 9, 3) := by decide +kernel
theorem dX8_init_12 : decode cX8_init 12 = .ok (.aload_n 0, 1) := by decide +kernel
theorem dX8_init_13 : decode cX8_init 13 = .ok (.bipush 121, 2) := by decide +kernel
theorem dX8_init_15 : decode cX8_init 15 = .ok (.newarray .int, 2) := by decide +kernel
theorem dX8_init_17 : decode cX8_init 17 = .ok (.putfield 15, 3) := by decide +kernel
theorem dX8_init_20 : decode cX8_init 20 = .ok (.aload_n 0, 1) := by decide +kernel
theorem dX8_init_21 : decode cX8_init 21 = .ok (.bipush 121, 2) := by decide +kernel
theorem dX8_init_23 : decode cX8_init 23 = .ok (.newarray .int, 2) := by decide +kernel
theorem dX8_init_25 : decode cX8_init 25 = .ok (.putfield 19, 3) := by decide +kernel
theorem dX8_init_28 : decode cX8_init 28 = .ok (.aload_n 0, 1) := by decide +kernel
theorem dX8_init_29 : decode cX8_init 29 = .ok (.bipush 121, 2) := by decide +kernel
theorem dX8_init_31 : decode cX8_init 31 = .ok (.newarray .int, 2) := by decide +kernel
theorem dX8_init_33 : decode cX8_init 33 = .ok (.putfield 22, 3) := by decide +kernel
theorem dX8_init_36 : decode cX8_init 36 = .ok (.return_, 1) := by decide +kernel
theorem dX9_init_0 : decode cX9_init 0 = .ok (.aload_n 0, 1) := by decide +kernel
theorem dX9_init_1 : decode cX9_init 1 = .ok (.invokespecial 3, 3) := by decide +kernel
theorem dX9_init_4 : decode cX9_init 4 = .ok (.aload_n 0, 1) := by decide +kernel
theorem dX9_init_5 : decode cX9_init 5 = .ok (.new 9, 3) := by decide +kernel
theorem dX9_init_8 : decode cX9_init 8 = .ok (.dup, 1) := by decide +kernel
theorem dX9_init_9 : decode cX9_init 9 = .ok (.invokespecial 11, 3) := by decide +kernel
theorem dX9_init_12 : decode cX9_init 12 = .ok (.putfield 12, 3) := by decide +kernel
theorem dX9_init_15 : decode cX9_init 15 = .ok (.aload_n 0, 1) := by decide +kernel
theorem dX9_init_16 : decode cX9_init 16 = .ok (.sipush 160, 3) := by decide +kernel
theorem dX9_init_19 : decode cX9_init 19 = .ok (.newarray .int, 2) := by decide +kernel
theorem dX9_init_21 : decode cX9_init 21 = .ok (.putfield 18, 3) := by decide +kernel
theorem dX9_init_24 : decode cX9_init 24 = .ok (.aload_n 0, 1) := by decide +kernel
theorem dX9_init_25 : decode cX9_init 25 = .ok (.iconst 4, 1) := by decide +kernel
theorem dX9_init_26 : decode cX9_init 26 = .ok (.newarray .int, 2) := by decide +kernel
theorem dX9_init_28 : decode cX9_init 28 = .ok (.putfield 22, 3) := by decide +kernel
theorem dX9_init_31 : decode cX9_init 31 = .ok (.aload_n 0, 1) := by decide +kernel
theorem dX9_init_32 : decode cX9_init 32 = .ok (.iconst 4, 1) := by decide +kernel
theorem dX9_init_33 : decode cX9_init 33 = .ok (.newarray .int, 2) := by decide +kernel
theorem dX9_init_35 : decode cX9_init 35 = .ok (.putfield 25, 3) := by decide +kernel
theorem dX9_init_38 : decode cX9_init 38 = .ok (.return_, 1) := by decide +kernel
theorem dX10_init_0 : decode cX10_init 0 = .ok (.aload_n 0, 1) := by decide +kernel
theorem dX10_init_1 : decode cX10_init 1 = .ok (.invokespecial 1, 3) := by decide +kernel
theorem dX10_init_4 : decode cX10_init 4 = .ok (.aload_n 0, 1) := by decide +kernel
theorem dX10_init_5 : decode cX10_init 5 = .ok (.new 7, 3) := by decide +kernel
theorem dX10_init_8 : decode cX10_init 8 = .ok (.dup, 1) := by decide +kernel
theorem dX10_init_9 : decode cX10_init 9 = .ok (.invokespecial 9, 3) := by decide +kernel
theorem dX10_init_12 : decode cX10_init 12 = .ok (.putfield 10, 3) := by decide +kernel
theorem dX10_init_15 : decode cX10_init 15 = .ok (.aload_n 0, 1) := by decide +kernel
theorem dX10_init_16 : decode cX10_init 16 = .ok (.new 7, 3) := by decide +kernel
theorem dX10_init_19 : decode cX10_init 19 = .ok (.dup, 1) := by decide +kernel
theorem dX10_init_20 : decode cX10_init 20 = .ok (.invokespecial 9, 3) := by decide +kernel
theorem dX10_init_23 : decode cX10_init 23 = .ok (.putfield 16, 3) := by decide +kernel
theorem dX10_init_26 : decode cX10_init 26 = .ok (.aload_n 0, 1) := by decide +kernel
theorem dX10_init_27 : decode cX10_init 27 = .ok (.new 19, 3) := by decide +kernel
theorem dX10_init_30 : decode cX10_init 30 = .ok (.dup, 1) := by decide +kernel
theorem dX10_init_31 : decode cX10_init 31 = .ok (.invokespecial 21, 3) := by decide +kernel
theorem dX10_init_34 : decode cX10_init 34 = .ok (.putfield 22, 3) := by decide +kernel
theorem dX10_init_37 : decode cX10_init 37 = .ok (.aload_n 0, 1) := by decide +kernel
theorem dX10_init_38 : decode cX10_init 38 = .ok (.iconst 4, 1) := by decide +kernel
theorem dX10_init_39 : decode cX10_init 39 = .ok (.anewarray 26, 3) := by decide +kernel
theorem dX10_init_42 : decode cX10_init 42 = .ok (.putfield 28, 3) := by decide +kernel
theorem dX10_init_45 : decode cX10_init 45 = .ok (.aload_n 0, 1) := by decide +kernel
theorem dX10_init_46 : decode cX10_init 46 = .ok (.iconst 4, 1) := by decide +kernel
theorem dX10_init_47 : decode cX10_init 47 = .ok (.anewarray 32, 3) := by decide +kernel
theorem dX10_init_50 : decode cX10_init 50 = .ok (.putfield 34, 3) := by decide +kernel
theorem dX10_init_53 : decode cX10_init 53 = .ok (.aload_n 0, 1) := by decide +kernel
theorem dX10_init_54 : decode cX10_init 54 = .ok (.iconst 4, 1) := by decide +kernel
theorem dX10_init_55 : decode cX10_init 55 = .ok (.anewarray 38, 3) := by decide +kernel
theorem dX10_init_58 : decode cX10_init 58 = .ok (.putfield 40, 3) := by decide +kernel
theorem dX10_init_61 : decode cX10_init 61 = .ok (.aload_n 0, 1) := by decide +kernel
theorem dX10_init_62 : decode cX10_init 62 = .ok (.new 44, 3) := by decide +kernel
theorem dX10_init_65 : decode cX10_init 65 = .ok (.dup, 1) := by decide +kernel
theorem dX10_init_66 : decode cX10_init 66 = .ok (.invokespecial 46, 3) := by decide +kernel
theorem dX10_init_69 : decode cX10_init 69 = .ok (.putfield 47, 3) := by decide +kernel
theorem dX10_init_72 : decode cX10_init 72 = .ok (.aload_n 0, 1) := by decide +kernel
theorem dX10_init_73 : decode cX10_init 73 = .ok (.bipush 7, 2) := by decide +kernel
theorem dX10_init_75 : decode cX10_init 75 = .ok (.newarray .int, 2) := by decide +kernel
theorem dX10_init_77 : decode cX10_init 77 = .ok (.putfield 51, 3) := by decide +kernel
theorem dX10_init_80 : decode cX10_init 80 = .ok (.iconst 0, 1) := by decide +kernel
theorem dX10_init_81 : decode cX10_init 81 = .ok (.istore_n 1, 1) := by decide +kernel
theorem dX10_init_82 : decode cX10_init 82 = .ok (.iload_n 1, 1) := by decide +kernel
theorem dX10_init_83 : decode cX10_init 83 = .ok (.iconst 4, 1) := by decide +kernel
theorem dX10_init_84 : decode cX10_init 84 = .ok (.if_icmp .ge 22, 3) := by decide +kernel
theorem dX10_init_87 : decode cX10_init 87 = .ok (.aload_n 0, 1) := by decide +kernel
theorem dX10_init_88 : decode cX10_init 88 = .ok (.getfield 28, 3) := by decide +kernel
theorem dX10_init_91 : decode cX10_init 91 = .ok (.iload_n 1, 1) := by decide +kernel
theorem dX10_init_92 : decode cX10_init 92 = .ok (.new 26, 3) := by decide +kernel
theorem dX10_init_95 : decode cX10_init 95 = .ok (.dup, 1) := by decide +kernel
theorem dX10_init_96 : decode cX10_init 96 = .ok (.invokespecial 55, 3) := by decide +kernel
theorem dX10_init_99 : decode cX10_init 99 = .ok (.aastore, 1) := by decide +kernel
theorem dX10_init_100 : decode cX10_init 100 = .ok (.iinc 1 1, 3) := by decide +kernel
theorem dX10_init_103 : decode cX10_init 103 = .ok (.goto (-21), 3) := by decide +kernel
theorem dX10_init_106 : decode cX10_init 106 = .ok (.iconst 0, 1) := by decide +kernel
theorem dX10_init_107 : decode cX10_init 107 = .ok (.istore_n 1, 1) := by decide +kernel
theorem dX10_init_108 : decode cX10_init 108 = .ok (.iload_n 1, 1) := by decide +kernel
theorem dX10_init_109 : decode cX10_init 109 = .ok (.iconst 4, 1) := by decide +kernel
theorem dX10_init_110 : decode cX10_init 110 = .ok (.if_icmp .ge 35, 3) := by decide +kernel
theorem dX10_init_113 : decode cX10_init 113 = .ok (.aload_n 0, 1) := by decide +kernel
theorem dX10_init_114 : decode cX10_init 114 = .ok (.getfield 34, 3) := by decide +kernel
theorem dX10_init_117 : decode cX10_init 117 = .ok (.iload_n 1, 1) := by decide +kernel
theorem dX10_init_118 : decode cX10_init 118 = .ok (.new 32, 3) := by decide +kernel
theorem dX10_init_121 : decode cX10_init 121 = .ok (.dup, 1) := by decide +kernel
theorem dX10_init_122 : decode cX10_init 122 = .ok (.invokespecial 56, 3) := by decide +kernel
theorem dX10_init_125 : decode cX10_init 125 = .ok (.aastore, 1) := by decide +kernel
theorem dX10_init_126 : decode cX10_init 126 = .ok (.aload_n 0, 1) := by decide +kernel
theorem dX10_init_127 : decode cX10_init 127 = .ok (.getfield 40, 3) := by decide +kernel
theorem dX10_init_130 : decode cX10_init 130 = .ok (.iload_n 1, 1) := by decide +kernel
theorem dX10_init_131 : decode cX10_init 131 = .ok (.new 38, 3) := by decide +kernel
theorem dX10_init_134 : decode cX10_init 134 = .ok (.dup, 1) := by decide +kernel
theorem dX10_init_135 : decode cX10_init 135 = .ok (.invokespecial 57, 3) := by decide +kernel
theorem dX10_init_138 : decode cX10_init 138 = .ok (.aastore, 1) := by decide +kernel
theorem dX10_init_139 : decode cX10_init 139 = .ok (.iinc 1 1, 3) := by decide +kernel
theorem dX10_init_142 : decode cX10_init 142 = .ok (.goto (-34), 3) := by decide +kernel
theorem dX10_init_145 : decode cX10_init 145 = .ok (.return_, 1) := by decide +kernel
theorem dX11_init_0 : decode cX11_init 0 = .ok (.aload_n 0, 1) := by decide +kernel
theorem dX11_init_1 : decode cX11_init 1 = .ok (.invokespecial 3, 3) := by decide +kernel
theorem dX11_init_4 : decode cX11_init 4 = .ok (.aload_n 0, 1) := by decide +kernel
theorem dX11_init_5 : decode cX11_init 5 = .ok (.sipush 766, 3) := by decide +kernel
theorem dX11_init_8 : decode cX11_init 8 = .ok (.newarray .int, 2) := by decide +kernel
theorem dX11_init_10 : decode cX11_init 10 = .ok (.putfield 9, 3) := by decide +kernel
theorem dX11_init_13 : decode cX11_init 13 = .ok (.aload_n 0, 1) := by decide +kernel
theorem dX11_init_14 : decode cX11_init 14 = .ok (.sipush 766, 3) := by decide +kernel
theorem dX11_init_17 : decode cX11_init 17 = .ok (.newarray .int, 2) := by decide +kernel
theorem dX11_init_19 : decode cX11_init 19 = .ok (.putfield 13, 3) := by decide +kernel
theorem dX11_init_22 : decode cX11_init 22 = .ok (.aload_n 0, 1) := by decide +kernel
theorem dX11_init_23 : decode cX11_init 23 = .ok (.bipush 7, 2) := by decide +kernel
theorem dX11_init_25 : decode cX11_init 25 = .ok (.newarray .int, 2) := by decide +kernel
theorem dX11_init_27 : decode cX11_init 27 = .ok (.putfield 16, 3) := by decide +kernel
theorem dX11_init_30 : decode cX11_init 30 = .ok (.aload_n 0, 1) := by decide +kernel
theorem dX11_init_31 : decode cX11_init 31 = .ok (.bipush 120, 2) := by decide +kernel
theorem dX11_init_33 : decode cX11_init 33 = .ok (.newarray .int, 2) := by decide +kernel
theorem dX11_init_35 : decode cX11_init 35 = .ok (.putfield 19, 3) := by decide +kernel
theorem dX11_init_38 : decode cX11_init 38 = .ok (.aload_n 0, 1) := by decide +kernel
theorem dX11_init_39 : decode cX11_init 39 = .ok (.sipush 256, 3) := by decide +kernel
theorem dX11_init_42 : decode cX11_init 42 = .ok (.newarray .int, 2) := by decide +kernel
theorem dX11_init_44 : decode cX11_init 44 = .ok (.putfield 22, 3) := by decide +kernel
theorem dX11_init_47 : decode cX11_init 47 = .ok (.aload_n 0, 1) := by decide +kernel
theorem dX11_init_48 : decode cX11_init 48 = .ok (.sipush 4800, 3) := by decide +kernel
theorem dX11_init_51 : decode cX11_init 51 = .ok (.newarray .int, 2) := by decide +kernel
theorem dX11_init_53 : decode cX11_init 53 = .ok (.putfield 25, 3) := by decide +kernel
theorem dX11_init_56 : decode cX11_init 56 = .ok (.aload_n 0, 1) := by decide +kernel
theorem dX11_init_57 : decode cX11_init 57 = .ok (.sipush 4800, 3) := by decide +kernel
theorem dX11_init_60 : decode cX11_init 60 = .ok (.newarray .int, 2) := by decide +kernel
theorem dX11_init_62 : decode cX11_init 62 = .ok (.putfield 28, 3) := by decide +kernel
theorem dX11_init_65 : decode cX11_init 65 = .ok (.aload_n 0, 1) := by decide +kernel
theorem dX11_init_66 : decode cX11_init 66 = .ok (.sipush 287, 3) := by decide +kernel
theorem dX11_init_69 : decode cX11_init 69 = .ok (.newarray .int, 2) := by decide +kernel
theorem dX11_init_71 : decode cX11_init 71 = .ok (.putfield 31, 3) := by decide +kernel
theorem dX11_init_74 : decode cX11_init 74 = .ok (.aload_n 0, 1) := by decide +kernel
theorem dX11_init_75 : decode cX11_init 75 = .ok (.bipush 40, 2) := by decide +kernel
theorem dX11_init_77 : decode cX11_init 77 = .ok (.newarray .boolean, 2) := by decide +kernel
theorem dX11_init_79 : decode cX11_init 79 = .ok (.putfield 34, 3) := by decide +kernel
theorem dX11_init_82 : decode cX11_init 82 = .ok (.aload_n 0, 1) := by decide +kernel
theorem dX11_init_83 : decode cX11_init 83 = .ok (.sipush 1681, 3) := by decide +kernel
theorem dX11_init_86 : decode cX11_init 86 = .ok (.newarray .int, 2) := by decide +kernel
theorem dX11_init_88 : decode cX11_init 88 = .ok (.putfield 38, 3) := by decide +kernel
theorem dX11_init_91 : decode cX11_init 91 = .ok (.aload_n 0, 1) := by decide +kernel
theorem dX11_init_92 : decode cX11_init 92 = .ok (.sipush 1681, 3) := by decide +kernel
theorem dX11_init_95 : decode cX11_init 95 = .ok (.newarray .int, 2) := by decide +kernel
theorem dX11_init_97 : decode cX11_init 97 = .ok (.putfield 41, 3) := by decide +kernel
theorem dX11_init_100 : decode cX11_init 100 = .ok (.aload_n 0, 1) := by decide +kernel
theorem dX11_init_101 : decode cX11_init 101 = .ok (.sipush 1681, 3) := by decide +kernel
theorem dX11_init_104 : decode cX11_init 104 = .ok (.newarray .int, 2) := by decide +kernel
theorem dX11_init_106 : decode cX11_init 106 = .ok (.putfield 44, 3) := by decide +kernel
theorem dX11_init_109 : decode cX11_init 109 = .ok (.aload_n 0, 1) := by decide +kernel
theorem dX11_init_110 : decode cX11_init 110 = .ok (.sipush 1681, 3) := by decide +kernel
theorem dX11_init_113 : decode cX11_init 113 = .ok (.newarray .int, 2) := by decide +kernel
theorem dX11_init_115 : decode cX11_init 115 = .ok (.putfield 47, 3) := by decide +kernel
theorem dX11_init_118 : decode cX11_init 118 = .ok (.aload_n 0, 1) := by decide +kernel
theorem dX11_init_119 : decode cX11_init 119 = .ok (.sipush 1681, 3) := by decide +kernel
theorem dX11_init_122 : decode cX11_init 122 = .ok (.newarray .int, 2) := by decide +kernel
theorem dX11_init_124 : decode cX11_init 124 = .ok (.putfield 50, 3) := by decide +kernel
theorem dX11_init_127 : decode cX11_init 127 = .ok (.aload_n 0, 1) := by decide +kernel
theorem dX11_init_128 : decode cX11_init 128 = .ok (.bipush 40, 2) := by decide +kernel
theorem dX11_init_130 : decode cX11_init 130 = .ok (.newarray .int, 2) := by decide +kernel
theorem dX11_init_132 : decode cX11_init 132 = .ok (.putfield 53, 3) := by decide +kernel
theorem dX11_init_135 : decode cX11_init 135 = .ok (.aload_n 0, 1) := by decide +kernel
theorem dX11_init_136 : decode cX11_init 136 = .ok (.bipush 40, 2) := by decide +kernel
theorem dX11_init_138 : decode cX11_init 138 = .ok (.newarray .int, 2) := by decide +kernel
theorem dX11_init_140 : decode cX11_init 140 = .ok (.putfield 56, 3) := by decide +kernel
theorem dX11_init_143 : decode cX11_init 143 = .ok (.aload_n 0, 1) := by decide +kernel
theorem dX11_init_144 : decode cX11_init 144 = .ok (.bipush 40, 2) := by decide +kernel
theorem dX11_init_146 : decode cX11_init 146 = .ok (.newarray .int, 2) := by decide +kernel
theorem dX11_init_148 : decode cX11_init 148 = .ok (.putfield 59, 3) := by decide +kernel
theorem dX11_init_151 : decode cX11_init 151 = .ok (.aload_n 0, 1) := by decide +kernel
theorem dX11_init_152 : decode cX11_init 152 = .ok (.bipush 40, 2) := by decide +kernel
theorem dX11_init_154 : decode cX11_init 154 = .ok (.newarray .int, 2) := by decide +kernel
theorem dX11_init_156 : decode cX11_init 156 = .ok (.putfield 62, 3) := by decide +kernel
theorem dX11_init_159 : decode cX11_init 159 = .ok (.aload_n 0, 1) := by decide +kernel
theorem dX11_init_160 : decode cX11_init 160 = .ok (.bipush 40, 2) := by decide +kernel
theorem dX11_init_162 : decode cX11_init 162 = .ok (.newarray .int, 2) := by decide +kernel
theorem dX11_init_164 : decode cX11_init 164 = .ok (.putfield 65, 3) := by decide +kernel
theorem dX11_init_167 : decode cX11_init 167 = .ok (.aload_n 0, 1) := by decide +kernel
theorem dX11_init_168 : decode cX11_init 168 = .ok (.bipush 40, 2) := by decide +kernel
theorem dX11_init_170 : decode cX11_init 170 = .ok (.newarray .int, 2) := by decide +kernel
theorem dX11_init_172 : decode cX11_init 172 = .ok (.putfield 68, 3) := by decide +kernel
theorem dX11_init_175 : decode cX11_init 175 = .ok (.aload_n 0, 1) := by decide +kernel
theorem dX11_init_176 : decode cX11_init 176 = .ok (.bipush 40, 2) := by decide +kernel
theorem dX11_init_178 : decode cX11_init 178 = .ok (.newarray .int, 2) := by decide +kernel
theorem dX11_init_180 : decode cX11_init 180 = .ok (.putfield 71, 3) := by decide +kernel
theorem dX11_init_183 : decode cX11_init 183 = .ok (.aload_n 0, 1) := by decide +kernel
theorem dX11_init_184 : decode cX11_init 184 = .ok (.bipush 40, 2) := by decide +kernel
theorem dX11_init_186 : decode cX11_init 186 = .ok (.newarray .int, 2) := by decide +kernel
theorem dX11_init_188 : decode cX11_init 188 = .ok (.putfield 74, 3) := by decide +kernel
theorem dX11_init_191 : decode cX11_init 191 = .ok (.aload_n 0, 1) := by decide +kernel
theorem dX11_init_192 : decode cX11_init 192 = .ok (.iconst 4, 1) := by decide +kernel
theorem dX11_init_193 : decode cX11_init 193 = .ok (.newarray .int, 2) := by decide +kernel
theorem dX11_init_195 : decode cX11_init 195 = .ok (.putfield 77, 3) := by decide +kernel
theorem dX11_init_198 : decode cX11_init 198 = .ok (.aload_n 0, 1) := by decide +kernel
theorem dX11_init_199 : decode cX11_init 199 = .ok (.iconst 4, 1) := by decide +kernel
theorem dX11_init_200 : decode cX11_init 200 = .ok (.newarray .int, 2) := by decide +kernel
theorem dX11_init_202 : decode cX11_init 202 = .ok (.putfield 80, 3) := by decide +kernel
theorem dX11_init_205 : decode cX11_init 205 = .ok (.aload_n 0, 1) := by decide +kernel
theorem dX11_init_206 : decode cX11_init 206 = .ok (.sipush 160, 3) := by decide +kernel
theorem dX11_init_209 : decode cX11_init 209 = .ok (.newarray .int, 2) := by decide +kernel
theorem dX11_init_211 : decode cX11_init 211 = .ok (.putfield 83, 3) := by decide +kernel
theorem dX11_init_214 : decode cX11_init 214 = .ok (.aload_n 0, 1) := by decide +kernel
theorem dX11_init_215 : decode cX11_init 215 = .ok (.getfield 9, 3) := by decide +kernel
theorem dX11_init_218 : decode cX11_init 218 = .ok (.iconst 0, 1) := by decide +kernel
theorem dX11_init_219 : decode cX11_init 219 = .ok (.bipush 60, 2) := by decide +kernel
theorem dX11_init_221 : decode cX11_init 221 = .ok (.iastore, 1) := by decide +kernel
theorem dX11_init_222 : decode cX11_init 222 = .ok (.aload_n 0, 1) := by decide +kernel
theorem dX11_init_223 : decode cX11_init 223 = .ok (.getfield 9, 3) := by decide +kernel
theorem dX11_init_226 : decode cX11_init 226 = .ok (.iconst 1, 1) := by decide +kernel
theorem dX11_init_227 : decode cX11_init 227 = .ok (.iconst 3, 1) := by decide +kernel
theorem dX11_init_228 : decode cX11_init 228 = .ok (.iastore, 1) := by decide +kernel
theorem dX11_init_229 : decode cX11_init 229 = .ok (.aload_n 0, 1) := by decide +kernel
theorem dX11_init_230 : decode cX11_init 230 = .ok (.getfield 9, 3) := by decide +kernel
theorem dX11_init_233 : decode cX11_init 233 = .ok (.iconst 2, 1) := by decide +kernel
theorem dX11_init_234 : decode cX11_init 234 = .ok (.sipush 150, 3) := by decide +kernel
theorem dX11_init_237 : decode cX11_init 237 = .ok (.iastore, 1) := by decide +kernel
theorem dX11_init_238 : decode cX11_init 238 = .ok (.aload_n 0, 1) := by decide +kernel
theorem dX11_init_239 : decode cX11_init 239 = .ok (.getfield 9, 3) := by decide +kernel
theorem dX11_init_242 : decode cX11_init 242 = .ok (.iconst 4, 1) := by decide +kernel
theorem dX11_init_243 : decode cX11_init 243 = .ok (.bipush 50, 2) := by decide +kernel
theorem dX11_init_245 : decode cX11_init 245 = .ok (.iastore, 1) := by decide +kernel
theorem dX11_init_246 : decode cX11_init 246 = .ok (.iconst 0, 1) := by decide +kernel
theorem dX11_init_247 : decode cX11_init 247 = .ok (.istore_n 1, 1) := by decide +kernel
theorem dX11_init_248 : decode cX11_init 248 = .ok (.iload_n 1, 1) := by decide +kernel
theorem dX11_init_249 : decode cX11_init 249 = .ok (.iconst 4, 1) := by decide +kernel
theorem dX11_init_250 : decode cX11_init 250 = .ok (.if_icmp .ge 32, 3) := by decide +kernel
theorem dX11_init_253 : decode cX11_init 253 = .ok (.aload_n 0, 1) := by decide +kernel
theorem dX11_init_254 : decode cX11_init 254 = .ok (.getfield 9, 3) := by decide +kernel
theorem dX11_init_257 : decode cX11_init 257 = .ok (.iload_n 1, 1) := by decide +kernel
theorem dX11_init_258 : decode cX11_init 258 = .ok (.invokestatic 86, 3) := by decide +kernel
theorem dX11_init_261 : decode cX11_init 261 = .ok (.bipush 60, 2) := by decide +kernel
theorem dX11_init_263 : decode cX11_init 263 = .ok (.iastore, 1) := by decide +kernel
theorem dX11_init_264 : decode cX11_init 264 = .ok (.aload_n 0, 1) := by decide +kernel
theorem dX11_init_265 : decode cX11_init 265 = .ok (.getfield 9, 3) := by decide +kernel
theorem dX11_init_268 : decode cX11_init 268 = .ok (.iload_n 1, 1) := by decide +kernel
theorem dX11_init_269 : decode cX11_init 269 = .ok (.invokestatic 86, 3) := by decide +kernel
theorem dX11_init_272 : decode cX11_init 272 = .ok (.iconst 2, 1) := by decide +kernel
theorem dX11_init_273 : decode cX11_init 273 = .ok (.iadd, 1) := by decide +kernel
theorem dX11_init_274 : decode cX11_init 274 = .ok (.iconst (-1), 1) := by decide +kernel
theorem dX11_init_275 : decode cX11_init 275 = .ok (.iastore, 1) := by decide +kernel
theorem dX11_init_276 : decode cX11_init 276 = .ok (.iinc 1 1, 3) := by decide +kernel
theorem dX11_init_279 : decode cX11_init 279 = .ok (.goto (-31), 3) := by decide +kernel
theorem dX11_init_282 : decode cX11_init 282 = .ok (.iconst 0, 1) := by decide +kernel
theorem dX11_init_283 : decode cX11_init 283 = .ok (.istore_n 1, 1) := by decide +kernel
theorem dX11_init_284 : decode cX11_init 284 = .ok (.iload_n 1, 1) := by decide +kernel
theorem dX11_init_285 : decode cX11_init 285 = .ok (.bipush 10, 2) := by decide +kernel
theorem dX11_init_287 : decode cX11_init 287 = .ok (.if_icmp .ge 20, 3) := by decide +kernel
theorem dX11_init_290 : decode cX11_init 290 = .ok (.aload_n 0, 1) := by decide +kernel
theorem dX11_init_291 : decode cX11_init 291 = .ok (.getfield 9, 3) := by decide +kernel
theorem dX11_init_294 : decode cX11_init 294 = .ok (.sipush 756, 3) := by decide +kernel
theorem dX11_init_297 : decode cX11_init 297 = .ok (.iload_n 1, 1) := by decide +kernel
theorem dX11_init_298 : decode cX11_init 298 = .ok (.iadd, 1) := by decide +kernel
theorem dX11_init_299 : decode cX11_init 299 = .ok (.iconst (-1), 1) := by decide +kernel
theorem dX11_init_300 : decode cX11_init 300 = .ok (.iastore, 1) := by decide +kernel
theorem dX11_init_301 : decode cX11_init 301 = .ok (.iinc 1 1, 3) := by decide +kernel
theorem dX11_init_304 : decode cX11_init 304 = .ok (.goto (-20), 3) := by decide +kernel
theorem dX11_init_307 : decode cX11_init 307 = .ok (.return_, 1) := by decide +kernel
set_option maxHeartbeats 4000000 in
set_option maxRecDepth 20000 in
theorem ct_5_9 {l : Launch} {G : GT} {f : Nat → va_E} (hf : f 9 = .inr (5, [.null, .null, .int 0])) : CTc l yX5_init cX5_init 1 1 60 2 164 G [.ref (gh G + 9)] 10 f 12 (mw G f 9 []) := by
  refine CTc.mk (own := RX5) (by decide) rfl (Nat.le_of_ble_eq_true rfl) ?_
  intro p e s m below meth c ls X hin hO hP hS hl
  have hl : lv_has ls 1 [(0, .ref (gh G + 9))] := hl
  have hz0 := hP.1
  have hP := mw_start hf hP
  refine lv_aload_n X.1 X.2.1 dX5_init_0 rfl (lv_at hl 0 rfl) ?_
  refine q_obj X hl.1 (tb t_150 rfl) (tb t_101 rfl) (tb t_102 rfl) (by decide) (Nat.le_of_ble_eq_true rfl) dX5_init_1 ?_
  refine lv_aload_n X.1 X.2.1 dX5_init_4 rfl (lv_at hl 0 rfl) ?_
  refine lv_iconst (v := i32 4) X.1 X.2.1 dX5_init_5 rfl ?_
  refine q_newa13 (N := 4) X hP hS (tb t_145 rfl) (by decide) (Nat.le_of_ble_eq_true rfl) (Nat.le_of_ble_eq_true rfl) (Nat.le_of_ble_eq_true rfl) dX5_init_6 (fun H hP hS => ?_)
  rw [mw_up (by decide)] at hP
  have hP : PWc G 11 (mw G f 9 [(10, .inl (gC G 13, 4, .inl (fun _ => 0))), (9, .inr (5, [.null, .null, .int 0]))]) H := hP
  refine lv_dup X.1 X.2.1 dX5_init_8 rfl ?_
  refine lv_iconst (v := i32 0) X.1 X.2.1 dX5_init_9 rfl ?_
  refine lv_bipush (v := i32 60) X.1 X.2.1 dX5_init_10 (by decide) ?_
  refine q_iast (k := 10) (N := 4) (j := 0) (g := fun _ => 0) X hP hS (by have := hz0; omega) (by decide) rfl (by decide) (by decide) dX5_init_12 (fun H locs hP hS => ?_)
  rw [mw_up (by decide)] at hP
  have hP : PWc G 11 (mw G f 9 [(10, .inl (gC G 13, 4, .inl (upd (fun _ => 0) 0 (i32 60)))), (9, .inr (5, [.null, .null, .int 0]))]) H := hP
  refine lv_dup X.1 X.2.1 dX5_init_13 rfl ?_
  refine lv_iconst (v := i32 1) X.1 X.2.1 dX5_init_14 rfl ?_
  refine lv_iconst (v := i32 0) X.1 X.2.1 dX5_init_15 rfl ?_
  refine q_iast (k := 10) (N := 4) (j := 1) (g := upd (fun _ => 0) 0 (i32 60)) X hP hS (by have := hz0; omega) (by decide) rfl (by decide) (by decide) dX5_init_16 (fun H locs hP hS => ?_)
  rw [mw_up (by decide)] at hP
  have hP : PWc G 11 (mw G f 9 [(10, .inl (gC G 13, 4, .inl (upd (upd (fun _ => 0) 0 (i32 60)) 1 (i32 0)))), (9, .inr (5, [.null, .null, .int 0]))]) H := hP
  refine lv_dup X.1 X.2.1 dX5_init_17 rfl ?_
  refine lv_iconst (v := i32 2) X.1 X.2.1 dX5_init_18 rfl ?_
  refine lv_iconst (v := i32 (-1)) X.1 X.2.1 dX5_init_19 rfl ?_
  refine q_iast (k := 10) (N := 4) (j := 2) (g := upd (upd (fun _ => 0) 0 (i32 60)) 1 (i32 0)) X hP hS (by have := hz0; omega) (by decide) rfl (by decide) (by decide) dX5_init_20 (fun H locs hP hS => ?_)
  rw [mw_up (by decide)] at hP
  have hP : PWc G 11 (mw G f 9 [(10, .inl (gC G 13, 4, .inl (upd (upd (upd (fun _ => 0) 0 (i32 60)) 1 (i32 0)) 2 (i32 (-1))))), (9, .inr (5, [.null, .null, .int 0]))]) H := hP
  refine lv_dup X.1 X.2.1 dX5_init_21 rfl ?_
  refine lv_iconst (v := i32 3) X.1 X.2.1 dX5_init_22 rfl ?_
  refine lv_iconst (v := i32 0) X.1 X.2.1 dX5_init_23 rfl ?_
  refine q_iast (k := 10) (N := 4) (j := 3) (g := upd (upd (upd (fun _ => 0) 0 (i32 60)) 1 (i32 0)) 2 (i32 (-1))) X hP hS (by have := hz0; omega) (by decide) rfl (by decide) (by decide) dX5_init_24 (fun H locs hP hS => ?_)
  rw [mw_up (by decide)] at hP
  have hP : PWc G 11 (mw G f 9 [(10, .inl (gC G 13, 4, .inl (upd (upd (upd (upd (fun _ => 0) 0 (i32 60)) 1 (i32 0)) 2 (i32 (-1))) 3 (i32 0)))), (9, .inr (5, [.null, .null, .int 0]))]) H := hP
  refine q_putF (k := 9) (ci := 5) (j := 0) (T := TX5) (fs := [.null, .null, .int 0]) X hP hS (by have := hz0; omega) (by decide) rfl rfl (inTB inX5) tyX5 tyX5_ok nmX5 (by decide) (tb t_151 rfl) rfl hin rfl (tyX5_ok 0 (by decide)) rfl rfl (Nat.le_of_ble_eq_true rfl) dX5_init_25 (fun H locs hP hS => ?_)
  rw [mw_up (by decide)] at hP
  have hP : PWc G 11 (mw G f 9 [(9, .inr (5, [.ref (gh G + 10), .null, .int 0])), (10, .inl (gC G 13, 4, .inl (upd (upd (upd (upd (fun _ => 0) 0 (i32 60)) 1 (i32 0)) 2 (i32 (-1))) 3 (i32 0))))]) H := hP
  refine lv_aload_n X.1 X.2.1 dX5_init_28 rfl (lv_at hl 0 rfl) ?_
  refine lv_sipush (v := i32 160) X.1 X.2.1 dX5_init_29 (by decide) ?_
  refine q_newa13 (N := 160) X hP hS (tb t_145 rfl) (by decide) (Nat.le_of_ble_eq_true rfl) (Nat.le_of_ble_eq_true rfl) (Nat.le_of_ble_eq_true rfl) dX5_init_32 (fun H hP hS => ?_)
  rw [mw_up (by decide)] at hP
  have hP : PWc G 12 (mw G f 9 [(11, .inl (gC G 13, 160, .inl (fun _ => 0))), (9, .inr (5, [.ref (gh G + 10), .null, .int 0])), (10, .inl (gC G 13, 4, .inl (upd (upd (upd (upd (fun _ => 0) 0 (i32 60)) 1 (i32 0)) 2 (i32 (-1))) 3 (i32 0))))]) H := hP
  refine q_putF (k := 9) (ci := 5) (j := 1) (T := TX5) (fs := [.ref (gh G + 10), .null, .int 0]) X hP hS (by have := hz0; omega) (by decide) rfl rfl (inTB inX5) tyX5 tyX5_ok nmX5 (by decide) (tb t_154 rfl) rfl hin rfl (tyX5_ok 1 (by decide)) rfl rfl (Nat.le_of_ble_eq_true rfl) dX5_init_34 (fun H locs hP hS => ?_)
  rw [mw_up (by decide)] at hP
  have hP : PWc G 12 (mw G f 9 [(9, .inr (5, [.ref (gh G + 10), .ref (gh G + 11), .int 0])), (11, .inl (gC G 13, 160, .inl (fun _ => 0))), (10, .inl (gC G 13, 4, .inl (upd (upd (upd (upd (fun _ => 0) 0 (i32 60)) 1 (i32 0)) 2 (i32 (-1))) 3 (i32 0))))]) H := hP
  refine q_vret X (hP.congr (fun k hk => ?_)) hS dX5_init_37
  by_cases h9 : k = 9
  · subst h9
    exact fin_o (by decide) rfl (by rw [cE_5 (by decide +kernel)] <;> rfl)
  by_cases h11 : k = 11
  · subst h11
    exact fin_o (by decide) rfl (by rw [cE_13 (by decide +kernel)]; exact fin_i (by decide +kernel) (z0_z (by decide +kernel)))
  by_cases h10 : k = 10
  · subst h10
    exact fin_o (by decide) rfl (by rw [cE_13 (by decide +kernel)]; exact fin_i (by decide +kernel) (z0_tr (by decide)))
  exact Or.inl (mw_no (L := [(9, .inr (5, [.ref (gh G + 10), .ref (gh G + 11), .int 0])), (11, .inl (gC G 13, 160, .inl (fun _ => 0))), (10, .inl (gC G 13, 4, .inl (upd (upd (upd (upd (fun _ => 0) 0 (i32 60)) 1 (i32 0)) 2 (i32 (-1))) 3 (i32 0))))]) (by simp [List.lookup, beq_eq_false_iff_ne.mpr h9, beq_eq_false_iff_ne.mpr h11, beq_eq_false_iff_ne.mpr h10]))
set_option maxHeartbeats 4000000 in
set_option maxRecDepth 20000 in
theorem ct_5_12 {l : Launch} {G : GT} {f : Nat → va_E} (hf : f 12 = .inr (5, [.null, .null, .int 0])) : CTc l yX5_init cX5_init 1 1 60 2 164 G [.ref (gh G + 12)] 13 f 15 (mw G f 12 []) := by
  refine CTc.mk (own := RX5) (by decide) rfl (Nat.le_of_ble_eq_true rfl) ?_
  intro p e s m below meth c ls X hin hO hP hS hl
  have hl : lv_has ls 1 [(0, .ref (gh G + 12))] := hl
  have hz0 := hP.1
  have hP := mw_start hf hP
  refine lv_aload_n X.1 X.2.1 dX5_init_0 rfl (lv_at hl 0 rfl) ?_
  refine q_obj X hl.1 (tb t_150 rfl) (tb t_101 rfl) (tb t_102 rfl) (by decide) (Nat.le_of_ble_eq_true rfl) dX5_init_1 ?_
  refine lv_aload_n X.1 X.2.1 dX5_init_4 rfl (lv_at hl 0 rfl) ?_
  refine lv_iconst (v := i32 4) X.1 X.2.1 dX5_init_5 rfl ?_
  refine q_newa13 (N := 4) X hP hS (tb t_145 rfl) (by decide) (Nat.le_of_ble_eq_true rfl) (Nat.le_of_ble_eq_true rfl) (Nat.le_of_ble_eq_true rfl) dX5_init_6 (fun H hP hS => ?_)
  rw [mw_up (by decide)] at hP
  have hP : PWc G 14 (mw G f 12 [(13, .inl (gC G 13, 4, .inl (fun _ => 0))), (12, .inr (5, [.null, .null, .int 0]))]) H := hP
  refine lv_dup X.1 X.2.1 dX5_init_8 rfl ?_
  refine lv_iconst (v := i32 0) X.1 X.2.1 dX5_init_9 rfl ?_
  refine lv_bipush (v := i32 60) X.1 X.2.1 dX5_init_10 (by decide) ?_
  refine q_iast (k := 13) (N := 4) (j := 0) (g := fun _ => 0) X hP hS (by have := hz0; omega) (by decide) rfl (by decide) (by decide) dX5_init_12 (fun H locs hP hS => ?_)
  rw [mw_up (by decide)] at hP
  have hP : PWc G 14 (mw G f 12 [(13, .inl (gC G 13, 4, .inl (upd (fun _ => 0) 0 (i32 60)))), (12, .inr (5, [.null, .null, .int 0]))]) H := hP
  refine lv_dup X.1 X.2.1 dX5_init_13 rfl ?_
  refine lv_iconst (v := i32 1) X.1 X.2.1 dX5_init_14 rfl ?_
  refine lv_iconst (v := i32 0) X.1 X.2.1 dX5_init_15 rfl ?_
  refine q_iast (k := 13) (N := 4) (j := 1) (g := upd (fun _ => 0) 0 (i32 60)) X hP hS (by have := hz0; omega) (by decide) rfl (by decide) (by decide) dX5_init_16 (fun H locs hP hS => ?_)
  rw [mw_up (by decide)] at hP
  have hP : PWc G 14 (mw G f 12 [(13, .inl (gC G 13, 4, .inl (upd (upd (fun _ => 0) 0 (i32 60)) 1 (i32 0)))), (12, .inr (5, [.null, .null, .int 0]))]) H := hP
  refine lv_dup X.1 X.2.1 dX5_init_17 rfl ?_
  refine lv_iconst (v := i32 2) X.1 X.2.1 dX5_init_18 rfl ?_
  refine lv_iconst (v := i32 (-1)) X.1 X.2.1 dX5_init_19 rfl ?_
  refine q_iast (k := 13) (N := 4) (j := 2) (g := upd (upd (fun _ => 0) 0 (i32 60)) 1 (i32 0)) X hP hS (by have := hz0; omega) (by decide) rfl (by decide) (by decide) dX5_init_20 (fun H locs hP hS => ?_)
  rw [mw_up (by decide)] at hP
  have hP : PWc G 14 (mw G f 12 [(13, .inl (gC G 13, 4, .inl (upd (upd (upd (fun _ => 0) 0 (i32 60)) 1 (i32 0)) 2 (i32 (-1))))), (12, .inr (5, [.null, .null, .int 0]))]) H := hP
  refine lv_dup X.1 X.2.1 dX5_init_21 rfl ?_
  refine lv_iconst (v := i32 3) X.1 X.2.1 dX5_init_22 rfl ?_
  refine lv_iconst (v := i32 0) X.1 X.2.1 dX5_init_23 rfl ?_
  refine q_iast (k := 13) (N := 4) (j := 3) (g := upd (upd (upd (fun _ => 0) 0 (i32 60)) 1 (i32 0)) 2 (i32 (-1))) X hP hS (by have := hz0; omega) (by decide) rfl (by decide) (by decide) dX5_init_24 (fun H locs hP hS => ?_)
  rw [mw_up (by decide)] at hP
  have hP : PWc G 14 (mw G f 12 [(13, .inl (gC G 13, 4, .inl (upd (upd (upd (upd (fun _ => 0) 0 (i32 60)) 1 (i32 0)) 2 (i32 (-1))) 3 (i32 0)))), (12, .inr (5, [.null, .null, .int 0]))]) H := hP
  refine q_putF (k := 12) (ci := 5) (j := 0) (T := TX5) (fs := [.null, .null, .int 0]) X hP hS (by have := hz0; omega) (by decide) rfl rfl (inTB inX5) tyX5 tyX5_ok nmX5 (by decide) (tb t_151 rfl) rfl hin rfl (tyX5_ok 0 (by decide)) rfl rfl (Nat.le_of_ble_eq_true rfl) dX5_init_25 (fun H locs hP hS => ?_)
  rw [mw_up (by decide)] at hP
  have hP : PWc G 14 (mw G f 12 [(12, .inr (5, [.ref (gh G + 13), .null, .int 0])), (13, .inl (gC G 13, 4, .inl (upd (upd (upd (upd (fun _ => 0) 0 (i32 60)) 1 (i32 0)) 2 (i32 (-1))) 3 (i32 0))))]) H := hP
  refine lv_aload_n X.1 X.2.1 dX5_init_28 rfl (lv_at hl 0 rfl) ?_
  refine lv_sipush (v := i32 160) X.1 X.2.1 dX5_init_29 (by decide) ?_
  refine q_newa13 (N := 160) X hP hS (tb t_145 rfl) (by decide) (Nat.le_of_ble_eq_true rfl) (Nat.le_of_ble_eq_true rfl) (Nat.le_of_ble_eq_true rfl) dX5_init_32 (fun H hP hS => ?_)
  rw [mw_up (by decide)] at hP
  have hP : PWc G 15 (mw G f 12 [(14, .inl (gC G 13, 160, .inl (fun _ => 0))), (12, .inr (5, [.ref (gh G + 13), .null, .int 0])), (13, .inl (gC G 13, 4, .inl (upd (upd (upd (upd (fun _ => 0) 0 (i32 60)) 1 (i32 0)) 2 (i32 (-1))) 3 (i32 0))))]) H := hP
  refine q_putF (k := 12) (ci := 5) (j := 1) (T := TX5) (fs := [.ref (gh G + 13), .null, .int 0]) X hP hS (by have := hz0; omega) (by decide) rfl rfl (inTB inX5) tyX5 tyX5_ok nmX5 (by decide) (tb t_154 rfl) rfl hin rfl (tyX5_ok 1 (by decide)) rfl rfl (Nat.le_of_ble_eq_true rfl) dX5_init_34 (fun H locs hP hS => ?_)
  rw [mw_up (by decide)] at hP
  have hP : PWc G 15 (mw G f 12 [(12, .inr (5, [.ref (gh G + 13), .ref (gh G + 14), .int 0])), (14, .inl (gC G 13, 160, .inl (fun _ => 0))), (13, .inl (gC G 13, 4, .inl (upd (upd (upd (upd (fun _ => 0) 0 (i32 60)) 1 (i32 0)) 2 (i32 (-1))) 3 (i32 0))))]) H := hP
  refine q_vret X (hP.congr (fun k hk => ?_)) hS dX5_init_37
  by_cases h12 : k = 12
  · subst h12
    exact fin_o (by decide) rfl (by rw [cE_5 (by decide +kernel)] <;> rfl)
  by_cases h14 : k = 14
  · subst h14
    exact fin_o (by decide) rfl (by rw [cE_13 (by decide +kernel)]; exact fin_i (by decide +kernel) (z0_z (by decide +kernel)))
  by_cases h13 : k = 13
  · subst h13
    exact fin_o (by decide) rfl (by rw [cE_13 (by decide +kernel)]; exact fin_i (by decide +kernel) (z0_tr (by decide)))
  exact Or.inl (mw_no (L := [(12, .inr (5, [.ref (gh G + 13), .ref (gh G + 14), .int 0])), (14, .inl (gC G 13, 160, .inl (fun _ => 0))), (13, .inl (gC G 13, 4, .inl (upd (upd (upd (upd (fun _ => 0) 0 (i32 60)) 1 (i32 0)) 2 (i32 (-1))) 3 (i32 0))))]) (by simp [List.lookup, beq_eq_false_iff_ne.mpr h12, beq_eq_false_iff_ne.mpr h14, beq_eq_false_iff_ne.mpr h13]))
set_option maxHeartbeats 4000000 in
set_option maxRecDepth 20000 in
theorem ct_5_15 {l : Launch} {G : GT} {f : Nat → va_E} (hf : f 15 = .inr (5, [.null, .null, .int 0])) : CTc l yX5_init cX5_init 1 1 60 2 164 G [.ref (gh G + 15)] 16 f 18 (mw G f 15 []) := by
  refine CTc.mk (own := RX5) (by decide) rfl (Nat.le_of_ble_eq_true rfl) ?_
  intro p e s m below meth c ls X hin hO hP hS hl
  have hl : lv_has ls 1 [(0, .ref (gh G + 15))] := hl
  have hz0 := hP.1
  have hP := mw_start hf hP
  refine lv_aload_n X.1 X.2.1 dX5_init_0 rfl (lv_at hl 0 rfl) ?_
  refine q_obj X hl.1 (tb t_150 rfl) (tb t_101 rfl) (tb t_102 rfl) (by decide) (Nat.le_of_ble_eq_true rfl) dX5_init_1 ?_
  refine lv_aload_n X.1 X.2.1 dX5_init_4 rfl (lv_at hl 0 rfl) ?_
  refine lv_iconst (v := i32 4) X.1 X.2.1 dX5_init_5 rfl ?_
  refine q_newa13 (N := 4) X hP hS (tb t_145 rfl) (by decide) (Nat.le_of_ble_eq_true rfl) (Nat.le_of_ble_eq_true rfl) (Nat.le_of_ble_eq_true rfl) dX5_init_6 (fun H hP hS => ?_)
  rw [mw_up (by decide)] at hP
  have hP : PWc G 17 (mw G f 15 [(16, .inl (gC G 13, 4, .inl (fun _ => 0))), (15, .inr (5, [.null, .null, .int 0]))]) H := hP
  refine lv_dup X.1 X.2.1 dX5_init_8 rfl ?_
  refine lv_iconst (v := i32 0) X.1 X.2.1 dX5_init_9 rfl ?_
  refine lv_bipush (v := i32 60) X.1 X.2.1 dX5_init_10 (by decide) ?_
  refine q_iast (k := 16) (N := 4) (j := 0) (g := fun _ => 0) X hP hS (by have := hz0; omega) (by decide) rfl (by decide) (by decide) dX5_init_12 (fun H locs hP hS => ?_)
  rw [mw_up (by decide)] at hP
  have hP : PWc G 17 (mw G f 15 [(16, .inl (gC G 13, 4, .inl (upd (fun _ => 0) 0 (i32 60)))), (15, .inr (5, [.null, .null, .int 0]))]) H := hP
  refine lv_dup X.1 X.2.1 dX5_init_13 rfl ?_
  refine lv_iconst (v := i32 1) X.1 X.2.1 dX5_init_14 rfl ?_
  refine lv_iconst (v := i32 0) X.1 X.2.1 dX5_init_15 rfl ?_
  refine q_iast (k := 16) (N := 4) (j := 1) (g := upd (fun _ => 0) 0 (i32 60)) X hP hS (by have := hz0; omega) (by decide) rfl (by decide) (by decide) dX5_init_16 (fun H locs hP hS => ?_)
  rw [mw_up (by decide)] at hP
  have hP : PWc G 17 (mw G f 15 [(16, .inl (gC G 13, 4, .inl (upd (upd (fun _ => 0) 0 (i32 60)) 1 (i32 0)))), (15, .inr (5, [.null, .null, .int 0]))]) H := hP
  refine lv_dup X.1 X.2.1 dX5_init_17 rfl ?_
  refine lv_iconst (v := i32 2) X.1 X.2.1 dX5_init_18 rfl ?_
  refine lv_iconst (v := i32 (-1)) X.1 X.2.1 dX5_init_19 rfl ?_
  refine q_iast (k := 16) (N := 4) (j := 2) (g := upd (upd (fun _ => 0) 0 (i32 60)) 1 (i32 0)) X hP hS (by have := hz0; omega) (by decide) rfl (by decide) (by decide) dX5_init_20 (fun H locs hP hS => ?_)
  rw [mw_up (by decide)] at hP
  have hP : PWc G 17 (mw G f 15 [(16, .inl (gC G 13, 4, .inl (upd (upd (upd (fun _ => 0) 0 (i32 60)) 1 (i32 0)) 2 (i32 (-1))))), (15, .inr (5, [.null, .null, .int 0]))]) H := hP
  refine lv_dup X.1 X.2.1 dX5_init_21 rfl ?_
  refine lv_iconst (v := i32 3) X.1 X.2.1 dX5_init_22 rfl ?_
  refine lv_iconst (v := i32 0) X.1 X.2.1 dX5_init_23 rfl ?_
  refine q_iast (k := 16) (N := 4) (j := 3) (g := upd (upd (upd (fun _ => 0) 0 (i32 60)) 1 (i32 0)) 2 (i32 (-1))) X hP hS (by have := hz0; omega) (by decide) rfl (by decide) (by decide) dX5_init_24 (fun H locs hP hS => ?_)
  rw [mw_up (by decide)] at hP
  have hP : PWc G 17 (mw G f 15 [(16, .inl (gC G 13, 4, .inl (upd (upd (upd (upd (fun _ => 0) 0 (i32 60)) 1 (i32 0)) 2 (i32 (-1))) 3 (i32 0)))), (15, .inr (5, [.null, .null, .int 0]))]) H := hP
  refine q_putF (k := 15) (ci := 5) (j := 0) (T := TX5) (fs := [.null, .null, .int 0]) X hP hS (by have := hz0; omega) (by decide) rfl rfl (inTB inX5) tyX5 tyX5_ok nmX5 (by decide) (tb t_151 rfl) rfl hin rfl (tyX5_ok 0 (by decide)) rfl rfl (Nat.le_of_ble_eq_true rfl) dX5_init_25 (fun H locs hP hS => ?_)
  rw [mw_up (by decide)] at hP
  have hP : PWc G 17 (mw G f 15 [(15, .inr (5, [.ref (gh G + 16), .null, .int 0])), (16, .inl (gC G 13, 4, .inl (upd (upd (upd (upd (fun _ => 0) 0 (i32 60)) 1 (i32 0)) 2 (i32 (-1))) 3 (i32 0))))]) H := hP
  refine lv_aload_n X.1 X.2.1 dX5_init_28 rfl (lv_at hl 0 rfl) ?_
  refine lv_sipush (v := i32 160) X.1 X.2.1 dX5_init_29 (by decide) ?_
  refine q_newa13 (N := 160) X hP hS (tb t_145 rfl) (by decide) (Nat.le_of_ble_eq_true rfl) (Nat.le_of_ble_eq_true rfl) (Nat.le_of_ble_eq_true rfl) dX5_init_32 (fun H hP hS => ?_)
  rw [mw_up (by decide)] at hP
  have hP : PWc G 18 (mw G f 15 [(17, .inl (gC G 13, 160, .inl (fun _ => 0))), (15, .inr (5, [.ref (gh G + 16), .null, .int 0])), (16, .inl (gC G 13, 4, .inl (upd (upd (upd (upd (fun _ => 0) 0 (i32 60)) 1 (i32 0)) 2 (i32 (-1))) 3 (i32 0))))]) H := hP
  refine q_putF (k := 15) (ci := 5) (j := 1) (T := TX5) (fs := [.ref (gh G + 16), .null, .int 0]) X hP hS (by have := hz0; omega) (by decide) rfl rfl (inTB inX5) tyX5 tyX5_ok nmX5 (by decide) (tb t_154 rfl) rfl hin rfl (tyX5_ok 1 (by decide)) rfl rfl (Nat.le_of_ble_eq_true rfl) dX5_init_34 (fun H locs hP hS => ?_)
  rw [mw_up (by decide)] at hP
  have hP : PWc G 18 (mw G f 15 [(15, .inr (5, [.ref (gh G + 16), .ref (gh G + 17), .int 0])), (17, .inl (gC G 13, 160, .inl (fun _ => 0))), (16, .inl (gC G 13, 4, .inl (upd (upd (upd (upd (fun _ => 0) 0 (i32 60)) 1 (i32 0)) 2 (i32 (-1))) 3 (i32 0))))]) H := hP
  refine q_vret X (hP.congr (fun k hk => ?_)) hS dX5_init_37
  by_cases h15 : k = 15
  · subst h15
    exact fin_o (by decide) rfl (by rw [cE_5 (by decide +kernel)] <;> rfl)
  by_cases h17 : k = 17
  · subst h17
    exact fin_o (by decide) rfl (by rw [cE_13 (by decide +kernel)]; exact fin_i (by decide +kernel) (z0_z (by decide +kernel)))
  by_cases h16 : k = 16
  · subst h16
    exact fin_o (by decide) rfl (by rw [cE_13 (by decide +kernel)]; exact fin_i (by decide +kernel) (z0_tr (by decide)))
  exact Or.inl (mw_no (L := [(15, .inr (5, [.ref (gh G + 16), .ref (gh G + 17), .int 0])), (17, .inl (gC G 13, 160, .inl (fun _ => 0))), (16, .inl (gC G 13, 4, .inl (upd (upd (upd (upd (fun _ => 0) 0 (i32 60)) 1 (i32 0)) 2 (i32 (-1))) 3 (i32 0))))]) (by simp [List.lookup, beq_eq_false_iff_ne.mpr h15, beq_eq_false_iff_ne.mpr h17, beq_eq_false_iff_ne.mpr h16]))
set_option maxHeartbeats 4000000 in
set_option maxRecDepth 20000 in
theorem ct_5_18 {l : Launch} {G : GT} {f : Nat → va_E} (hf : f 18 = .inr (5, [.null, .null, .int 0])) : CTc l yX5_init cX5_init 1 1 60 2 164 G [.ref (gh G + 18)] 19 f 21 (mw G f 18 []) := by
  refine CTc.mk (own := RX5) (by decide) rfl (Nat.le_of_ble_eq_true rfl) ?_
  intro p e s m below meth c ls X hin hO hP hS hl
  have hl : lv_has ls 1 [(0, .ref (gh G + 18))] := hl
  have hz0 := hP.1
  have hP := mw_start hf hP
  refine lv_aload_n X.1 X.2.1 dX5_init_0 rfl (lv_at hl 0 rfl) ?_
  refine q_obj X hl.1 (tb t_150 rfl) (tb t_101 rfl) (tb t_102 rfl) (by decide) (Nat.le_of_ble_eq_true rfl) dX5_init_1 ?_
  refine lv_aload_n X.1 X.2.1 dX5_init_4 rfl (lv_at hl 0 rfl) ?_
  refine lv_iconst (v := i32 4) X.1 X.2.1 dX5_init_5 rfl ?_
  refine q_newa13 (N := 4) X hP hS (tb t_145 rfl) (by decide) (Nat.le_of_ble_eq_true rfl) (Nat.le_of_ble_eq_true rfl) (Nat.le_of_ble_eq_true rfl) dX5_init_6 (fun H hP hS => ?_)
  rw [mw_up (by decide)] at hP
  have hP : PWc G 20 (mw G f 18 [(19, .inl (gC G 13, 4, .inl (fun _ => 0))), (18, .inr (5, [.null, .null, .int 0]))]) H := hP
  refine lv_dup X.1 X.2.1 dX5_init_8 rfl ?_
  refine lv_iconst (v := i32 0) X.1 X.2.1 dX5_init_9 rfl ?_
  refine lv_bipush (v := i32 60) X.1 X.2.1 dX5_init_10 (by decide) ?_
  refine q_iast (k := 19) (N := 4) (j := 0) (g := fun _ => 0) X hP hS (by have := hz0; omega) (by decide) rfl (by decide) (by decide) dX5_init_12 (fun H locs hP hS => ?_)
  rw [mw_up (by decide)] at hP
  have hP : PWc G 20 (mw G f 18 [(19, .inl (gC G 13, 4, .inl (upd (fun _ => 0) 0 (i32 60)))), (18, .inr (5, [.null, .null, .int 0]))]) H := hP
  refine lv_dup X.1 X.2.1 dX5_init_13 rfl ?_
  refine lv_iconst (v := i32 1) X.1 X.2.1 dX5_init_14 rfl ?_
  refine lv_iconst (v := i32 0) X.1 X.2.1 dX5_init_15 rfl ?_
  refine q_iast (k := 19) (N := 4) (j := 1) (g := upd (fun _ => 0) 0 (i32 60)) X hP hS (by have := hz0; omega) (by decide) rfl (by decide) (by decide) dX5_init_16 (fun H locs hP hS => ?_)
  rw [mw_up (by decide)] at hP
  have hP : PWc G 20 (mw G f 18 [(19, .inl (gC G 13, 4, .inl (upd (upd (fun _ => 0) 0 (i32 60)) 1 (i32 0)))), (18, .inr (5, [.null, .null, .int 0]))]) H := hP
  refine lv_dup X.1 X.2.1 dX5_init_17 rfl ?_
  refine lv_iconst (v := i32 2) X.1 X.2.1 dX5_init_18 rfl ?_
  refine lv_iconst (v := i32 (-1)) X.1 X.2.1 dX5_init_19 rfl ?_
  refine q_iast (k := 19) (N := 4) (j := 2) (g := upd (upd (fun _ => 0) 0 (i32 60)) 1 (i32 0)) X hP hS (by have := hz0; omega) (by decide) rfl (by decide) (by decide) dX5_init_20 (fun H locs hP hS => ?_)
  rw [mw_up (by decide)] at hP
  have hP : PWc G 20 (mw G f 18 [(19, .inl (gC G 13, 4, .inl (upd (upd (upd (fun _ => 0) 0 (i32 60)) 1 (i32 0)) 2 (i32 (-1))))), (18, .inr (5, [.null, .null, .int 0]))]) H := hP
  refine lv_dup X.1 X.2.1 dX5_init_21 rfl ?_
  refine lv_iconst (v := i32 3) X.1 X.2.1 dX5_init_22 rfl ?_
  refine lv_iconst (v := i32 0) X.1 X.2.1 dX5_init_23 rfl ?_
  refine q_iast (k := 19) (N := 4) (j := 3) (g := upd (upd (upd (fun _ => 0) 0 (i32 60)) 1 (i32 0)) 2 (i32 (-1))) X hP hS (by have := hz0; omega) (by decide) rfl (by decide) (by decide) dX5_init_24 (fun H locs hP hS => ?_)
  rw [mw_up (by decide)] at hP
  have hP : PWc G 20 (mw G f 18 [(19, .inl (gC G 13, 4, .inl (upd (upd (upd (upd (fun _ => 0) 0 (i32 60)) 1 (i32 0)) 2 (i32 (-1))) 3 (i32 0)))), (18, .inr (5, [.null, .null, .int 0]))]) H := hP
  refine q_putF (k := 18) (ci := 5) (j := 0) (T := TX5) (fs := [.null, .null, .int 0]) X hP hS (by have := hz0; omega) (by decide) rfl rfl (inTB inX5) tyX5 tyX5_ok nmX5 (by decide) (tb t_151 rfl) rfl hin rfl (tyX5_ok 0 (by decide)) rfl rfl (Nat.le_of_ble_eq_true rfl) dX5_init_25 (fun H locs hP hS => ?_)
  rw [mw_up (by decide)] at hP
  have hP : PWc G 20 (mw G f 18 [(18, .inr (5, [.ref (gh G + 19), .null, .int 0])), (19, .inl (gC G 13, 4, .inl (upd (upd (upd (upd (fun _ => 0) 0 (i32 60)) 1 (i32 0)) 2 (i32 (-1))) 3 (i32 0))))]) H := hP
  refine lv_aload_n X.1 X.2.1 dX5_init_28 rfl (lv_at hl 0 rfl) ?_
  refine lv_sipush (v := i32 160) X.1 X.2.1 dX5_init_29 (by decide) ?_
  refine q_newa13 (N := 160) X hP hS (tb t_145 rfl) (by decide) (Nat.le_of_ble_eq_true rfl) (Nat.le_of_ble_eq_true rfl) (Nat.le_of_ble_eq_true rfl) dX5_init_32 (fun H hP hS => ?_)
  rw [mw_up (by decide)] at hP
  have hP : PWc G 21 (mw G f 18 [(20, .inl (gC G 13, 160, .inl (fun _ => 0))), (18, .inr (5, [.ref (gh G + 19), .null, .int 0])), (19, .inl (gC G 13, 4, .inl (upd (upd (upd (upd (fun _ => 0) 0 (i32 60)) 1 (i32 0)) 2 (i32 (-1))) 3 (i32 0))))]) H := hP
  refine q_putF (k := 18) (ci := 5) (j := 1) (T := TX5) (fs := [.ref (gh G + 19), .null, .int 0]) X hP hS (by have := hz0; omega) (by decide) rfl rfl (inTB inX5) tyX5 tyX5_ok nmX5 (by decide) (tb t_154 rfl) rfl hin rfl (tyX5_ok 1 (by decide)) rfl rfl (Nat.le_of_ble_eq_true rfl) dX5_init_34 (fun H locs hP hS => ?_)
  rw [mw_up (by decide)] at hP
  have hP : PWc G 21 (mw G f 18 [(18, .inr (5, [.ref (gh G + 19), .ref (gh G + 20), .int 0])), (20, .inl (gC G 13, 160, .inl (fun _ => 0))), (19, .inl (gC G 13, 4, .inl (upd (upd (upd (upd (fun _ => 0) 0 (i32 60)) 1 (i32 0)) 2 (i32 (-1))) 3 (i32 0))))]) H := hP
  refine q_vret X (hP.congr (fun k hk => ?_)) hS dX5_init_37
  by_cases h18 : k = 18
  · subst h18
    exact fin_o (by decide) rfl (by rw [cE_5 (by decide +kernel)] <;> rfl)
  by_cases h20 : k = 20
  · subst h20
    exact fin_o (by decide) rfl (by rw [cE_13 (by decide +kernel)]; exact fin_i (by decide +kernel) (z0_z (by decide +kernel)))
  by_cases h19 : k = 19
  · subst h19
    exact fin_o (by decide) rfl (by rw [cE_13 (by decide +kernel)]; exact fin_i (by decide +kernel) (z0_tr (by decide)))
  exact Or.inl (mw_no (L := [(18, .inr (5, [.ref (gh G + 19), .ref (gh G + 20), .int 0])), (20, .inl (gC G 13, 160, .inl (fun _ => 0))), (19, .inl (gC G 13, 4, .inl (upd (upd (upd (upd (fun _ => 0) 0 (i32 60)) 1 (i32 0)) 2 (i32 (-1))) 3 (i32 0))))]) (by simp [List.lookup, beq_eq_false_iff_ne.mpr h18, beq_eq_false_iff_ne.mpr h20, beq_eq_false_iff_ne.mpr h19]))
set_option maxHeartbeats 4000000 in
set_option maxRecDepth 20000 in
theorem ct_5_29 {l : Launch} {G : GT} {f : Nat → va_E} (hf : f 29 = .inr (5, [.null, .null, .int 0])) : CTc l yX5_init cX5_init 1 1 60 2 164 G [.ref (gh G + 29)] 30 f 32 (mw G f 29 []) := by
  refine CTc.mk (own := RX5) (by decide) rfl (Nat.le_of_ble_eq_true rfl) ?_
  intro p e s m below meth c ls X hin hO hP hS hl
  have hl : lv_has ls 1 [(0, .ref (gh G + 29))] := hl
  have hz0 := hP.1
  have hP := mw_start hf hP
  refine lv_aload_n X.1 X.2.1 dX5_init_0 rfl (lv_at hl 0 rfl) ?_
  refine q_obj X hl.1 (tb t_150 rfl) (tb t_101 rfl) (tb t_102 rfl) (by decide) (Nat.le_of_ble_eq_true rfl) dX5_init_1 ?_
  refine lv_aload_n X.1 X.2.1 dX5_init_4 rfl (lv_at hl 0 rfl) ?_
  refine lv_iconst (v := i32 4) X.1 X.2.1 dX5_init_5 rfl ?_
  refine q_newa13 (N := 4) X hP hS (tb t_145 rfl) (by decide) (Nat.le_of_ble_eq_true rfl) (Nat.le_of_ble_eq_true rfl) (Nat.le_of_ble_eq_true rfl) dX5_init_6 (fun H hP hS => ?_)
  rw [mw_up (by decide)] at hP
  have hP : PWc G 31 (mw G f 29 [(30, .inl (gC G 13, 4, .inl (fun _ => 0))), (29, .inr (5, [.null, .null, .int 0]))]) H := hP
  refine lv_dup X.1 X.2.1 dX5_init_8 rfl ?_
  refine lv_iconst (v := i32 0) X.1 X.2.1 dX5_init_9 rfl ?_
  refine lv_bipush (v := i32 60) X.1 X.2.1 dX5_init_10 (by decide) ?_
  refine q_iast (k := 30) (N := 4) (j := 0) (g := fun _ => 0) X hP hS (by have := hz0; omega) (by decide) rfl (by decide) (by decide) dX5_init_12 (fun H locs hP hS => ?_)
  rw [mw_up (by decide)] at hP
  have hP : PWc G 31 (mw G f 29 [(30, .inl (gC G 13, 4, .inl (upd (fun _ => 0) 0 (i32 60)))), (29, .inr (5, [.null, .null, .int 0]))]) H := hP
  refine lv_dup X.1 X.2.1 dX5_init_13 rfl ?_
  refine lv_iconst (v := i32 1) X.1 X.2.1 dX5_init_14 rfl ?_
  refine lv_iconst (v := i32 0) X.1 X.2.1 dX5_init_15 rfl ?_
  refine q_iast (k := 30) (N := 4) (j := 1) (g := upd (fun _ => 0) 0 (i32 60)) X hP hS (by have := hz0; omega) (by decide) rfl (by decide) (by decide) dX5_init_16 (fun H locs hP hS => ?_)
  rw [mw_up (by decide)] at hP
  have hP : PWc G 31 (mw G f 29 [(30, .inl (gC G 13, 4, .inl (upd (upd (fun _ => 0) 0 (i32 60)) 1 (i32 0)))), (29, .inr (5, [.null, .null, .int 0]))]) H := hP
  refine lv_dup X.1 X.2.1 dX5_init_17 rfl ?_
  refine lv_iconst (v := i32 2) X.1 X.2.1 dX5_init_18 rfl ?_
  refine lv_iconst (v := i32 (-1)) X.1 X.2.1 dX5_init_19 rfl ?_
  refine q_iast (k := 30) (N := 4) (j := 2) (g := upd (upd (fun _ => 0) 0 (i32 60)) 1 (i32 0)) X hP hS (by have := hz0; omega) (by decide) rfl (by decide) (by decide) dX5_init_20 (fun H locs hP hS => ?_)
  rw [mw_up (by decide)] at hP
  have hP : PWc G 31 (mw G f 29 [(30, .inl (gC G 13, 4, .inl (upd (upd (upd (fun _ => 0) 0 (i32 60)) 1 (i32 0)) 2 (i32 (-1))))), (29, .inr (5, [.null, .null, .int 0]))]) H := hP
  refine lv_dup X.1 X.2.1 dX5_init_21 rfl ?_
  refine lv_iconst (v := i32 3) X.1 X.2.1 dX5_init_22 rfl ?_
  refine lv_iconst (v := i32 0) X.1 X.2.1 dX5_init_23 rfl ?_
  refine q_iast (k := 30) (N := 4) (j := 3) (g := upd (upd (upd (fun _ => 0) 0 (i32 60)) 1 (i32 0)) 2 (i32 (-1))) X hP hS (by have := hz0; omega) (by decide) rfl (by decide) (by decide) dX5_init_24 (fun H locs hP hS => ?_)
  rw [mw_up (by decide)] at hP
  have hP : PWc G 31 (mw G f 29 [(30, .inl (gC G 13, 4, .inl (upd (upd (upd (upd (fun _ => 0) 0 (i32 60)) 1 (i32 0)) 2 (i32 (-1))) 3 (i32 0)))), (29, .inr (5, [.null, .null, .int 0]))]) H := hP
  refine q_putF (k := 29) (ci := 5) (j := 0) (T := TX5) (fs := [.null, .null, .int 0]) X hP hS (by have := hz0; omega) (by decide) rfl rfl (inTB inX5) tyX5 tyX5_ok nmX5 (by decide) (tb t_151 rfl) rfl hin rfl (tyX5_ok 0 (by decide)) rfl rfl (Nat.le_of_ble_eq_true rfl) dX5_init_25 (fun H locs hP hS => ?_)
  rw [mw_up (by decide)] at hP
  have hP : PWc G 31 (mw G f 29 [(29, .inr (5, [.ref (gh G + 30), .null, .int 0])), (30, .inl (gC G 13, 4, .inl (upd (upd (upd (upd (fun _ => 0) 0 (i32 60)) 1 (i32 0)) 2 (i32 (-1))) 3 (i32 0))))]) H := hP
  refine lv_aload_n X.1 X.2.1 dX5_init_28 rfl (lv_at hl 0 rfl) ?_
  refine lv_sipush (v := i32 160) X.1 X.2.1 dX5_init_29 (by decide) ?_
  refine q_newa13 (N := 160) X hP hS (tb t_145 rfl) (by decide) (Nat.le_of_ble_eq_true rfl) (Nat.le_of_ble_eq_true rfl) (Nat.le_of_ble_eq_true rfl) dX5_init_32 (fun H hP hS => ?_)
  rw [mw_up (by decide)] at hP
  have hP : PWc G 32 (mw G f 29 [(31, .inl (gC G 13, 160, .inl (fun _ => 0))), (29, .inr (5, [.ref (gh G + 30), .null, .int 0])), (30, .inl (gC G 13, 4, .inl (upd (upd (upd (upd (fun _ => 0) 0 (i32 60)) 1 (i32 0)) 2 (i32 (-1))) 3 (i32 0))))]) H := hP
  refine q_putF (k := 29) (ci := 5) (j := 1) (T := TX5) (fs := [.ref (gh G + 30), .null, .int 0]) X hP hS (by have := hz0; omega) (by decide) rfl rfl (inTB inX5) tyX5 tyX5_ok nmX5 (by decide) (tb t_154 rfl) rfl hin rfl (tyX5_ok 1 (by decide)) rfl rfl (Nat.le_of_ble_eq_true rfl) dX5_init_34 (fun H locs hP hS => ?_)
  rw [mw_up (by decide)] at hP
  have hP : PWc G 32 (mw G f 29 [(29, .inr (5, [.ref (gh G + 30), .ref (gh G + 31), .int 0])), (31, .inl (gC G 13, 160, .inl (fun _ => 0))), (30, .inl (gC G 13, 4, .inl (upd (upd (upd (upd (fun _ => 0) 0 (i32 60)) 1 (i32 0)) 2 (i32 (-1))) 3 (i32 0))))]) H := hP
  refine q_vret X (hP.congr (fun k hk => ?_)) hS dX5_init_37
  by_cases h29 : k = 29
  · subst h29
    exact fin_o (by decide) rfl (by rw [cE_5 (by decide +kernel)] <;> rfl)
  by_cases h31 : k = 31
  · subst h31
    exact fin_o (by decide) rfl (by rw [cE_13 (by decide +kernel)]; exact fin_i (by decide +kernel) (z0_z (by decide +kernel)))
  by_cases h30 : k = 30
  · subst h30
    exact fin_o (by decide) rfl (by rw [cE_13 (by decide +kernel)]; exact fin_i (by decide +kernel) (z0_tr (by decide)))
  exact Or.inl (mw_no (L := [(29, .inr (5, [.ref (gh G + 30), .ref (gh G + 31), .int 0])), (31, .inl (gC G 13, 160, .inl (fun _ => 0))), (30, .inl (gC G 13, 4, .inl (upd (upd (upd (upd (fun _ => 0) 0 (i32 60)) 1 (i32 0)) 2 (i32 (-1))) 3 (i32 0))))]) (by simp [List.lookup, beq_eq_false_iff_ne.mpr h29, beq_eq_false_iff_ne.mpr h31, beq_eq_false_iff_ne.mpr h30]))
set_option maxHeartbeats 4000000 in
set_option maxRecDepth 20000 in
theorem ct_5_32 {l : Launch} {G : GT} {f : Nat → va_E} (hf : f 32 = .inr (5, [.null, .null, .int 0])) : CTc l yX5_init cX5_init 1 1 60 2 164 G [.ref (gh G + 32)] 33 f 35 (mw G f 32 []) := by
  refine CTc.mk (own := RX5) (by decide) rfl (Nat.le_of_ble_eq_true rfl) ?_
  intro p e s m below meth c ls X hin hO hP hS hl
  have hl : lv_has ls 1 [(0, .ref (gh G + 32))] := hl
  have hz0 := hP.1
  have hP := mw_start hf hP
  refine lv_aload_n X.1 X.2.1 dX5_init_0 rfl (lv_at hl 0 rfl) ?_
  refine q_obj X hl.1 (tb t_150 rfl) (tb t_101 rfl) (tb t_102 rfl) (by decide) (Nat.le_of_ble_eq_true rfl) dX5_init_1 ?_
  refine lv_aload_n X.1 X.2.1 dX5_init_4 rfl (lv_at hl 0 rfl) ?_
  refine lv_iconst (v := i32 4) X.1 X.2.1 dX5_init_5 rfl ?_
  refine q_newa13 (N := 4) X hP hS (tb t_145 rfl) (by decide) (Nat.le_of_ble_eq_true rfl) (Nat.le_of_ble_eq_true rfl) (Nat.le_of_ble_eq_true rfl) dX5_init_6 (fun H hP hS => ?_)
  rw [mw_up (by decide)] at hP
  have hP : PWc G 34 (mw G f 32 [(33, .inl (gC G 13, 4, .inl (fun _ => 0))), (32, .inr (5, [.null, .null, .int 0]))]) H := hP
  refine lv_dup X.1 X.2.1 dX5_init_8 rfl ?_
  refine lv_iconst (v := i32 0) X.1 X.2.1 dX5_init_9 rfl ?_
  refine lv_bipush (v := i32 60) X.1 X.2.1 dX5_init_10 (by decide) ?_
  refine q_iast (k := 33) (N := 4) (j := 0) (g := fun _ => 0) X hP hS (by have := hz0; omega) (by decide) rfl (by decide) (by decide) dX5_init_12 (fun H locs hP hS => ?_)
  rw [mw_up (by decide)] at hP
  have hP : PWc G 34 (mw G f 32 [(33, .inl (gC G 13, 4, .inl (upd (fun _ => 0) 0 (i32 60)))), (32, .inr (5, [.null, .null, .int 0]))]) H := hP
  refine lv_dup X.1 X.2.1 dX5_init_13 rfl ?_
  refine lv_iconst (v := i32 1) X.1 X.2.1 dX5_init_14 rfl ?_
  refine lv_iconst (v := i32 0) X.1 X.2.1 dX5_init_15 rfl ?_
  refine q_iast (k := 33) (N := 4) (j := 1) (g := upd (fun _ => 0) 0 (i32 60)) X hP hS (by have := hz0; omega) (by decide) rfl (by decide) (by decide) dX5_init_16 (fun H locs hP hS => ?_)
  rw [mw_up (by decide)] at hP
  have hP : PWc G 34 (mw G f 32 [(33, .inl (gC G 13, 4, .inl (upd (upd (fun _ => 0) 0 (i32 60)) 1 (i32 0)))), (32, .inr (5, [.null, .null, .int 0]))]) H := hP
  refine lv_dup X.1 X.2.1 dX5_init_17 rfl ?_
  refine lv_iconst (v := i32 2) X.1 X.2.1 dX5_init_18 rfl ?_
  refine lv_iconst (v := i32 (-1)) X.1 X.2.1 dX5_init_19 rfl ?_
  refine q_iast (k := 33) (N := 4) (j := 2) (g := upd (upd (fun _ => 0) 0 (i32 60)) 1 (i32 0)) X hP hS (by have := hz0; omega) (by decide) rfl (by decide) (by decide) dX5_init_20 (fun H locs hP hS => ?_)
  rw [mw_up (by decide)] at hP
  have hP : PWc G 34 (mw G f 32 [(33, .inl (gC G 13, 4, .inl (upd (upd (upd (fun _ => 0) 0 (i32 60)) 1 (i32 0)) 2 (i32 (-1))))), (32, .inr (5, [.null, .null, .int 0]))]) H := hP
  refine lv_dup X.1 X.2.1 dX5_init_21 rfl ?_
  refine lv_iconst (v := i32 3) X.1 X.2.1 dX5_init_22 rfl ?_
  refine lv_iconst (v := i32 0) X.1 X.2.1 dX5_init_23 rfl ?_
  refine q_iast (k := 33) (N := 4) (j := 3) (g := upd (upd (upd (fun _ => 0) 0 (i32 60)) 1 (i32 0)) 2 (i32 (-1))) X hP hS (by have := hz0; omega) (by decide) rfl (by decide) (by decide) dX5_init_24 (fun H locs hP hS => ?_)
  rw [mw_up (by decide)] at hP
  have hP : PWc G 34 (mw G f 32 [(33, .inl (gC G 13, 4, .inl (upd (upd (upd (upd (fun _ => 0) 0 (i32 60)) 1 (i32 0)) 2 (i32 (-1))) 3 (i32 0)))), (32, .inr (5, [.null, .null, .int 0]))]) H := hP
  refine q_putF (k := 32) (ci := 5) (j := 0) (T := TX5) (fs := [.null, .null, .int 0]) X hP hS (by have := hz0; omega) (by decide) rfl rfl (inTB inX5) tyX5 tyX5_ok nmX5 (by decide) (tb t_151 rfl) rfl hin rfl (tyX5_ok 0 (by decide)) rfl rfl (Nat.le_of_ble_eq_true rfl) dX5_init_25 (fun H locs hP hS => ?_)
  rw [mw_up (by decide)] at hP
  have hP : PWc G 34 (mw G f 32 [(32, .inr (5, [.ref (gh G + 33), .null, .int 0])), (33, .inl (gC G 13, 4, .inl (upd (upd (upd (upd (fun _ => 0) 0 (i32 60)) 1 (i32 0)) 2 (i32 (-1))) 3 (i32 0))))]) H := hP
  refine lv_aload_n X.1 X.2.1 dX5_init_28 rfl (lv_at hl 0 rfl) ?_
  refine lv_sipush (v := i32 160) X.1 X.2.1 dX5_init_29 (by decide) ?_
  refine q_newa13 (N := 160) X hP hS (tb t_145 rfl) (by decide) (Nat.le_of_ble_eq_true rfl) (Nat.le_of_ble_eq_true rfl) (Nat.le_of_ble_eq_true rfl) dX5_init_32 (fun H hP hS => ?_)
  rw [mw_up (by decide)] at hP
  have hP : PWc G 35 (mw G f 32 [(34, .inl (gC G 13, 160, .inl (fun _ => 0))), (32, .inr (5, [.ref (gh G + 33), .null, .int 0])), (33, .inl (gC G 13, 4, .inl (upd (upd (upd (upd (fun _ => 0) 0 (i32 60)) 1 (i32 0)) 2 (i32 (-1))) 3 (i32 0))))]) H := hP
  refine q_putF (k := 32) (ci := 5) (j := 1) (T := TX5) (fs := [.ref (gh G + 33), .null, .int 0]) X hP hS (by have := hz0; omega) (by decide) rfl rfl (inTB inX5) tyX5 tyX5_ok nmX5 (by decide) (tb t_154 rfl) rfl hin rfl (tyX5_ok 1 (by decide)) rfl rfl (Nat.le_of_ble_eq_true rfl) dX5_init_34 (fun H locs hP hS => ?_)
  rw [mw_up (by decide)] at hP
  have hP : PWc G 35 (mw G f 32 [(32, .inr (5, [.ref (gh G + 33), .ref (gh G + 34), .int 0])), (34, .inl (gC G 13, 160, .inl (fun _ => 0))), (33, .inl (gC G 13, 4, .inl (upd (upd (upd (upd (fun _ => 0) 0 (i32 60)) 1 (i32 0)) 2 (i32 (-1))) 3 (i32 0))))]) H := hP
  refine q_vret X (hP.congr (fun k hk => ?_)) hS dX5_init_37
  by_cases h32 : k = 32
  · subst h32
    exact fin_o (by decide) rfl (by rw [cE_5 (by decide +kernel)] <;> rfl)
  by_cases h34 : k = 34
  · subst h34
    exact fin_o (by decide) rfl (by rw [cE_13 (by decide +kernel)]; exact fin_i (by decide +kernel) (z0_z (by decide +kernel)))
  by_cases h33 : k = 33
  · subst h33
    exact fin_o (by decide) rfl (by rw [cE_13 (by decide +kernel)]; exact fin_i (by decide +kernel) (z0_tr (by decide)))
  exact Or.inl (mw_no (L := [(32, .inr (5, [.ref (gh G + 33), .ref (gh G + 34), .int 0])), (34, .inl (gC G 13, 160, .inl (fun _ => 0))), (33, .inl (gC G 13, 4, .inl (upd (upd (upd (upd (fun _ => 0) 0 (i32 60)) 1 (i32 0)) 2 (i32 (-1))) 3 (i32 0))))]) (by simp [List.lookup, beq_eq_false_iff_ne.mpr h32, beq_eq_false_iff_ne.mpr h34, beq_eq_false_iff_ne.mpr h33]))
set_option maxHeartbeats 4000000 in
set_option maxRecDepth 20000 in
theorem ct_5_35 {l : Launch} {G : GT} {f : Nat → va_E} (hf : f 35 = .inr (5, [.null, .null, .int 0])) : CTc l yX5_init cX5_init 1 1 60 2 164 G [.ref (gh G + 35)] 36 f 38 (mw G f 35 []) := by
  refine CTc.mk (own := RX5) (by decide) rfl (Nat.le_of_ble_eq_true rfl) ?_
  intro p e s m below meth c ls X hin hO hP hS hl
  have hl : lv_has ls 1 [(0, .ref (gh G + 35))] := hl
  have hz0 := hP.1
  have hP := mw_start hf hP
  refine lv_aload_n X.1 X.2.1 dX5_init_0 rfl (lv_at hl 0 rfl) ?_
  refine q_obj X hl.1 (tb t_150 rfl) (tb t_101 rfl) (tb t_102 rfl) (by decide) (Nat.le_of_ble_eq_true rfl) dX5_init_1 ?_
  refine lv_aload_n X.1 X.2.1 dX5_init_4 rfl (lv_at hl 0 rfl) ?_
  refine lv_iconst (v := i32 4) X.1 X.2.1 dX5_init_5 rfl ?_
  refine q_newa13 (N := 4) X hP hS (tb t_145 rfl) (by decide) (Nat.le_of_ble_eq_true rfl) (Nat.le_of_ble_eq_true rfl) (Nat.le_of_ble_eq_true rfl) dX5_init_6 (fun H hP hS => ?_)
  rw [mw_up (by decide)] at hP
  have hP : PWc G 37 (mw G f 35 [(36, .inl (gC G 13, 4, .inl (fun _ => 0))), (35, .inr (5, [.null, .null, .int 0]))]) H := hP
  refine lv_dup X.1 X.2.1 dX5_init_8 rfl ?_
  refine lv_iconst (v := i32 0) X.1 X.2.1 dX5_init_9 rfl ?_
  refine lv_bipush (v := i32 60) X.1 X.2.1 dX5_init_10 (by decide) ?_
  refine q_iast (k := 36) (N := 4) (j := 0) (g := fun _ => 0) X hP hS (by have := hz0; omega) (by decide) rfl (by decide) (by decide) dX5_init_12 (fun H locs hP hS => ?_)
  rw [mw_up (by decide)] at hP
  have hP : PWc G 37 (mw G f 35 [(36, .inl (gC G 13, 4, .inl (upd (fun _ => 0) 0 (i32 60)))), (35, .inr (5, [.null, .null, .int 0]))]) H := hP
  refine lv_dup X.1 X.2.1 dX5_init_13 rfl ?_
  refine lv_iconst (v := i32 1) X.1 X.2.1 dX5_init_14 rfl ?_
  refine lv_iconst (v := i32 0) X.1 X.2.1 dX5_init_15 rfl ?_
  refine q_iast (k := 36) (N := 4) (j := 1) (g := upd (fun _ => 0) 0 (i32 60)) X hP hS (by have := hz0; omega) (by decide) rfl (by decide) (by decide) dX5_init_16 (fun H locs hP hS => ?_)
  rw [mw_up (by decide)] at hP
  have hP : PWc G 37 (mw G f 35 [(36, .inl (gC G 13, 4, .inl (upd (upd (fun _ => 0) 0 (i32 60)) 1 (i32 0)))), (35, .inr (5, [.null, .null, .int 0]))]) H := hP
  refine lv_dup X.1 X.2.1 dX5_init_17 rfl ?_
  refine lv_iconst (v := i32 2) X.1 X.2.1 dX5_init_18 rfl ?_
  refine lv_iconst (v := i32 (-1)) X.1 X.2.1 dX5_init_19 rfl ?_
  refine q_iast (k := 36) (N := 4) (j := 2) (g := upd (upd (fun _ => 0) 0 (i32 60)) 1 (i32 0)) X hP hS (by have := hz0; omega) (by decide) rfl (by decide) (by decide) dX5_init_20 (fun H locs hP hS => ?_)
  rw [mw_up (by decide)] at hP
  have hP : PWc G 37 (mw G f 35 [(36, .inl (gC G 13, 4, .inl (upd (upd (upd (fun _ => 0) 0 (i32 60)) 1 (i32 0)) 2 (i32 (-1))))), (35, .inr (5, [.null, .null, .int 0]))]) H := hP
  refine lv_dup X.1 X.2.1 dX5_init_21 rfl ?_
  refine lv_iconst (v := i32 3) X.1 X.2.1 dX5_init_22 rfl ?_
  refine lv_iconst (v := i32 0) X.1 X.2.1 dX5_init_23 rfl ?_
  refine q_iast (k := 36) (N := 4) (j := 3) (g := upd (upd (upd (fun _ => 0) 0 (i32 60)) 1 (i32 0)) 2 (i32 (-1))) X hP hS (by have := hz0; omega) (by decide) rfl (by decide) (by decide) dX5_init_24 (fun H locs hP hS => ?_)
  rw [mw_up (by decide)] at hP
  have hP : PWc G 37 (mw G f 35 [(36, .inl (gC G 13, 4, .inl (upd (upd (upd (upd (fun _ => 0) 0 (i32 60)) 1 (i32 0)) 2 (i32 (-1))) 3 (i32 0)))), (35, .inr (5, [.null, .null, .int 0]))]) H := hP
  refine q_putF (k := 35) (ci := 5) (j := 0) (T := TX5) (fs := [.null, .null, .int 0]) X hP hS (by have := hz0; omega) (by decide) rfl rfl (inTB inX5) tyX5 tyX5_ok nmX5 (by decide) (tb t_151 rfl) rfl hin rfl (tyX5_ok 0 (by decide)) rfl rfl (Nat.le_of_ble_eq_true rfl) dX5_init_25 (fun H locs hP hS => ?_)
  rw [mw_up (by decide)] at hP
  have hP : PWc G 37 (mw G f 35 [(35, .inr (5, [.ref (gh G + 36), .null, .int 0])), (36, .inl (gC G 13, 4, .inl (upd (upd (upd (upd (fun _ => 0) 0 (i32 60)) 1 (i32 0)) 2 (i32 (-1))) 3 (i32 0))))]) H := hP
  refine lv_aload_n X.1 X.2.1 dX5_init_28 rfl (lv_at hl 0 rfl) ?_
  refine lv_sipush (v := i32 160) X.1 X.2.1 dX5_init_29 (by decide) ?_
  refine q_newa13 (N := 160) X hP hS (tb t_145 rfl) (by decide) (Nat.le_of_ble_eq_true rfl) (Nat.le_of_ble_eq_true rfl) (Nat.le_of_ble_eq_true rfl) dX5_init_32 (fun H hP hS => ?_)
  rw [mw_up (by decide)] at hP
  have hP : PWc G 38 (mw G f 35 [(37, .inl (gC G 13, 160, .inl (fun _ => 0))), (35, .inr (5, [.ref (gh G + 36), .null, .int 0])), (36, .inl (gC G 13, 4, .inl (upd (upd (upd (upd (fun _ => 0) 0 (i32 60)) 1 (i32 0)) 2 (i32 (-1))) 3 (i32 0))))]) H := hP
  refine q_putF (k := 35) (ci := 5) (j := 1) (T := TX5) (fs := [.ref (gh G + 36), .null, .int 0]) X hP hS (by have := hz0; omega) (by decide) rfl rfl (inTB inX5) tyX5 tyX5_ok nmX5 (by decide) (tb t_154 rfl) rfl hin rfl (tyX5_ok 1 (by decide)) rfl rfl (Nat.le_of_ble_eq_true rfl) dX5_init_34 (fun H locs hP hS => ?_)
  rw [mw_up (by decide)] at hP
  have hP : PWc G 38 (mw G f 35 [(35, .inr (5, [.ref (gh G + 36), .ref (gh G + 37), .int 0])), (37, .inl (gC G 13, 160, .inl (fun _ => 0))), (36, .inl (gC G 13, 4, .inl (upd (upd (upd (upd (fun _ => 0) 0 (i32 60)) 1 (i32 0)) 2 (i32 (-1))) 3 (i32 0))))]) H := hP
  refine q_vret X (hP.congr (fun k hk => ?_)) hS dX5_init_37
  by_cases h35 : k = 35
  · subst h35
    exact fin_o (by decide) rfl (by rw [cE_5 (by decide +kernel)] <;> rfl)
  by_cases h37 : k = 37
  · subst h37
    exact fin_o (by decide) rfl (by rw [cE_13 (by decide +kernel)]; exact fin_i (by decide +kernel) (z0_z (by decide +kernel)))
  by_cases h36 : k = 36
  · subst h36
    exact fin_o (by decide) rfl (by rw [cE_13 (by decide +kernel)]; exact fin_i (by decide +kernel) (z0_tr (by decide)))
  exact Or.inl (mw_no (L := [(35, .inr (5, [.ref (gh G + 36), .ref (gh G + 37), .int 0])), (37, .inl (gC G 13, 160, .inl (fun _ => 0))), (36, .inl (gC G 13, 4, .inl (upd (upd (upd (upd (fun _ => 0) 0 (i32 60)) 1 (i32 0)) 2 (i32 (-1))) 3 (i32 0))))]) (by simp [List.lookup, beq_eq_false_iff_ne.mpr h35, beq_eq_false_iff_ne.mpr h37, beq_eq_false_iff_ne.mpr h36]))
set_option maxHeartbeats 4000000 in
set_option maxRecDepth 20000 in
theorem ct_5_38 {l : Launch} {G : GT} {f : Nat → va_E} (hf : f 38 = .inr (5, [.null, .null, .int 0])) : CTc l yX5_init cX5_init 1 1 60 2 164 G [.ref (gh G + 38)] 39 f 41 (mw G f 38 []) := by
  refine CTc.mk (own := RX5) (by decide) rfl (Nat.le_of_ble_eq_true rfl) ?_
  intro p e s m below meth c ls X hin hO hP hS hl
  have hl : lv_has ls 1 [(0, .ref (gh G + 38))] := hl
  have hz0 := hP.1
  have hP := mw_start hf hP
  refine lv_aload_n X.1 X.2.1 dX5_init_0 rfl (lv_at hl 0 rfl) ?_
  refine q_obj X hl.1 (tb t_150 rfl) (tb t_101 rfl) (tb t_102 rfl) (by decide) (Nat.le_of_ble_eq_true rfl) dX5_init_1 ?_
  refine lv_aload_n X.1 X.2.1 dX5_init_4 rfl (lv_at hl 0 rfl) ?_
  refine lv_iconst (v := i32 4) X.1 X.2.1 dX5_init_5 rfl ?_
  refine q_newa13 (N := 4) X hP hS (tb t_145 rfl) (by decide) (Nat.le_of_ble_eq_true rfl) (Nat.le_of_ble_eq_true rfl) (Nat.le_of_ble_eq_true rfl) dX5_init_6 (fun H hP hS => ?_)
  rw [mw_up (by decide)] at hP
  have hP : PWc G 40 (mw G f 38 [(39, .inl (gC G 13, 4, .inl (fun _ => 0))), (38, .inr (5, [.null, .null, .int 0]))]) H := hP
  refine lv_dup X.1 X.2.1 dX5_init_8 rfl ?_
  refine lv_iconst (v := i32 0) X.1 X.2.1 dX5_init_9 rfl ?_
  refine lv_bipush (v := i32 60) X.1 X.2.1 dX5_init_10 (by decide) ?_
  refine q_iast (k := 39) (N := 4) (j := 0) (g := fun _ => 0) X hP hS (by have := hz0; omega) (by decide) rfl (by decide) (by decide) dX5_init_12 (fun H locs hP hS => ?_)
  rw [mw_up (by decide)] at hP
  have hP : PWc G 40 (mw G f 38 [(39, .inl (gC G 13, 4, .inl (upd (fun _ => 0) 0 (i32 60)))), (38, .inr (5, [.null, .null, .int 0]))]) H := hP
  refine lv_dup X.1 X.2.1 dX5_init_13 rfl ?_
  refine lv_iconst (v := i32 1) X.1 X.2.1 dX5_init_14 rfl ?_
  refine lv_iconst (v := i32 0) X.1 X.2.1 dX5_init_15 rfl ?_
  refine q_iast (k := 39) (N := 4) (j := 1) (g := upd (fun _ => 0) 0 (i32 60)) X hP hS (by have := hz0; omega) (by decide) rfl (by decide) (by decide) dX5_init_16 (fun H locs hP hS => ?_)
  rw [mw_up (by decide)] at hP
  have hP : PWc G 40 (mw G f 38 [(39, .inl (gC G 13, 4, .inl (upd (upd (fun _ => 0) 0 (i32 60)) 1 (i32 0)))), (38, .inr (5, [.null, .null, .int 0]))]) H := hP
  refine lv_dup X.1 X.2.1 dX5_init_17 rfl ?_
  refine lv_iconst (v := i32 2) X.1 X.2.1 dX5_init_18 rfl ?_
  refine lv_iconst (v := i32 (-1)) X.1 X.2.1 dX5_init_19 rfl ?_
  refine q_iast (k := 39) (N := 4) (j := 2) (g := upd (upd (fun _ => 0) 0 (i32 60)) 1 (i32 0)) X hP hS (by have := hz0; omega) (by decide) rfl (by decide) (by decide) dX5_init_20 (fun H locs hP hS => ?_)
  rw [mw_up (by decide)] at hP
  have hP : PWc G 40 (mw G f 38 [(39, .inl (gC G 13, 4, .inl (upd (upd (upd (fun _ => 0) 0 (i32 60)) 1 (i32 0)) 2 (i32 (-1))))), (38, .inr (5, [.null, .null, .int 0]))]) H := hP
  refine lv_dup X.1 X.2.1 dX5_init_21 rfl ?_
  refine lv_iconst (v := i32 3) X.1 X.2.1 dX5_init_22 rfl ?_
  refine lv_iconst (v := i32 0) X.1 X.2.1 dX5_init_23 rfl ?_
  refine q_iast (k := 39) (N := 4) (j := 3) (g := upd (upd (upd (fun _ => 0) 0 (i32 60)) 1 (i32 0)) 2 (i32 (-1))) X hP hS (by have := hz0; omega) (by decide) rfl (by decide) (by decide) dX5_init_24 (fun H locs hP hS => ?_)
  rw [mw_up (by decide)] at hP
  have hP : PWc G 40 (mw G f 38 [(39, .inl (gC G 13, 4, .inl (upd (upd (upd (upd (fun _ => 0) 0 (i32 60)) 1 (i32 0)) 2 (i32 (-1))) 3 (i32 0)))), (38, .inr (5, [.null, .null, .int 0]))]) H := hP
  refine q_putF (k := 38) (ci := 5) (j := 0) (T := TX5) (fs := [.null, .null, .int 0]) X hP hS (by have := hz0; omega) (by decide) rfl rfl (inTB inX5) tyX5 tyX5_ok nmX5 (by decide) (tb t_151 rfl) rfl hin rfl (tyX5_ok 0 (by decide)) rfl rfl (Nat.le_of_ble_eq_true rfl) dX5_init_25 (fun H locs hP hS => ?_)
  rw [mw_up (by decide)] at hP
  have hP : PWc G 40 (mw G f 38 [(38, .inr (5, [.ref (gh G + 39), .null, .int 0])), (39, .inl (gC G 13, 4, .inl (upd (upd (upd (upd (fun _ => 0) 0 (i32 60)) 1 (i32 0)) 2 (i32 (-1))) 3 (i32 0))))]) H := hP
  refine lv_aload_n X.1 X.2.1 dX5_init_28 rfl (lv_at hl 0 rfl) ?_
  refine lv_sipush (v := i32 160) X.1 X.2.1 dX5_init_29 (by decide) ?_
  refine q_newa13 (N := 160) X hP hS (tb t_145 rfl) (by decide) (Nat.le_of_ble_eq_true rfl) (Nat.le_of_ble_eq_true rfl) (Nat.le_of_ble_eq_true rfl) dX5_init_32 (fun H hP hS => ?_)
  rw [mw_up (by decide)] at hP
  have hP : PWc G 41 (mw G f 38 [(40, .inl (gC G 13, 160, .inl (fun _ => 0))), (38, .inr (5, [.ref (gh G + 39), .null, .int 0])), (39, .inl (gC G 13, 4, .inl (upd (upd (upd (upd (fun _ => 0) 0 (i32 60)) 1 (i32 0)) 2 (i32 (-1))) 3 (i32 0))))]) H := hP
  refine q_putF (k := 38) (ci := 5) (j := 1) (T := TX5) (fs := [.ref (gh G + 39), .null, .int 0]) X hP hS (by have := hz0; omega) (by decide) rfl rfl (inTB inX5) tyX5 tyX5_ok nmX5 (by decide) (tb t_154 rfl) rfl hin rfl (tyX5_ok 1 (by decide)) rfl rfl (Nat.le_of_ble_eq_true rfl) dX5_init_34 (fun H locs hP hS => ?_)
  rw [mw_up (by decide)] at hP
  have hP : PWc G 41 (mw G f 38 [(38, .inr (5, [.ref (gh G + 39), .ref (gh G + 40), .int 0])), (40, .inl (gC G 13, 160, .inl (fun _ => 0))), (39, .inl (gC G 13, 4, .inl (upd (upd (upd (upd (fun _ => 0) 0 (i32 60)) 1 (i32 0)) 2 (i32 (-1))) 3 (i32 0))))]) H := hP
  refine q_vret X (hP.congr (fun k hk => ?_)) hS dX5_init_37
  by_cases h38 : k = 38
  · subst h38
    exact fin_o (by decide) rfl (by rw [cE_5 (by decide +kernel)] <;> rfl)
  by_cases h40 : k = 40
  · subst h40
    exact fin_o (by decide) rfl (by rw [cE_13 (by decide +kernel)]; exact fin_i (by decide +kernel) (z0_z (by decide +kernel)))
  by_cases h39 : k = 39
  · subst h39
    exact fin_o (by decide) rfl (by rw [cE_13 (by decide +kernel)]; exact fin_i (by decide +kernel) (z0_tr (by decide)))
  exact Or.inl (mw_no (L := [(38, .inr (5, [.ref (gh G + 39), .ref (gh G + 40), .int 0])), (40, .inl (gC G 13, 160, .inl (fun _ => 0))), (39, .inl (gC G 13, 4, .inl (upd (upd (upd (upd (fun _ => 0) 0 (i32 60)) 1 (i32 0)) 2 (i32 (-1))) 3 (i32 0))))]) (by simp [List.lookup, beq_eq_false_iff_ne.mpr h38, beq_eq_false_iff_ne.mpr h40, beq_eq_false_iff_ne.mpr h39]))
set_option maxHeartbeats 4000000 in
set_option maxRecDepth 20000 in
theorem ct_6_63 {l : Launch} {G : GT} {f : Nat → va_E} (hf : f 63 = .inr (6, [.null, .int 0, .int 0])) : CTc l yX6_init cX6_init 1 1 60 1 40 G [.ref (gh G + 63)] 64 f 65 (mw G f 63 []) := by
  refine CTc.mk (own := RX6) (by decide) rfl (Nat.le_of_ble_eq_true rfl) ?_
  intro p e s m below meth c ls X hin hO hP hS hl
  have hl : lv_has ls 1 [(0, .ref (gh G + 63))] := hl
  have hz0 := hP.1
  have hP := mw_start hf hP
  refine lv_aload_n X.1 X.2.1 dX6_init_0 rfl (lv_at hl 0 rfl) ?_
  refine q_obj X hl.1 (tb t_303 rfl) (tb t_101 rfl) (tb t_102 rfl) (by decide) (Nat.le_of_ble_eq_true rfl) dX6_init_1 ?_
  refine lv_aload_n X.1 X.2.1 dX6_init_4 rfl (lv_at hl 0 rfl) ?_
  refine lv_bipush (v := i32 40) X.1 X.2.1 dX6_init_5 (by decide) ?_
  refine q_newa13 (N := 40) X hP hS (tb t_145 rfl) (by decide) (Nat.le_of_ble_eq_true rfl) (Nat.le_of_ble_eq_true rfl) (Nat.le_of_ble_eq_true rfl) dX6_init_7 (fun H hP hS => ?_)
  rw [mw_up (by decide)] at hP
  have hP : PWc G 65 (mw G f 63 [(64, .inl (gC G 13, 40, .inl (fun _ => 0))), (63, .inr (6, [.null, .int 0, .int 0]))]) H := hP
  refine q_putF (k := 63) (ci := 6) (j := 0) (T := TX6) (fs := [.null, .int 0, .int 0]) X hP hS (by have := hz0; omega) (by decide) rfl rfl (inTB inX6) tyX6 tyX6_ok nmX6 (by decide) (tb t_304 rfl) rfl hin rfl (tyX6_ok 0 (by decide)) rfl rfl (Nat.le_of_ble_eq_true rfl) dX6_init_9 (fun H locs hP hS => ?_)
  rw [mw_up (by decide)] at hP
  have hP : PWc G 65 (mw G f 63 [(63, .inr (6, [.ref (gh G + 64), .int 0, .int 0])), (64, .inl (gC G 13, 40, .inl (fun _ => 0)))]) H := hP
  refine q_vret X (hP.congr (fun k hk => ?_)) hS dX6_init_12
  by_cases h63 : k = 63
  · subst h63
    exact fin_o (by decide) rfl (by rw [cE_6 (by decide +kernel)] <;> rfl)
  by_cases h64 : k = 64
  · subst h64
    exact fin_o (by decide) rfl (by rw [cE_13 (by decide +kernel)]; exact fin_i (by decide +kernel) (z0_z (by decide +kernel)))
  exact Or.inl (mw_no (L := [(63, .inr (6, [.ref (gh G + 64), .int 0, .int 0])), (64, .inl (gC G 13, 40, .inl (fun _ => 0)))]) (by simp [List.lookup, beq_eq_false_iff_ne.mpr h63, beq_eq_false_iff_ne.mpr h64]))
set_option maxHeartbeats 4000000 in
set_option maxRecDepth 20000 in
theorem ct_6_65 {l : Launch} {G : GT} {f : Nat → va_E} (hf : f 65 = .inr (6, [.null, .int 0, .int 0])) : CTc l yX6_init cX6_init 1 1 60 1 40 G [.ref (gh G + 65)] 66 f 67 (mw G f 65 []) := by
  refine CTc.mk (own := RX6) (by decide) rfl (Nat.le_of_ble_eq_true rfl) ?_
  intro p e s m below meth c ls X hin hO hP hS hl
  have hl : lv_has ls 1 [(0, .ref (gh G + 65))] := hl
  have hz0 := hP.1
  have hP := mw_start hf hP
  refine lv_aload_n X.1 X.2.1 dX6_init_0 rfl (lv_at hl 0 rfl) ?_
  refine q_obj X hl.1 (tb t_303 rfl) (tb t_101 rfl) (tb t_102 rfl) (by decide) (Nat.le_of_ble_eq_true rfl) dX6_init_1 ?_
  refine lv_aload_n X.1 X.2.1 dX6_init_4 rfl (lv_at hl 0 rfl) ?_
  refine lv_bipush (v := i32 40) X.1 X.2.1 dX6_init_5 (by decide) ?_
  refine q_newa13 (N := 40) X hP hS (tb t_145 rfl) (by decide) (Nat.le_of_ble_eq_true rfl) (Nat.le_of_ble_eq_true rfl) (Nat.le_of_ble_eq_true rfl) dX6_init_7 (fun H hP hS => ?_)
  rw [mw_up (by decide)] at hP
  have hP : PWc G 67 (mw G f 65 [(66, .inl (gC G 13, 40, .inl (fun _ => 0))), (65, .inr (6, [.null, .int 0, .int 0]))]) H := hP
  refine q_putF (k := 65) (ci := 6) (j := 0) (T := TX6) (fs := [.null, .int 0, .int 0]) X hP hS (by have := hz0; omega) (by decide) rfl rfl (inTB inX6) tyX6 tyX6_ok nmX6 (by decide) (tb t_304 rfl) rfl hin rfl (tyX6_ok 0 (by decide)) rfl rfl (Nat.le_of_ble_eq_true rfl) dX6_init_9 (fun H locs hP hS => ?_)
  rw [mw_up (by decide)] at hP
  have hP : PWc G 67 (mw G f 65 [(65, .inr (6, [.ref (gh G + 66), .int 0, .int 0])), (66, .inl (gC G 13, 40, .inl (fun _ => 0)))]) H := hP
  refine q_vret X (hP.congr (fun k hk => ?_)) hS dX6_init_12
  by_cases h65 : k = 65
  · subst h65
    exact fin_o (by decide) rfl (by rw [cE_6 (by decide +kernel)] <;> rfl)
  by_cases h66 : k = 66
  · subst h66
    exact fin_o (by decide) rfl (by rw [cE_13 (by decide +kernel)]; exact fin_i (by decide +kernel) (z0_z (by decide +kernel)))
  exact Or.inl (mw_no (L := [(65, .inr (6, [.ref (gh G + 66), .int 0, .int 0])), (66, .inl (gC G 13, 40, .inl (fun _ => 0)))]) (by simp [List.lookup, beq_eq_false_iff_ne.mpr h65, beq_eq_false_iff_ne.mpr h66]))
set_option maxHeartbeats 4000000 in
set_option maxRecDepth 20000 in
theorem ct_6_67 {l : Launch} {G : GT} {f : Nat → va_E} (hf : f 67 = .inr (6, [.null, .int 0, .int 0])) : CTc l yX6_init cX6_init 1 1 60 1 40 G [.ref (gh G + 67)] 68 f 69 (mw G f 67 []) := by
  refine CTc.mk (own := RX6) (by decide) rfl (Nat.le_of_ble_eq_true rfl) ?_
  intro p e s m below meth c ls X hin hO hP hS hl
  have hl : lv_has ls 1 [(0, .ref (gh G + 67))] := hl
  have hz0 := hP.1
  have hP := mw_start hf hP
  refine lv_aload_n X.1 X.2.1 dX6_init_0 rfl (lv_at hl 0 rfl) ?_
  refine q_obj X hl.1 (tb t_303 rfl) (tb t_101 rfl) (tb t_102 rfl) (by decide) (Nat.le_of_ble_eq_true rfl) dX6_init_1 ?_
  refine lv_aload_n X.1 X.2.1 dX6_init_4 rfl (lv_at hl 0 rfl) ?_
  refine lv_bipush (v := i32 40) X.1 X.2.1 dX6_init_5 (by decide) ?_
  refine q_newa13 (N := 40) X hP hS (tb t_145 rfl) (by decide) (Nat.le_of_ble_eq_true rfl) (Nat.le_of_ble_eq_true rfl) (Nat.le_of_ble_eq_true rfl) dX6_init_7 (fun H hP hS => ?_)
  rw [mw_up (by decide)] at hP
  have hP : PWc G 69 (mw G f 67 [(68, .inl (gC G 13, 40, .inl (fun _ => 0))), (67, .inr (6, [.null, .int 0, .int 0]))]) H := hP
  refine q_putF (k := 67) (ci := 6) (j := 0) (T := TX6) (fs := [.null, .int 0, .int 0]) X hP hS (by have := hz0; omega) (by decide) rfl rfl (inTB inX6) tyX6 tyX6_ok nmX6 (by decide) (tb t_304 rfl) rfl hin rfl (tyX6_ok 0 (by decide)) rfl rfl (Nat.le_of_ble_eq_true rfl) dX6_init_9 (fun H locs hP hS => ?_)
  rw [mw_up (by decide)] at hP
  have hP : PWc G 69 (mw G f 67 [(67, .inr (6, [.ref (gh G + 68), .int 0, .int 0])), (68, .inl (gC G 13, 40, .inl (fun _ => 0)))]) H := hP
  refine q_vret X (hP.congr (fun k hk => ?_)) hS dX6_init_12
  by_cases h67 : k = 67
  · subst h67
    exact fin_o (by decide) rfl (by rw [cE_6 (by decide +kernel)] <;> rfl)
  by_cases h68 : k = 68
  · subst h68
    exact fin_o (by decide) rfl (by rw [cE_13 (by decide +kernel)]; exact fin_i (by decide +kernel) (z0_z (by decide +kernel)))
  exact Or.inl (mw_no (L := [(67, .inr (6, [.ref (gh G + 68), .int 0, .int 0])), (68, .inl (gC G 13, 40, .inl (fun _ => 0)))]) (by simp [List.lookup, beq_eq_false_iff_ne.mpr h67, beq_eq_false_iff_ne.mpr h68]))
set_option maxHeartbeats 4000000 in
set_option maxRecDepth 20000 in
theorem ct_6_69 {l : Launch} {G : GT} {f : Nat → va_E} (hf : f 69 = .inr (6, [.null, .int 0, .int 0])) : CTc l yX6_init cX6_init 1 1 60 1 40 G [.ref (gh G + 69)] 70 f 71 (mw G f 69 []) := by
  refine CTc.mk (own := RX6) (by decide) rfl (Nat.le_of_ble_eq_true rfl) ?_
  intro p e s m below meth c ls X hin hO hP hS hl
  have hl : lv_has ls 1 [(0, .ref (gh G + 69))] := hl
  have hz0 := hP.1
  have hP := mw_start hf hP
  refine lv_aload_n X.1 X.2.1 dX6_init_0 rfl (lv_at hl 0 rfl) ?_
  refine q_obj X hl.1 (tb t_303 rfl) (tb t_101 rfl) (tb t_102 rfl) (by decide) (Nat.le_of_ble_eq_true rfl) dX6_init_1 ?_
  refine lv_aload_n X.1 X.2.1 dX6_init_4 rfl (lv_at hl 0 rfl) ?_
  refine lv_bipush (v := i32 40) X.1 X.2.1 dX6_init_5 (by decide) ?_
  refine q_newa13 (N := 40) X hP hS (tb t_145 rfl) (by decide) (Nat.le_of_ble_eq_true rfl) (Nat.le_of_ble_eq_true rfl) (Nat.le_of_ble_eq_true rfl) dX6_init_7 (fun H hP hS => ?_)
  rw [mw_up (by decide)] at hP
  have hP : PWc G 71 (mw G f 69 [(70, .inl (gC G 13, 40, .inl (fun _ => 0))), (69, .inr (6, [.null, .int 0, .int 0]))]) H := hP
  refine q_putF (k := 69) (ci := 6) (j := 0) (T := TX6) (fs := [.null, .int 0, .int 0]) X hP hS (by have := hz0; omega) (by decide) rfl rfl (inTB inX6) tyX6 tyX6_ok nmX6 (by decide) (tb t_304 rfl) rfl hin rfl (tyX6_ok 0 (by decide)) rfl rfl (Nat.le_of_ble_eq_true rfl) dX6_init_9 (fun H locs hP hS => ?_)
  rw [mw_up (by decide)] at hP
  have hP : PWc G 71 (mw G f 69 [(69, .inr (6, [.ref (gh G + 70), .int 0, .int 0])), (70, .inl (gC G 13, 40, .inl (fun _ => 0)))]) H := hP
  refine q_vret X (hP.congr (fun k hk => ?_)) hS dX6_init_12
  by_cases h69 : k = 69
  · subst h69
    exact fin_o (by decide) rfl (by rw [cE_6 (by decide +kernel)] <;> rfl)
  by_cases h70 : k = 70
  · subst h70
    exact fin_o (by decide) rfl (by rw [cE_13 (by decide +kernel)]; exact fin_i (by decide +kernel) (z0_z (by decide +kernel)))
  exact Or.inl (mw_no (L := [(69, .inr (6, [.ref (gh G + 70), .int 0, .int 0])), (70, .inl (gC G 13, 40, .inl (fun _ => 0)))]) (by simp [List.lookup, beq_eq_false_iff_ne.mpr h69, beq_eq_false_iff_ne.mpr h70]))
set_option maxHeartbeats 4000000 in
set_option maxRecDepth 20000 in
theorem ct_4_71 {l : Launch} {G : GT} {f : Nat → va_E} (hf : f 71 = .inr (4, [.null, .int 0, .int 0])) : CTc l yX4_init cX4_init 1 1 60 1 1600 G [.ref (gh G + 71)] 72 f 73 (mw G f 71 []) := by
  refine CTc.mk (own := RX4) (by decide) rfl (Nat.le_of_ble_eq_true rfl) ?_
  intro p e s m below meth c ls X hin hO hP hS hl
  have hl : lv_has ls 1 [(0, .ref (gh G + 71))] := hl
  have hz0 := hP.1
  have hP := mw_start hf hP
  refine lv_aload_n X.1 X.2.1 dX4_init_0 rfl (lv_at hl 0 rfl) ?_
  refine q_obj X hl.1 (tb t_321 rfl) (tb t_101 rfl) (tb t_102 rfl) (by decide) (Nat.le_of_ble_eq_true rfl) dX4_init_1 ?_
  refine lv_aload_n X.1 X.2.1 dX4_init_4 rfl (lv_at hl 0 rfl) ?_
  refine lv_sipush (v := i32 1600) X.1 X.2.1 dX4_init_5 (by decide) ?_
  refine q_newa13 (N := 1600) X hP hS (tb t_145 rfl) (by decide) (Nat.le_of_ble_eq_true rfl) (Nat.le_of_ble_eq_true rfl) (Nat.le_of_ble_eq_true rfl) dX4_init_8 (fun H hP hS => ?_)
  rw [mw_up (by decide)] at hP
  have hP : PWc G 73 (mw G f 71 [(72, .inl (gC G 13, 1600, .inl (fun _ => 0))), (71, .inr (4, [.null, .int 0, .int 0]))]) H := hP
  refine q_putF (k := 71) (ci := 4) (j := 0) (T := TX4) (fs := [.null, .int 0, .int 0]) X hP hS (by have := hz0; omega) (by decide) rfl rfl (inTB inX4) tyX4 tyX4_ok nmX4 (by decide) (tb t_322 rfl) rfl hin rfl (tyX4_ok 0 (by decide)) rfl rfl (Nat.le_of_ble_eq_true rfl) dX4_init_10 (fun H locs hP hS => ?_)
  rw [mw_up (by decide)] at hP
  have hP : PWc G 73 (mw G f 71 [(71, .inr (4, [.ref (gh G + 72), .int 0, .int 0])), (72, .inl (gC G 13, 1600, .inl (fun _ => 0)))]) H := hP
  refine q_vret X (hP.congr (fun k hk => ?_)) hS dX4_init_13
  by_cases h71 : k = 71
  · subst h71
    exact fin_o (by decide) rfl (by rw [cE_4 (by decide +kernel)] <;> rfl)
  by_cases h72 : k = 72
  · subst h72
    exact fin_o (by decide) rfl (by rw [cE_13 (by decide +kernel)]; exact fin_i (by decide +kernel) (z0_z (by decide +kernel)))
  exact Or.inl (mw_no (L := [(71, .inr (4, [.ref (gh G + 72), .int 0, .int 0])), (72, .inl (gC G 13, 1600, .inl (fun _ => 0)))]) (by simp [List.lookup, beq_eq_false_iff_ne.mpr h71, beq_eq_false_iff_ne.mpr h72]))
set_option maxHeartbeats 4000000 in
set_option maxRecDepth 20000 in
theorem ct_4_81 {l : Launch} {G : GT} {f : Nat → va_E} (hf : f 81 = .inr (4, [.null, .int 0, .int 0])) : CTc l yX4_init cX4_init 1 1 60 1 1600 G [.ref (gh G + 81)] 82 f 83 (mw G f 81 []) := by
  refine CTc.mk (own := RX4) (by decide) rfl (Nat.le_of_ble_eq_true rfl) ?_
  intro p e s m below meth c ls X hin hO hP hS hl
  have hl : lv_has ls 1 [(0, .ref (gh G + 81))] := hl
  have hz0 := hP.1
  have hP := mw_start hf hP
  refine lv_aload_n X.1 X.2.1 dX4_init_0 rfl (lv_at hl 0 rfl) ?_
  refine q_obj X hl.1 (tb t_321 rfl) (tb t_101 rfl) (tb t_102 rfl) (by decide) (Nat.le_of_ble_eq_true rfl) dX4_init_1 ?_
  refine lv_aload_n X.1 X.2.1 dX4_init_4 rfl (lv_at hl 0 rfl) ?_
  refine lv_sipush (v := i32 1600) X.1 X.2.1 dX4_init_5 (by decide) ?_
  refine q_newa13 (N := 1600) X hP hS (tb t_145 rfl) (by decide) (Nat.le_of_ble_eq_true rfl) (Nat.le_of_ble_eq_true rfl) (Nat.le_of_ble_eq_true rfl) dX4_init_8 (fun H hP hS => ?_)
  rw [mw_up (by decide)] at hP
  have hP : PWc G 83 (mw G f 81 [(82, .inl (gC G 13, 1600, .inl (fun _ => 0))), (81, .inr (4, [.null, .int 0, .int 0]))]) H := hP
  refine q_putF (k := 81) (ci := 4) (j := 0) (T := TX4) (fs := [.null, .int 0, .int 0]) X hP hS (by have := hz0; omega) (by decide) rfl rfl (inTB inX4) tyX4 tyX4_ok nmX4 (by decide) (tb t_322 rfl) rfl hin rfl (tyX4_ok 0 (by decide)) rfl rfl (Nat.le_of_ble_eq_true rfl) dX4_init_10 (fun H locs hP hS => ?_)
  rw [mw_up (by decide)] at hP
  have hP : PWc G 83 (mw G f 81 [(81, .inr (4, [.ref (gh G + 82), .int 0, .int 0])), (82, .inl (gC G 13, 1600, .inl (fun _ => 0)))]) H := hP
  refine q_vret X (hP.congr (fun k hk => ?_)) hS dX4_init_13
  by_cases h81 : k = 81
  · subst h81
    exact fin_o (by decide) rfl (by rw [cE_4 (by decide +kernel)] <;> rfl)
  by_cases h82 : k = 82
  · subst h82
    exact fin_o (by decide) rfl (by rw [cE_13 (by decide +kernel)]; exact fin_i (by decide +kernel) (z0_z (by decide +kernel)))
  exact Or.inl (mw_no (L := [(81, .inr (4, [.ref (gh G + 82), .int 0, .int 0])), (82, .inl (gC G 13, 1600, .inl (fun _ => 0)))]) (by simp [List.lookup, beq_eq_false_iff_ne.mpr h81, beq_eq_false_iff_ne.mpr h82]))
set_option maxHeartbeats 4000000 in
set_option maxRecDepth 20000 in
theorem ct_4_91 {l : Launch} {G : GT} {f : Nat → va_E} (hf : f 91 = .inr (4, [.null, .int 0, .int 0])) : CTc l yX4_init cX4_init 1 1 60 1 1600 G [.ref (gh G + 91)] 92 f 93 (mw G f 91 []) := by
  refine CTc.mk (own := RX4) (by decide) rfl (Nat.le_of_ble_eq_true rfl) ?_
  intro p e s m below meth c ls X hin hO hP hS hl
  have hl : lv_has ls 1 [(0, .ref (gh G + 91))] := hl
  have hz0 := hP.1
  have hP := mw_start hf hP
  refine lv_aload_n X.1 X.2.1 dX4_init_0 rfl (lv_at hl 0 rfl) ?_
  refine q_obj X hl.1 (tb t_321 rfl) (tb t_101 rfl) (tb t_102 rfl) (by decide) (Nat.le_of_ble_eq_true rfl) dX4_init_1 ?_
  refine lv_aload_n X.1 X.2.1 dX4_init_4 rfl (lv_at hl 0 rfl) ?_
  refine lv_sipush (v := i32 1600) X.1 X.2.1 dX4_init_5 (by decide) ?_
  refine q_newa13 (N := 1600) X hP hS (tb t_145 rfl) (by decide) (Nat.le_of_ble_eq_true rfl) (Nat.le_of_ble_eq_true rfl) (Nat.le_of_ble_eq_true rfl) dX4_init_8 (fun H hP hS => ?_)
  rw [mw_up (by decide)] at hP
  have hP : PWc G 93 (mw G f 91 [(92, .inl (gC G 13, 1600, .inl (fun _ => 0))), (91, .inr (4, [.null, .int 0, .int 0]))]) H := hP
  refine q_putF (k := 91) (ci := 4) (j := 0) (T := TX4) (fs := [.null, .int 0, .int 0]) X hP hS (by have := hz0; omega) (by decide) rfl rfl (inTB inX4) tyX4 tyX4_ok nmX4 (by decide) (tb t_322 rfl) rfl hin rfl (tyX4_ok 0 (by decide)) rfl rfl (Nat.le_of_ble_eq_true rfl) dX4_init_10 (fun H locs hP hS => ?_)
  rw [mw_up (by decide)] at hP
  have hP : PWc G 93 (mw G f 91 [(91, .inr (4, [.ref (gh G + 92), .int 0, .int 0])), (92, .inl (gC G 13, 1600, .inl (fun _ => 0)))]) H := hP
  refine q_vret X (hP.congr (fun k hk => ?_)) hS dX4_init_13
  by_cases h91 : k = 91
  · subst h91
    exact fin_o (by decide) rfl (by rw [cE_4 (by decide +kernel)] <;> rfl)
  by_cases h92 : k = 92
  · subst h92
    exact fin_o (by decide) rfl (by rw [cE_13 (by decide +kernel)]; exact fin_i (by decide +kernel) (z0_z (by decide +kernel)))
  exact Or.inl (mw_no (L := [(91, .inr (4, [.ref (gh G + 92), .int 0, .int 0])), (92, .inl (gC G 13, 1600, .inl (fun _ => 0)))]) (by simp [List.lookup, beq_eq_false_iff_ne.mpr h91, beq_eq_false_iff_ne.mpr h92]))
set_option maxHeartbeats 4000000 in
set_option maxRecDepth 20000 in
theorem ct_4_101 {l : Launch} {G : GT} {f : Nat → va_E} (hf : f 101 = .inr (4, [.null, .int 0, .int 0])) : CTc l yX4_init cX4_init 1 1 60 1 1600 G [.ref (gh G + 101)] 102 f 103 (mw G f 101 []) := by
  refine CTc.mk (own := RX4) (by decide) rfl (Nat.le_of_ble_eq_true rfl) ?_
  intro p e s m below meth c ls X hin hO hP hS hl
  have hl : lv_has ls 1 [(0, .ref (gh G + 101))] := hl
  have hz0 := hP.1
  have hP := mw_start hf hP
  refine lv_aload_n X.1 X.2.1 dX4_init_0 rfl (lv_at hl 0 rfl) ?_
  refine q_obj X hl.1 (tb t_321 rfl) (tb t_101 rfl) (tb t_102 rfl) (by decide) (Nat.le_of_ble_eq_true rfl) dX4_init_1 ?_
  refine lv_aload_n X.1 X.2.1 dX4_init_4 rfl (lv_at hl 0 rfl) ?_
  refine lv_sipush (v := i32 1600) X.1 X.2.1 dX4_init_5 (by decide) ?_
  refine q_newa13 (N := 1600) X hP hS (tb t_145 rfl) (by decide) (Nat.le_of_ble_eq_true rfl) (Nat.le_of_ble_eq_true rfl) (Nat.le_of_ble_eq_true rfl) dX4_init_8 (fun H hP hS => ?_)
  rw [mw_up (by decide)] at hP
  have hP : PWc G 103 (mw G f 101 [(102, .inl (gC G 13, 1600, .inl (fun _ => 0))), (101, .inr (4, [.null, .int 0, .int 0]))]) H := hP
  refine q_putF (k := 101) (ci := 4) (j := 0) (T := TX4) (fs := [.null, .int 0, .int 0]) X hP hS (by have := hz0; omega) (by decide) rfl rfl (inTB inX4) tyX4 tyX4_ok nmX4 (by decide) (tb t_322 rfl) rfl hin rfl (tyX4_ok 0 (by decide)) rfl rfl (Nat.le_of_ble_eq_true rfl) dX4_init_10 (fun H locs hP hS => ?_)
  rw [mw_up (by decide)] at hP
  have hP : PWc G 103 (mw G f 101 [(101, .inr (4, [.ref (gh G + 102), .int 0, .int 0])), (102, .inl (gC G 13, 1600, .inl (fun _ => 0)))]) H := hP
  refine q_vret X (hP.congr (fun k hk => ?_)) hS dX4_init_13
  by_cases h101 : k = 101
  · subst h101
    exact fin_o (by decide) rfl (by rw [cE_4 (by decide +kernel)] <;> rfl)
  by_cases h102 : k = 102
  · subst h102
    exact fin_o (by decide) rfl (by rw [cE_13 (by decide +kernel)]; exact fin_i (by decide +kernel) (z0_z (by decide +kernel)))
  exact Or.inl (mw_no (L := [(101, .inr (4, [.ref (gh G + 102), .int 0, .int 0])), (102, .inl (gC G 13, 1600, .inl (fun _ => 0)))]) (by simp [List.lookup, beq_eq_false_iff_ne.mpr h101, beq_eq_false_iff_ne.mpr h102]))
set_option maxHeartbeats 4000000 in
set_option maxRecDepth 20000 in
theorem ct_2_73 {l : Launch} {G : GT} {f : Nat → va_E} (hf : f 73 = .inr (2, [.int 0, .int 0, .int 0, .int 0, .int 0, .int 0, .null, .null, .null, .null, .null, .null, .null])) : CTc l yX2_init cX2_init 1 1 60 7 280 G [.ref (gh G + 73)] 74 f 81 (mw G f 73 []) := by
  refine CTc.mk (own := RX2) (by decide) rfl (Nat.le_of_ble_eq_true rfl) ?_
  intro p e s m below meth c ls X hin hO hP hS hl
  have hl : lv_has ls 1 [(0, .ref (gh G + 73))] := hl
  have hz0 := hP.1
  have hP := mw_start hf hP
  refine lv_aload_n X.1 X.2.1 dX2_init_0 rfl (lv_at hl 0 rfl) ?_
  refine q_obj X hl.1 (tb t_338 rfl) (tb t_101 rfl) (tb t_102 rfl) (by decide) (Nat.le_of_ble_eq_true rfl) dX2_init_1 ?_
  refine lv_aload_n X.1 X.2.1 dX2_init_4 rfl (lv_at hl 0 rfl) ?_
  refine lv_bipush (v := i32 40) X.1 X.2.1 dX2_init_5 (by decide) ?_
  refine q_newa13 (N := 40) X hP hS (tb t_145 rfl) (by decide) (Nat.le_of_ble_eq_true rfl) (Nat.le_of_ble_eq_true rfl) (Nat.le_of_ble_eq_true rfl) dX2_init_7 (fun H hP hS => ?_)
  rw [mw_up (by decide)] at hP
  have hP : PWc G 75 (mw G f 73 [(74, .inl (gC G 13, 40, .inl (fun _ => 0))), (73, .inr (2, [.int 0, .int 0, .int 0, .int 0, .int 0, .int 0, .null, .null, .null, .null, .null, .null, .null]))]) H := hP
  refine q_putF (k := 73) (ci := 2) (j := 6) (T := TX2) (fs := [.int 0, .int 0, .int 0, .int 0, .int 0, .int 0, .null, .null, .null, .null, .null, .null, .null]) X hP hS (by have := hz0; omega) (by decide) rfl rfl (inTB inX2) tyX2 tyX2_ok nmX2 (by decide) (tb t_351 rfl) rfl hin rfl (tyX2_ok 6 (by decide)) rfl rfl (Nat.le_of_ble_eq_true rfl) dX2_init_9 (fun H locs hP hS => ?_)
  rw [mw_up (by decide)] at hP
  have hP : PWc G 75 (mw G f 73 [(73, .inr (2, [.int 0, .int 0, .int 0, .int 0, .int 0, .int 0, .ref (gh G + 74), .null, .null, .null, .null, .null, .null])), (74, .inl (gC G 13, 40, .inl (fun _ => 0)))]) H := hP
  refine lv_aload_n X.1 X.2.1 dX2_init_12 rfl (lv_at hl 0 rfl) ?_
  refine lv_bipush (v := i32 40) X.1 X.2.1 dX2_init_13 (by decide) ?_
  refine q_newa13 (N := 40) X hP hS (tb t_145 rfl) (by decide) (Nat.le_of_ble_eq_true rfl) (Nat.le_of_ble_eq_true rfl) (Nat.le_of_ble_eq_true rfl) dX2_init_15 (fun H hP hS => ?_)
  rw [mw_up (by decide)] at hP
  have hP : PWc G 76 (mw G f 73 [(75, .inl (gC G 13, 40, .inl (fun _ => 0))), (73, .inr (2, [.int 0, .int 0, .int 0, .int 0, .int 0, .int 0, .ref (gh G + 74), .null, .null, .null, .null, .null, .null])), (74, .inl (gC G 13, 40, .inl (fun _ => 0)))]) H := hP
  refine q_putF (k := 73) (ci := 2) (j := 7) (T := TX2) (fs := [.int 0, .int 0, .int 0, .int 0, .int 0, .int 0, .ref (gh G + 74), .null, .null, .null, .null, .null, .null]) X hP hS (by have := hz0; omega) (by decide) rfl rfl (inTB inX2) tyX2 tyX2_ok nmX2 (by decide) (tb t_352 rfl) rfl hin rfl (tyX2_ok 7 (by decide)) rfl rfl (Nat.le_of_ble_eq_true rfl) dX2_init_17 (fun H locs hP hS => ?_)
  rw [mw_up (by decide)] at hP
  have hP : PWc G 76 (mw G f 73 [(73, .inr (2, [.int 0, .int 0, .int 0, .int 0, .int 0, .int 0, .ref (gh G + 74), .ref (gh G + 75), .null, .null, .null, .null, .null])), (75, .inl (gC G 13, 40, .inl (fun _ => 0))), (74, .inl (gC G 13, 40, .inl (fun _ => 0)))]) H := hP
  refine lv_aload_n X.1 X.2.1 dX2_init_20 rfl (lv_at hl 0 rfl) ?_
  refine lv_bipush (v := i32 40) X.1 X.2.1 dX2_init_21 (by decide) ?_
  refine q_newa13 (N := 40) X hP hS (tb t_145 rfl) (by decide) (Nat.le_of_ble_eq_true rfl) (Nat.le_of_ble_eq_true rfl) (Nat.le_of_ble_eq_true rfl) dX2_init_23 (fun H hP hS => ?_)
  rw [mw_up (by decide)] at hP
  have hP : PWc G 77 (mw G f 73 [(76, .inl (gC G 13, 40, .inl (fun _ => 0))), (73, .inr (2, [.int 0, .int 0, .int 0, .int 0, .int 0, .int 0, .ref (gh G + 74), .ref (gh G + 75), .null, .null, .null, .null, .null])), (75, .inl (gC G 13, 40, .inl (fun _ => 0))), (74, .inl (gC G 13, 40, .inl (fun _ => 0)))]) H := hP
  refine q_putF (k := 73) (ci := 2) (j := 8) (T := TX2) (fs := [.int 0, .int 0, .int 0, .int 0, .int 0, .int 0, .ref (gh G + 74), .ref (gh G + 75), .null, .null, .null, .null, .null]) X hP hS (by have := hz0; omega) (by decide) rfl rfl (inTB inX2) tyX2 tyX2_ok nmX2 (by decide) (tb t_354 rfl) rfl hin rfl (tyX2_ok 8 (by decide)) rfl rfl (Nat.le_of_ble_eq_true rfl) dX2_init_25 (fun H locs hP hS => ?_)
  rw [mw_up (by decide)] at hP
  have hP : PWc G 77 (mw G f 73 [(73, .inr (2, [.int 0, .int 0, .int 0, .int 0, .int 0, .int 0, .ref (gh G + 74), .ref (gh G + 75), .ref (gh G + 76), .null, .null, .null, .null])), (76, .inl (gC G 13, 40, .inl (fun _ => 0))), (75, .inl (gC G 13, 40, .inl (fun _ => 0))), (74, .inl (gC G 13, 40, .inl (fun _ => 0)))]) H := hP
  refine lv_aload_n X.1 X.2.1 dX2_init_28 rfl (lv_at hl 0 rfl) ?_
  refine lv_bipush (v := i32 40) X.1 X.2.1 dX2_init_29 (by decide) ?_
  refine q_newa13 (N := 40) X hP hS (tb t_145 rfl) (by decide) (Nat.le_of_ble_eq_true rfl) (Nat.le_of_ble_eq_true rfl) (Nat.le_of_ble_eq_true rfl) dX2_init_31 (fun H hP hS => ?_)
  rw [mw_up (by decide)] at hP
  have hP : PWc G 78 (mw G f 73 [(77, .inl (gC G 13, 40, .inl (fun _ => 0))), (73, .inr (2, [.int 0, .int 0, .int 0, .int 0, .int 0, .int 0, .ref (gh G + 74), .ref (gh G + 75), .ref (gh G + 76), .null, .null, .null, .null])), (76, .inl (gC G 13, 40, .inl (fun _ => 0))), (75, .inl (gC G 13, 40, .inl (fun _ => 0))), (74, .inl (gC G 13, 40, .inl (fun _ => 0)))]) H := hP
  refine q_putF (k := 73) (ci := 2) (j := 9) (T := TX2) (fs := [.int 0, .int 0, .int 0, .int 0, .int 0, .int 0, .ref (gh G + 74), .ref (gh G + 75), .ref (gh G + 76), .null, .null, .null, .null]) X hP hS (by have := hz0; omega) (by decide) rfl rfl (inTB inX2) tyX2 tyX2_ok nmX2 (by decide) (tb t_355 rfl) rfl hin rfl (tyX2_ok 9 (by decide)) rfl rfl (Nat.le_of_ble_eq_true rfl) dX2_init_33 (fun H locs hP hS => ?_)
  rw [mw_up (by decide)] at hP
  have hP : PWc G 78 (mw G f 73 [(73, .inr (2, [.int 0, .int 0, .int 0, .int 0, .int 0, .int 0, .ref (gh G + 74), .ref (gh G + 75), .ref (gh G + 76), .ref (gh G + 77), .null, .null, .null])), (77, .inl (gC G 13, 40, .inl (fun _ => 0))), (76, .inl (gC G 13, 40, .inl (fun _ => 0))), (75, .inl (gC G 13, 40, .inl (fun _ => 0))), (74, .inl (gC G 13, 40, .inl (fun _ => 0)))]) H := hP
  refine lv_aload_n X.1 X.2.1 dX2_init_36 rfl (lv_at hl 0 rfl) ?_
  refine lv_bipush (v := i32 40) X.1 X.2.1 dX2_init_37 (by decide) ?_
  refine q_newa13 (N := 40) X hP hS (tb t_145 rfl) (by decide) (Nat.le_of_ble_eq_true rfl) (Nat.le_of_ble_eq_true rfl) (Nat.le_of_ble_eq_true rfl) dX2_init_39 (fun H hP hS => ?_)
  rw [mw_up (by decide)] at hP
  have hP : PWc G 79 (mw G f 73 [(78, .inl (gC G 13, 40, .inl (fun _ => 0))), (73, .inr (2, [.int 0, .int 0, .int 0, .int 0, .int 0, .int 0, .ref (gh G + 74), .ref (gh G + 75), .ref (gh G + 76), .ref (gh G + 77), .null, .null, .null])), (77, .inl (gC G 13, 40, .inl (fun _ => 0))), (76, .inl (gC G 13, 40, .inl (fun _ => 0))), (75, .inl (gC G 13, 40, .inl (fun _ => 0))), (74, .inl (gC G 13, 40, .inl (fun _ => 0)))]) H := hP
  refine q_putF (k := 73) (ci := 2) (j := 10) (T := TX2) (fs := [.int 0, .int 0, .int 0, .int 0, .int 0, .int 0, .ref (gh G + 74), .ref (gh G + 75), .ref (gh G + 76), .ref (gh G + 77), .null, .null, .null]) X hP hS (by have := hz0; omega) (by decide) rfl rfl (inTB inX2) tyX2 tyX2_ok nmX2 (by decide) (tb t_356 rfl) rfl hin rfl (tyX2_ok 10 (by decide)) rfl rfl (Nat.le_of_ble_eq_true rfl) dX2_init_41 (fun H locs hP hS => ?_)
  rw [mw_up (by decide)] at hP
  have hP : PWc G 79 (mw G f 73 [(73, .inr (2, [.int 0, .int 0, .int 0, .int 0, .int 0, .int 0, .ref (gh G + 74), .ref (gh G + 75), .ref (gh G + 76), .ref (gh G + 77), .ref (gh G + 78), .null, .null])), (78, .inl (gC G 13, 40, .inl (fun _ => 0))), (77, .inl (gC G 13, 40, .inl (fun _ => 0))), (76, .inl (gC G 13, 40, .inl (fun _ => 0))), (75, .inl (gC G 13, 40, .inl (fun _ => 0))), (74, .inl (gC G 13, 40, .inl (fun _ => 0)))]) H := hP
  refine lv_aload_n X.1 X.2.1 dX2_init_44 rfl (lv_at hl 0 rfl) ?_
  refine lv_bipush (v := i32 40) X.1 X.2.1 dX2_init_45 (by decide) ?_
  refine q_newa13 (N := 40) X hP hS (tb t_145 rfl) (by decide) (Nat.le_of_ble_eq_true rfl) (Nat.le_of_ble_eq_true rfl) (Nat.le_of_ble_eq_true rfl) dX2_init_47 (fun H hP hS => ?_)
  rw [mw_up (by decide)] at hP
  have hP : PWc G 80 (mw G f 73 [(79, .inl (gC G 13, 40, .inl (fun _ => 0))), (73, .inr (2, [.int 0, .int 0, .int 0, .int 0, .int 0, .int 0, .ref (gh G + 74), .ref (gh G + 75), .ref (gh G + 76), .ref (gh G + 77), .ref (gh G + 78), .null, .null])), (78, .inl (gC G 13, 40, .inl (fun _ => 0))), (77, .inl (gC G 13, 40, .inl (fun _ => 0))), (76, .inl (gC G 13, 40, .inl (fun _ => 0))), (75, .inl (gC G 13, 40, .inl (fun _ => 0))), (74, .inl (gC G 13, 40, .inl (fun _ => 0)))]) H := hP
  refine q_putF (k := 73) (ci := 2) (j := 11) (T := TX2) (fs := [.int 0, .int 0, .int 0, .int 0, .int 0, .int 0, .ref (gh G + 74), .ref (gh G + 75), .ref (gh G + 76), .ref (gh G + 77), .ref (gh G + 78), .null, .null]) X hP hS (by have := hz0; omega) (by decide) rfl rfl (inTB inX2) tyX2 tyX2_ok nmX2 (by decide) (tb t_357 rfl) rfl hin rfl (tyX2_ok 11 (by decide)) rfl rfl (Nat.le_of_ble_eq_true rfl) dX2_init_49 (fun H locs hP hS => ?_)
  rw [mw_up (by decide)] at hP
  have hP : PWc G 80 (mw G f 73 [(73, .inr (2, [.int 0, .int 0, .int 0, .int 0, .int 0, .int 0, .ref (gh G + 74), .ref (gh G + 75), .ref (gh G + 76), .ref (gh G + 77), .ref (gh G + 78), .ref (gh G + 79), .null])), (79, .inl (gC G 13, 40, .inl (fun _ => 0))), (78, .inl (gC G 13, 40, .inl (fun _ => 0))), (77, .inl (gC G 13, 40, .inl (fun _ => 0))), (76, .inl (gC G 13, 40, .inl (fun _ => 0))), (75, .inl (gC G 13, 40, .inl (fun _ => 0))), (74, .inl (gC G 13, 40, .inl (fun _ => 0)))]) H := hP
  refine lv_aload_n X.1 X.2.1 dX2_init_52 rfl (lv_at hl 0 rfl) ?_
  refine lv_bipush (v := i32 40) X.1 X.2.1 dX2_init_53 (by decide) ?_
  refine q_newa13 (N := 40) X hP hS (tb t_145 rfl) (by decide) (Nat.le_of_ble_eq_true rfl) (Nat.le_of_ble_eq_true rfl) (Nat.le_of_ble_eq_true rfl) dX2_init_55 (fun H hP hS => ?_)
  rw [mw_up (by decide)] at hP
  have hP : PWc G 81 (mw G f 73 [(80, .inl (gC G 13, 40, .inl (fun _ => 0))), (73, .inr (2, [.int 0, .int 0, .int 0, .int 0, .int 0, .int 0, .ref (gh G + 74), .ref (gh G + 75), .ref (gh G + 76), .ref (gh G + 77), .ref (gh G + 78), .ref (gh G + 79), .null])), (79, .inl (gC G 13, 40, .inl (fun _ => 0))), (78, .inl (gC G 13, 40, .inl (fun _ => 0))), (77, .inl (gC G 13, 40, .inl (fun _ => 0))), (76, .inl (gC G 13, 40, .inl (fun _ => 0))), (75, .inl (gC G 13, 40, .inl (fun _ => 0))), (74, .inl (gC G 13, 40, .inl (fun _ => 0)))]) H := hP
  refine q_putF (k := 73) (ci := 2) (j := 12) (T := TX2) (fs := [.int 0, .int 0, .int 0, .int 0, .int 0, .int 0, .ref (gh G + 74), .ref (gh G + 75), .ref (gh G + 76), .ref (gh G + 77), .ref (gh G + 78), .ref (gh G + 79), .null]) X hP hS (by have := hz0; omega) (by decide) rfl rfl (inTB inX2) tyX2 tyX2_ok nmX2 (by decide) (tb t_359 rfl) rfl hin rfl (tyX2_ok 12 (by decide)) rfl rfl (Nat.le_of_ble_eq_true rfl) dX2_init_57 (fun H locs hP hS => ?_)
  rw [mw_up (by decide)] at hP
  have hP : PWc G 81 (mw G f 73 [(73, .inr (2, [.int 0, .int 0, .int 0, .int 0, .int 0, .int 0, .ref (gh G + 74), .ref (gh G + 75), .ref (gh G + 76), .ref (gh G + 77), .ref (gh G + 78), .ref (gh G + 79), .ref (gh G + 80)])), (80, .inl (gC G 13, 40, .inl (fun _ => 0))), (79, .inl (gC G 13, 40, .inl (fun _ => 0))), (78, .inl (gC G 13, 40, .inl (fun _ => 0))), (77, .inl (gC G 13, 40, .inl (fun _ => 0))), (76, .inl (gC G 13, 40, .inl (fun _ => 0))), (75, .inl (gC G 13, 40, .inl (fun _ => 0))), (74, .inl (gC G 13, 40, .inl (fun _ => 0)))]) H := hP
  refine q_vret X (hP.congr (fun k hk => ?_)) hS dX2_init_60
  by_cases h73 : k = 73
  · subst h73
    exact fin_o (by decide) rfl (by rw [cE_2 (by decide +kernel)] <;> rfl)
  by_cases h80 : k = 80
  · subst h80
    exact fin_o (by decide) rfl (by rw [cE_13 (by decide +kernel)]; exact fin_i (by decide +kernel) (z0_z (by decide +kernel)))
  by_cases h79 : k = 79
  · subst h79
    exact fin_o (by decide) rfl (by rw [cE_13 (by decide +kernel)]; exact fin_i (by decide +kernel) (z0_z (by decide +kernel)))
  by_cases h78 : k = 78
  · subst h78
    exact fin_o (by decide) rfl (by rw [cE_13 (by decide +kernel)]; exact fin_i (by decide +kernel) (z0_z (by decide +kernel)))
  by_cases h77 : k = 77
  · subst h77
    exact fin_o (by decide) rfl (by rw [cE_13 (by decide +kernel)]; exact fin_i (by decide +kernel) (z0_z (by decide +kernel)))
  by_cases h76 : k = 76
  · subst h76
    exact fin_o (by decide) rfl (by rw [cE_13 (by decide +kernel)]; exact fin_i (by decide +kernel) (z0_z (by decide +kernel)))
  by_cases h75 : k = 75
  · subst h75
    exact fin_o (by decide) rfl (by rw [cE_13 (by decide +kernel)]; exact fin_i (by decide +kernel) (z0_z (by decide +kernel)))
  by_cases h74 : k = 74
  · subst h74
    exact fin_o (by decide) rfl (by rw [cE_13 (by decide +kernel)]; exact fin_i (by decide +kernel) (z0_z (by decide +kernel)))
  exact Or.inl (mw_no (L := [(73, .inr (2, [.int 0, .int 0, .int 0, .int 0, .int 0, .int 0, .ref (gh G + 74), .ref (gh G + 75), .ref (gh G + 76), .ref (gh G + 77), .ref (gh G + 78), .ref (gh G + 79), .ref (gh G + 80)])), (80, .inl (gC G 13, 40, .inl (fun _ => 0))), (79, .inl (gC G 13, 40, .inl (fun _ => 0))), (78, .inl (gC G 13, 40, .inl (fun _ => 0))), (77, .inl (gC G 13, 40, .inl (fun _ => 0))), (76, .inl (gC G 13, 40, .inl (fun _ => 0))), (75, .inl (gC G 13, 40, .inl (fun _ => 0))), (74, .inl (gC G 13, 40, .inl (fun _ => 0)))]) (by simp [List.lookup, beq_eq_false_iff_ne.mpr h73, beq_eq_false_iff_ne.mpr h80, beq_eq_false_iff_ne.mpr h79, beq_eq_false_iff_ne.mpr h78, beq_eq_false_iff_ne.mpr h77, beq_eq_false_iff_ne.mpr h76, beq_eq_false_iff_ne.mpr h75, beq_eq_false_iff_ne.mpr h74]))
set_option maxHeartbeats 4000000 in
set_option maxRecDepth 20000 in
theorem ct_2_83 {l : Launch} {G : GT} {f : Nat → va_E} (hf : f 83 = .inr (2, [.int 0, .int 0, .int 0, .int 0, .int 0, .int 0, .null, .null, .null, .null, .null, .null, .null])) : CTc l yX2_init cX2_init 1 1 60 7 280 G [.ref (gh G + 83)] 84 f 91 (mw G f 83 []) := by
  refine CTc.mk (own := RX2) (by decide) rfl (Nat.le_of_ble_eq_true rfl) ?_
  intro p e s m below meth c ls X hin hO hP hS hl
  have hl : lv_has ls 1 [(0, .ref (gh G + 83))] := hl
  have hz0 := hP.1
  have hP := mw_start hf hP
  refine lv_aload_n X.1 X.2.1 dX2_init_0 rfl (lv_at hl 0 rfl) ?_
  refine q_obj X hl.1 (tb t_338 rfl) (tb t_101 rfl) (tb t_102 rfl) (by decide) (Nat.le_of_ble_eq_true rfl) dX2_init_1 ?_
  refine lv_aload_n X.1 X.2.1 dX2_init_4 rfl (lv_at hl 0 rfl) ?_
  refine lv_bipush (v := i32 40) X.1 X.2.1 dX2_init_5 (by decide) ?_
  refine q_newa13 (N := 40) X hP hS (tb t_145 rfl) (by decide) (Nat.le_of_ble_eq_true rfl) (Nat.le_of_ble_eq_true rfl) (Nat.le_of_ble_eq_true rfl) dX2_init_7 (fun H hP hS => ?_)
  rw [mw_up (by decide)] at hP
  have hP : PWc G 85 (mw G f 83 [(84, .inl (gC G 13, 40, .inl (fun _ => 0))), (83, .inr (2, [.int 0, .int 0, .int 0, .int 0, .int 0, .int 0, .null, .null, .null, .null, .null, .null, .null]))]) H := hP
  refine q_putF (k := 83) (ci := 2) (j := 6) (T := TX2) (fs := [.int 0, .int 0, .int 0, .int 0, .int 0, .int 0, .null, .null, .null, .null, .null, .null, .null]) X hP hS (by have := hz0; omega) (by decide) rfl rfl (inTB inX2) tyX2 tyX2_ok nmX2 (by decide) (tb t_351 rfl) rfl hin rfl (tyX2_ok 6 (by decide)) rfl rfl (Nat.le_of_ble_eq_true rfl) dX2_init_9 (fun H locs hP hS => ?_)
  rw [mw_up (by decide)] at hP
  have hP : PWc G 85 (mw G f 83 [(83, .inr (2, [.int 0, .int 0, .int 0, .int 0, .int 0, .int 0, .ref (gh G + 84), .null, .null, .null, .null, .null, .null])), (84, .inl (gC G 13, 40, .inl (fun _ => 0)))]) H := hP
  refine lv_aload_n X.1 X.2.1 dX2_init_12 rfl (lv_at hl 0 rfl) ?_
  refine lv_bipush (v := i32 40) X.1 X.2.1 dX2_init_13 (by decide) ?_
  refine q_newa13 (N := 40) X hP hS (tb t_145 rfl) (by decide) (Nat.le_of_ble_eq_true rfl) (Nat.le_of_ble_eq_true rfl) (Nat.le_of_ble_eq_true rfl) dX2_init_15 (fun H hP hS => ?_)
  rw [mw_up (by decide)] at hP
  have hP : PWc G 86 (mw G f 83 [(85, .inl (gC G 13, 40, .inl (fun _ => 0))), (83, .inr (2, [.int 0, .int 0, .int 0, .int 0, .int 0, .int 0, .ref (gh G + 84), .null, .null, .null, .null, .null, .null])), (84, .inl (gC G 13, 40, .inl (fun _ => 0)))]) H := hP
  refine q_putF (k := 83) (ci := 2) (j := 7) (T := TX2) (fs := [.int 0, .int 0, .int 0, .int 0, .int 0, .int 0, .ref (gh G + 84), .null, .null, .null, .null, .null, .null]) X hP hS (by have := hz0; omega) (by decide) rfl rfl (inTB inX2) tyX2 tyX2_ok nmX2 (by decide) (tb t_352 rfl) rfl hin rfl (tyX2_ok 7 (by decide)) rfl rfl (Nat.le_of_ble_eq_true rfl) dX2_init_17 (fun H locs hP hS => ?_)
  rw [mw_up (by decide)] at hP
  have hP : PWc G 86 (mw G f 83 [(83, .inr (2, [.int 0, .int 0, .int 0, .int 0, .int 0, .int 0, .ref (gh G + 84), .ref (gh G + 85), .null, .null, .null, .null, .null])), (85, .inl (gC G 13, 40, .inl (fun _ => 0))), (84, .inl (gC G 13, 40, .inl (fun _ => 0)))]) H := hP
  refine lv_aload_n X.1 X.2.1 dX2_init_20 rfl (lv_at hl 0 rfl) ?_
  refine lv_bipush (v := i32 40) X.1 X.2.1 dX2_init_21 (by decide) ?_
  refine q_newa13 (N := 40) X hP hS (tb t_145 rfl) (by decide) (Nat.le_of_ble_eq_true rfl) (Nat.le_of_ble_eq_true rfl) (Nat.le_of_ble_eq_true rfl) dX2_init_23 (fun H hP hS => ?_)
  rw [mw_up (by decide)] at hP
  have hP : PWc G 87 (mw G f 83 [(86, .inl (gC G 13, 40, .inl (fun _ => 0))), (83, .inr (2, [.int 0, .int 0, .int 0, .int 0, .int 0, .int 0, .ref (gh G + 84), .ref (gh G + 85), .null, .null, .null, .null, .null])), (85, .inl (gC G 13, 40, .inl (fun _ => 0))), (84, .inl (gC G 13, 40, .inl (fun _ => 0)))]) H := hP
  refine q_putF (k := 83) (ci := 2) (j := 8) (T := TX2) (fs := [.int 0, .int 0, .int 0, .int 0, .int 0, .int 0, .ref (gh G + 84), .ref (gh G + 85), .null, .null, .null, .null, .null]) X hP hS (by have := hz0; omega) (by decide) rfl rfl (inTB inX2) tyX2 tyX2_ok nmX2 (by decide) (tb t_354 rfl) rfl hin rfl (tyX2_ok 8 (by decide)) rfl rfl (Nat.le_of_ble_eq_true rfl) dX2_init_25 (fun H locs hP hS => ?_)
  rw [mw_up (by decide)] at hP
  have hP : PWc G 87 (mw G f 83 [(83, .inr (2, [.int 0, .int 0, .int 0, .int 0, .int 0, .int 0, .ref (gh G + 84), .ref (gh G + 85), .ref (gh G + 86), .null, .null, .null, .null])), (86, .inl (gC G 13, 40, .inl (fun _ => 0))), (85, .inl (gC G 13, 40, .inl (fun _ => 0))), (84, .inl (gC G 13, 40, .inl (fun _ => 0)))]) H := hP
  refine lv_aload_n X.1 X.2.1 dX2_init_28 rfl (lv_at hl 0 rfl) ?_
  refine lv_bipush (v := i32 40) X.1 X.2.1 dX2_init_29 (by decide) ?_
  refine q_newa13 (N := 40) X hP hS (tb t_145 rfl) (by decide) (Nat.le_of_ble_eq_true rfl) (Nat.le_of_ble_eq_true rfl) (Nat.le_of_ble_eq_true rfl) dX2_init_31 (fun H hP hS => ?_)
  rw [mw_up (by decide)] at hP
  have hP : PWc G 88 (mw G f 83 [(87, .inl (gC G 13, 40, .inl (fun _ => 0))), (83, .inr (2, [.int 0, .int 0, .int 0, .int 0, .int 0, .int 0, .ref (gh G + 84), .ref (gh G + 85), .ref (gh G + 86), .null, .null, .null, .null])), (86, .inl (gC G 13, 40, .inl (fun _ => 0))), (85, .inl (gC G 13, 40, .inl (fun _ => 0))), (84, .inl (gC G 13, 40, .inl (fun _ => 0)))]) H := hP
  refine q_putF (k := 83) (ci := 2) (j := 9) (T := TX2) (fs := [.int 0, .int 0, .int 0, .int 0, .int 0, .int 0, .ref (gh G + 84), .ref (gh G + 85), .ref (gh G + 86), .null, .null, .null, .null]) X hP hS (by have := hz0; omega) (by decide) rfl rfl (inTB inX2) tyX2 tyX2_ok nmX2 (by decide) (tb t_355 rfl) rfl hin rfl (tyX2_ok 9 (by decide)) rfl rfl (Nat.le_of_ble_eq_true rfl) dX2_init_33 (fun H locs hP hS => ?_)
  rw [mw_up (by decide)] at hP
  have hP : PWc G 88 (mw G f 83 [(83, .inr (2, [.int 0, .int 0, .int 0, .int 0, .int 0, .int 0, .ref (gh G + 84), .ref (gh G + 85), .ref (gh G + 86), .ref (gh G + 87), .null, .null, .null])), (87, .inl (gC G 13, 40, .inl (fun _ => 0))), (86, .inl (gC G 13, 40, .inl (fun _ => 0))), (85, .inl (gC G 13, 40, .inl (fun _ => 0))), (84, .inl (gC G 13, 40, .inl (fun _ => 0)))]) H := hP
  refine lv_aload_n X.1 X.2.1 dX2_init_36 rfl (lv_at hl 0 rfl) ?_
  refine lv_bipush (v := i32 40) X.1 X.2.1 dX2_init_37 (by decide) ?_
  refine q_newa13 (N := 40) X hP hS (tb t_145 rfl) (by decide) (Nat.le_of_ble_eq_true rfl) (Nat.le_of_ble_eq_true rfl) (Nat.le_of_ble_eq_true rfl) dX2_init_39 (fun H hP hS => ?_)
  rw [mw_up (by decide)] at hP
  have hP : PWc G 89 (mw G f 83 [(88, .inl (gC G 13, 40, .inl (fun _ => 0))), (83, .inr (2, [.int 0, .int 0, .int 0, .int 0, .int 0, .int 0, .ref (gh G + 84), .ref (gh G + 85), .ref (gh G + 86), .ref (gh G + 87), .null, .null, .null])), (87, .inl (gC G 13, 40, .inl (fun _ => 0))), (86, .inl (gC G 13, 40, .inl (fun _ => 0))), (85, .inl (gC G 13, 40, .inl (fun _ => 0))), (84, .inl (gC G 13, 40, .inl (fun _ => 0)))]) H := hP
  refine q_putF (k := 83) (ci := 2) (j := 10) (T := TX2) (fs := [.int 0, .int 0, .int 0, .int 0, .int 0, .int 0, .ref (gh G + 84), .ref (gh G + 85), .ref (gh G + 86), .ref (gh G + 87), .null, .null, .null]) X hP hS (by have := hz0; omega) (by decide) rfl rfl (inTB inX2) tyX2 tyX2_ok nmX2 (by decide) (tb t_356 rfl) rfl hin rfl (tyX2_ok 10 (by decide)) rfl rfl (Nat.le_of_ble_eq_true rfl) dX2_init_41 (fun H locs hP hS => ?_)
  rw [mw_up (by decide)] at hP
  have hP : PWc G 89 (mw G f 83 [(83, .inr (2, [.int 0, .int 0, .int 0, .int 0, .int 0, .int 0, .ref (gh G + 84), .ref (gh G + 85), .ref (gh G + 86), .ref (gh G + 87), .ref (gh G + 88), .null, .null])), (88, .inl (gC G 13, 40, .inl (fun _ => 0))), (87, .inl (gC G 13, 40, .inl (fun _ => 0))), (86, .inl (gC G 13, 40, .inl (fun _ => 0))), (85, .inl (gC G 13, 40, .inl (fun _ => 0))), (84, .inl (gC G 13, 40, .inl (fun _ => 0)))]) H := hP
  refine lv_aload_n X.1 X.2.1 dX2_init_44 rfl (lv_at hl 0 rfl) ?_
  refine lv_bipush (v := i32 40) X.1 X.2.1 dX2_init_45 (by decide) ?_
  refine q_newa13 (N := 40) X hP hS (tb t_145 rfl) (by decide) (Nat.le_of_ble_eq_true rfl) (Nat.le_of_ble_eq_true rfl) (Nat.le_of_ble_eq_true rfl) dX2_init_47 (fun H hP hS => ?_)
  rw [mw_up (by decide)] at hP
  have hP : PWc G 90 (mw G f 83 [(89, .inl (gC G 13, 40, .inl (fun _ => 0))), (83, .inr (2, [.int 0, .int 0, .int 0, .int 0, .int 0, .int 0, .ref (gh G + 84), .ref (gh G + 85), .ref (gh G + 86), .ref (gh G + 87), .ref (gh G + 88), .null, .null])), (88, .inl (gC G 13, 40, .inl (fun _ => 0))), (87, .inl (gC G 13, 40, .inl (fun _ => 0))), (86, .inl (gC G 13, 40, .inl (fun _ => 0))), (85, .inl (gC G 13, 40, .inl (fun _ => 0))), (84, .inl (gC G 13, 40, .inl (fun _ => 0)))]) H := hP
  refine q_putF (k := 83) (ci := 2) (j := 11) (T := TX2) (fs := [.int 0, .int 0, .int 0, .int 0, .int 0, .int 0, .ref (gh G + 84), .ref (gh G + 85), .ref (gh G + 86), .ref (gh G + 87), .ref (gh G + 88), .null, .null]) X hP hS (by have := hz0; omega) (by decide) rfl rfl (inTB inX2) tyX2 tyX2_ok nmX2 (by decide) (tb t_357 rfl) rfl hin rfl (tyX2_ok 11 (by decide)) rfl rfl (Nat.le_of_ble_eq_true rfl) dX2_init_49 (fun H locs hP hS => ?_)
  rw [mw_up (by decide)] at hP
  have hP : PWc G 90 (mw G f 83 [(83, .inr (2, [.int 0, .int 0, .int 0, .int 0, .int 0, .int 0, .ref (gh G + 84), .ref (gh G + 85), .ref (gh G + 86), .ref (gh G + 87), .ref (gh G + 88), .ref (gh G + 89), .null])), (89, .inl (gC G 13, 40, .inl (fun _ => 0))), (88, .inl (gC G 13, 40, .inl (fun _ => 0))), (87, .inl (gC G 13, 40, .inl (fun _ => 0))), (86, .inl (gC G 13, 40, .inl (fun _ => 0))), (85, .inl (gC G 13, 40, .inl (fun _ => 0))), (84, .inl (gC G 13, 40, .inl (fun _ => 0)))]) H := hP
  refine lv_aload_n X.1 X.2.1 dX2_init_52 rfl (lv_at hl 0 rfl) ?_
  refine lv_bipush (v := i32 40) X.1 X.2.1 dX2_init_53 (by decide) ?_
  refine q_newa13 (N := 40) X hP hS (tb t_145 rfl) (by decide) (Nat.le_of_ble_eq_true rfl) (Nat.le_of_ble_eq_true rfl) (Nat.le_of_ble_eq_true rfl) dX2_init_55 (fun H hP hS => ?_)
  rw [mw_up (by decide)] at hP
  have hP : PWc G 91 (mw G f 83 [(90, .inl (gC G 13, 40, .inl (fun _ => 0))), (83, .inr (2, [.int 0, .int 0, .int 0, .int 0, .int 0, .int 0, .ref (gh G + 84), .ref (gh G + 85), .ref (gh G + 86), .ref (gh G + 87), .ref (gh G + 88), .ref (gh G + 89), .null])), (89, .inl (gC G 13, 40, .inl (fun _ => 0))), (88, .inl (gC G 13, 40, .inl (fun _ => 0))), (87, .inl (gC G 13, 40, .inl (fun _ => 0))), (86, .inl (gC G 13, 40, .inl (fun _ => 0))), (85, .inl (gC G 13, 40, .inl (fun _ => 0))), (84, .inl (gC G 13, 40, .inl (fun _ => 0)))]) H := hP
  refine q_putF (k := 83) (ci := 2) (j := 12) (T := TX2) (fs := [.int 0, .int 0, .int 0, .int 0, .int 0, .int 0, .ref (gh G + 84), .ref (gh G + 85), .ref (gh G + 86), .ref (gh G + 87), .ref (gh G + 88), .ref (gh G + 89), .null]) X hP hS (by have := hz0; omega) (by decide) rfl rfl (inTB inX2) tyX2 tyX2_ok nmX2 (by decide) (tb t_359 rfl) rfl hin rfl (tyX2_ok 12 (by decide)) rfl rfl (Nat.le_of_ble_eq_true rfl) dX2_init_57 (fun H locs hP hS => ?_)
  rw [mw_up (by decide)] at hP
  have hP : PWc G 91 (mw G f 83 [(83, .inr (2, [.int 0, .int 0, .int 0, .int 0, .int 0, .int 0, .ref (gh G + 84), .ref (gh G + 85), .ref (gh G + 86), .ref (gh G + 87), .ref (gh G + 88), .ref (gh G + 89), .ref (gh G + 90)])), (90, .inl (gC G 13, 40, .inl (fun _ => 0))), (89, .inl (gC G 13, 40, .inl (fun _ => 0))), (88, .inl (gC G 13, 40, .inl (fun _ => 0))), (87, .inl (gC G 13, 40, .inl (fun _ => 0))), (86, .inl (gC G 13, 40, .inl (fun _ => 0))), (85, .inl (gC G 13, 40, .inl (fun _ => 0))), (84, .inl (gC G 13, 40, .inl (fun _ => 0)))]) H := hP
  refine q_vret X (hP.congr (fun k hk => ?_)) hS dX2_init_60
  by_cases h83 : k = 83
  · subst h83
    exact fin_o (by decide) rfl (by rw [cE_2 (by decide +kernel)] <;> rfl)
  by_cases h90 : k = 90
  · subst h90
    exact fin_o (by decide) rfl (by rw [cE_13 (by decide +kernel)]; exact fin_i (by decide +kernel) (z0_z (by decide +kernel)))
  by_cases h89 : k = 89
  · subst h89
    exact fin_o (by decide) rfl (by rw [cE_13 (by decide +kernel)]; exact fin_i (by decide +kernel) (z0_z (by decide +kernel)))
  by_cases h88 : k = 88
  · subst h88
    exact fin_o (by decide) rfl (by rw [cE_13 (by decide +kernel)]; exact fin_i (by decide +kernel) (z0_z (by decide +kernel)))
  by_cases h87 : k = 87
  · subst h87
    exact fin_o (by decide) rfl (by rw [cE_13 (by decide +kernel)]; exact fin_i (by decide +kernel) (z0_z (by decide +kernel)))
  by_cases h86 : k = 86
  · subst h86
    exact fin_o (by decide) rfl (by rw [cE_13 (by decide +kernel)]; exact fin_i (by decide +kernel) (z0_z (by decide +kernel)))
  by_cases h85 : k = 85
  · subst h85
    exact fin_o (by decide) rfl (by rw [cE_13 (by decide +kernel)]; exact fin_i (by decide +kernel) (z0_z (by decide +kernel)))
  by_cases h84 : k = 84
  · subst h84
    exact fin_o (by decide) rfl (by rw [cE_13 (by decide +kernel)]; exact fin_i (by decide +kernel) (z0_z (by decide +kernel)))
  exact Or.inl (mw_no (L := [(83, .inr (2, [.int 0, .int 0, .int 0, .int 0, .int 0, .int 0, .ref (gh G + 84), .ref (gh G + 85), .ref (gh G + 86), .ref (gh G + 87), .ref (gh G + 88), .ref (gh G + 89), .ref (gh G + 90)])), (90, .inl (gC G 13, 40, .inl (fun _ => 0))), (89, .inl (gC G 13, 40, .inl (fun _ => 0))), (88, .inl (gC G 13, 40, .inl (fun _ => 0))), (87, .inl (gC G 13, 40, .inl (fun _ => 0))), (86, .inl (gC G 13, 40, .inl (fun _ => 0))), (85, .inl (gC G 13, 40, .inl (fun _ => 0))), (84, .inl (gC G 13, 40, .inl (fun _ => 0)))]) (by simp [List.lookup, beq_eq_false_iff_ne.mpr h83, beq_eq_false_iff_ne.mpr h90, beq_eq_false_iff_ne.mpr h89, beq_eq_false_iff_ne.mpr h88, beq_eq_false_iff_ne.mpr h87, beq_eq_false_iff_ne.mpr h86, beq_eq_false_iff_ne.mpr h85, beq_eq_false_iff_ne.mpr h84]))
set_option maxHeartbeats 4000000 in
set_option maxRecDepth 20000 in
theorem ct_2_93 {l : Launch} {G : GT} {f : Nat → va_E} (hf : f 93 = .inr (2, [.int 0, .int 0, .int 0, .int 0, .int 0, .int 0, .null, .null, .null, .null, .null, .null, .null])) : CTc l yX2_init cX2_init 1 1 60 7 280 G [.ref (gh G + 93)] 94 f 101 (mw G f 93 []) := by
  refine CTc.mk (own := RX2) (by decide) rfl (Nat.le_of_ble_eq_true rfl) ?_
  intro p e s m below meth c ls X hin hO hP hS hl
  have hl : lv_has ls 1 [(0, .ref (gh G + 93))] := hl
  have hz0 := hP.1
  have hP := mw_start hf hP
  refine lv_aload_n X.1 X.2.1 dX2_init_0 rfl (lv_at hl 0 rfl) ?_
  refine q_obj X hl.1 (tb t_338 rfl) (tb t_101 rfl) (tb t_102 rfl) (by decide) (Nat.le_of_ble_eq_true rfl) dX2_init_1 ?_
  refine lv_aload_n X.1 X.2.1 dX2_init_4 rfl (lv_at hl 0 rfl) ?_
  refine lv_bipush (v := i32 40) X.1 X.2.1 dX2_init_5 (by decide) ?_
  refine q_newa13 (N := 40) X hP hS (tb t_145 rfl) (by decide) (Nat.le_of_ble_eq_true rfl) (Nat.le_of_ble_eq_true rfl) (Nat.le_of_ble_eq_true rfl) dX2_init_7 (fun H hP hS => ?_)
  rw [mw_up (by decide)] at hP
  have hP : PWc G 95 (mw G f 93 [(94, .inl (gC G 13, 40, .inl (fun _ => 0))), (93, .inr (2, [.int 0, .int 0, .int 0, .int 0, .int 0, .int 0, .null, .null, .null, .null, .null, .null, .null]))]) H := hP
  refine q_putF (k := 93) (ci := 2) (j := 6) (T := TX2) (fs := [.int 0, .int 0, .int 0, .int 0, .int 0, .int 0, .null, .null, .null, .null, .null, .null, .null]) X hP hS (by have := hz0; omega) (by decide) rfl rfl (inTB inX2) tyX2 tyX2_ok nmX2 (by decide) (tb t_351 rfl) rfl hin rfl (tyX2_ok 6 (by decide)) rfl rfl (Nat.le_of_ble_eq_true rfl) dX2_init_9 (fun H locs hP hS => ?_)
  rw [mw_up (by decide)] at hP
  have hP : PWc G 95 (mw G f 93 [(93, .inr (2, [.int 0, .int 0, .int 0, .int 0, .int 0, .int 0, .ref (gh G + 94), .null, .null, .null, .null, .null, .null])), (94, .inl (gC G 13, 40, .inl (fun _ => 0)))]) H := hP
  refine lv_aload_n X.1 X.2.1 dX2_init_12 rfl (lv_at hl 0 rfl) ?_
  refine lv_bipush (v := i32 40) X.1 X.2.1 dX2_init_13 (by decide) ?_
  refine q_newa13 (N := 40) X hP hS (tb t_145 rfl) (by decide) (Nat.le_of_ble_eq_true rfl) (Nat.le_of_ble_eq_true rfl) (Nat.le_of_ble_eq_true rfl) dX2_init_15 (fun H hP hS => ?_)
  rw [mw_up (by decide)] at hP
  have hP : PWc G 96 (mw G f 93 [(95, .inl (gC G 13, 40, .inl (fun _ => 0))), (93, .inr (2, [.int 0, .int 0, .int 0, .int 0, .int 0, .int 0, .ref (gh G + 94), .null, .null, .null, .null, .null, .null])), (94, .inl (gC G 13, 40, .inl (fun _ => 0)))]) H := hP
  refine q_putF (k := 93) (ci := 2) (j := 7) (T := TX2) (fs := [.int 0, .int 0, .int 0, .int 0, .int 0, .int 0, .ref (gh G + 94), .null, .null, .null, .null, .null, .null]) X hP hS (by have := hz0; omega) (by decide) rfl rfl (inTB inX2) tyX2 tyX2_ok nmX2 (by decide) (tb t_352 rfl) rfl hin rfl (tyX2_ok 7 (by decide)) rfl rfl (Nat.le_of_ble_eq_true rfl) dX2_init_17 (fun H locs hP hS => ?_)
  rw [mw_up (by decide)] at hP
  have hP : PWc G 96 (mw G f 93 [(93, .inr (2, [.int 0, .int 0, .int 0, .int 0, .int 0, .int 0, .ref (gh G + 94), .ref (gh G + 95), .null, .null, .null, .null, .null])), (95, .inl (gC G 13, 40, .inl (fun _ => 0))), (94, .inl (gC G 13, 40, .inl (fun _ => 0)))]) H := hP
  refine lv_aload_n X.1 X.2.1 dX2_init_20 rfl (lv_at hl 0 rfl) ?_
  refine lv_bipush (v := i32 40) X.1 X.2.1 dX2_init_21 (by decide) ?_
  refine q_newa13 (N := 40) X hP hS (tb t_145 rfl) (by decide) (Nat.le_of_ble_eq_true rfl) (Nat.le_of_ble_eq_true rfl) (Nat.le_of_ble_eq_true rfl) dX2_init_23 (fun H hP hS => ?_)
  rw [mw_up (by decide)] at hP
  have hP : PWc G 97 (mw G f 93 [(96, .inl (gC G 13, 40, .inl (fun _ => 0))), (93, .inr (2, [.int 0, .int 0, .int 0, .int 0, .int 0, .int 0, .ref (gh G + 94), .ref (gh G + 95), .null, .null, .null, .null, .null])), (95, .inl (gC G 13, 40, .inl (fun _ => 0))), (94, .inl (gC G 13, 40, .inl (fun _ => 0)))]) H := hP
  refine q_putF (k := 93) (ci := 2) (j := 8) (T := TX2) (fs := [.int 0, .int 0, .int 0, .int 0, .int 0, .int 0, .ref (gh G + 94), .ref (gh G + 95), .null, .null, .null, .null, .null]) X hP hS (by have := hz0; omega) (by decide) rfl rfl (inTB inX2) tyX2 tyX2_ok nmX2 (by decide) (tb t_354 rfl) rfl hin rfl (tyX2_ok 8 (by decide)) rfl rfl (Nat.le_of_ble_eq_true rfl) dX2_init_25 (fun H locs hP hS => ?_)
  rw [mw_up (by decide)] at hP
  have hP : PWc G 97 (mw G f 93 [(93, .inr (2, [.int 0, .int 0, .int 0, .int 0, .int 0, .int 0, .ref (gh G + 94), .ref (gh G + 95), .ref (gh G + 96), .null, .null, .null, .null])), (96, .inl (gC G 13, 40, .inl (fun _ => 0))), (95, .inl (gC G 13, 40, .inl (fun _ => 0))), (94, .inl (gC G 13, 40, .inl (fun _ => 0)))]) H := hP
  refine lv_aload_n X.1 X.2.1 dX2_init_28 rfl (lv_at hl 0 rfl) ?_
  refine lv_bipush (v := i32 40) X.1 X.2.1 dX2_init_29 (by decide) ?_
  refine q_newa13 (N := 40) X hP hS (tb t_145 rfl) (by decide) (Nat.le_of_ble_eq_true rfl) (Nat.le_of_ble_eq_true rfl) (Nat.le_of_ble_eq_true rfl) dX2_init_31 (fun H hP hS => ?_)
  rw [mw_up (by decide)] at hP
  have hP : PWc G 98 (mw G f 93 [(97, .inl (gC G 13, 40, .inl (fun _ => 0))), (93, .inr (2, [.int 0, .int 0, .int 0, .int 0, .int 0, .int 0, .ref (gh G + 94), .ref (gh G + 95), .ref (gh G + 96), .null, .null, .null, .null])), (96, .inl (gC G 13, 40, .inl (fun _ => 0))), (95, .inl (gC G 13, 40, .inl (fun _ => 0))), (94, .inl (gC G 13, 40, .inl (fun _ => 0)))]) H := hP
  refine q_putF (k := 93) (ci := 2) (j := 9) (T := TX2) (fs := [.int 0, .int 0, .int 0, .int 0, .int 0, .int 0, .ref (gh G + 94), .ref (gh G + 95), .ref (gh G + 96), .null, .null, .null, .null]) X hP hS (by have := hz0; omega) (by decide) rfl rfl (inTB inX2) tyX2 tyX2_ok nmX2 (by decide) (tb t_355 rfl) rfl hin rfl (tyX2_ok 9 (by decide)) rfl rfl (Nat.le_of_ble_eq_true rfl) dX2_init_33 (fun H locs hP hS => ?_)
  rw [mw_up (by decide)] at hP
  have hP : PWc G 98 (mw G f 93 [(93, .inr (2, [.int 0, .int 0, .int 0, .int 0, .int 0, .int 0, .ref (gh G + 94), .ref (gh G + 95), .ref (gh G + 96), .ref (gh G + 97), .null, .null, .null])), (97, .inl (gC G 13, 40, .inl (fun _ => 0))), (96, .inl (gC G 13, 40, .inl (fun _ => 0))), (95, .inl (gC G 13, 40, .inl (fun _ => 0))), (94, .inl (gC G 13, 40, .inl (fun _ => 0)))]) H := hP
  refine lv_aload_n X.1 X.2.1 dX2_init_36 rfl (lv_at hl 0 rfl) ?_
  refine lv_bipush (v := i32 40) X.1 X.2.1 dX2_init_37 (by decide) ?_
  refine q_newa13 (N := 40) X hP hS (tb t_145 rfl) (by decide) (Nat.le_of_ble_eq_true rfl) (Nat.le_of_ble_eq_true rfl) (Nat.le_of_ble_eq_true rfl) dX2_init_39 (fun H hP hS => ?_)
  rw [mw_up (by decide)] at hP
  have hP : PWc G 99 (mw G f 93 [(98, .inl (gC G 13, 40, .inl (fun _ => 0))), (93, .inr (2, [.int 0, .int 0, .int 0, .int 0, .int 0, .int 0, .ref (gh G + 94), .ref (gh G + 95), .ref (gh G + 96), .ref (gh G + 97), .null, .null, .null])), (97, .inl (gC G 13, 40, .inl (fun _ => 0))), (96, .inl (gC G 13, 40, .inl (fun _ => 0))), (95, .inl (gC G 13, 40, .inl (fun _ => 0))), (94, .inl (gC G 13, 40, .inl (fun _ => 0)))]) H := hP
  refine q_putF (k := 93) (ci := 2) (j := 10) (T := TX2) (fs := [.int 0, .int 0, .int 0, .int 0, .int 0, .int 0, .ref (gh G + 94), .ref (gh G + 95), .ref (gh G + 96), .ref (gh G + 97), .null, .null, .null]) X hP hS (by have := hz0; omega) (by decide) rfl rfl (inTB inX2) tyX2 tyX2_ok nmX2 (by decide) (tb t_356 rfl) rfl hin rfl (tyX2_ok 10 (by decide)) rfl rfl (Nat.le_of_ble_eq_true rfl) dX2_init_41 (fun H locs hP hS => ?_)
  rw [mw_up (by decide)] at hP
  have hP : PWc G 99 (mw G f 93 [(93, .inr (2, [.int 0, .int 0, .int 0, .int 0, .int 0, .int 0, .ref (gh G + 94), .ref (gh G + 95), .ref (gh G + 96), .ref (gh G + 97), .ref (gh G + 98), .null, .null])), (98, .inl (gC G 13, 40, .inl (fun _ => 0))), (97, .inl (gC G 13, 40, .inl (fun _ => 0))), (96, .inl (gC G 13, 40, .inl (fun _ => 0))), (95, .inl (gC G 13, 40, .inl (fun _ => 0))), (94, .inl (gC G 13, 40, .inl (fun _ => 0)))]) H := hP
  refine lv_aload_n X.1 X.2.1 dX2_init_44 rfl (lv_at hl 0 rfl) ?_
  refine lv_bipush (v := i32 40) X.1 X.2.1 dX2_init_45 (by decide) ?_
  refine q_newa13 (N := 40) X hP hS (tb t_145 rfl) (by decide) (Nat.le_of_ble_eq_true rfl) (Nat.le_of_ble_eq_true rfl) (Nat.le_of_ble_eq_true rfl) dX2_init_47 (fun H hP hS => ?_)
  rw [mw_up (by decide)] at hP
  have hP : PWc G 100 (mw G f 93 [(99, .inl (gC G 13, 40, .inl (fun _ => 0))), (93, .inr (2, [.int 0, .int 0, .int 0, .int 0, .int 0, .int 0, .ref (gh G + 94), .ref (gh G + 95), .ref (gh G + 96), .ref (gh G + 97), .ref (gh G + 98), .null, .null])), (98, .inl (gC G 13, 40, .inl (fun _ => 0))), (97, .inl (gC G 13, 40, .inl (fun _ => 0))), (96, .inl (gC G 13, 40, .inl (fun _ => 0))), (95, .inl (gC G 13, 40, .inl (fun _ => 0))), (94, .inl (gC G 13, 40, .inl (fun _ => 0)))]) H := hP
  refine q_putF (k := 93) (ci := 2) (j := 11) (T := TX2) (fs := [.int 0, .int 0, .int 0, .int 0, .int 0, .int 0, .ref (gh G + 94), .ref (gh G + 95), .ref (gh G + 96), .ref (gh G + 97), .ref (gh G + 98), .null, .null]) X hP hS (by have := hz0; omega) (by decide) rfl rfl (inTB inX2) tyX2 tyX2_ok nmX2 (by decide) (tb t_357 rfl) rfl hin rfl (tyX2_ok 11 (by decide)) rfl rfl (Nat.le_of_ble_eq_true rfl) dX2_init_49 (fun H locs hP hS => ?_)
  rw [mw_up (by decide)] at hP
  have hP : PWc G 100 (mw G f 93 [(93, .inr (2, [.int 0, .int 0, .int 0, .int 0, .int 0, .int 0, .ref (gh G + 94), .ref (gh G + 95), .ref (gh G + 96), .ref (gh G + 97), .ref (gh G + 98), .ref (gh G + 99), .null])), (99, .inl (gC G 13, 40, .inl (fun _ => 0))), (98, .inl (gC G 13, 40, .inl (fun _ => 0))), (97, .inl (gC G 13, 40, .inl (fun _ => 0))), (96, .inl (gC G 13, 40, .inl (fun _ => 0))), (95, .inl (gC G 13, 40, .inl (fun _ => 0))), (94, .inl (gC G 13, 40, .inl (fun _ => 0)))]) H := hP
  refine lv_aload_n X.1 X.2.1 dX2_init_52 rfl (lv_at hl 0 rfl) ?_
  refine lv_bipush (v := i32 40) X.1 X.2.1 dX2_init_53 (by decide) ?_
  refine q_newa13 (N := 40) X hP hS (tb t_145 rfl) (by decide) (Nat.le_of_ble_eq_true rfl) (Nat.le_of_ble_eq_true rfl) (Nat.le_of_ble_eq_true rfl) dX2_init_55 (fun H hP hS => ?_)
  rw [mw_up (by decide)] at hP
  have hP : PWc G 101 (mw G f 93 [(100, .inl (gC G 13, 40, .inl (fun _ => 0))), (93, .inr (2, [.int 0, .int 0, .int 0, .int 0, .int 0, .int 0, .ref (gh G + 94), .ref (gh G + 95), .ref (gh G + 96), .ref (gh G + 97), .ref (gh G + 98), .ref (gh G + 99), .null])), (99, .inl (gC G 13, 40, .inl (fun _ => 0))), (98, .inl (gC G 13, 40, .inl (fun _ => 0))), (97, .inl (gC G 13, 40, .inl (fun _ => 0))), (96, .inl (gC G 13, 40, .inl (fun _ => 0))), (95, .inl (gC G 13, 40, .inl (fun _ => 0))), (94, .inl (gC G 13, 40, .inl (fun _ => 0)))]) H := hP
  refine q_putF (k := 93) (ci := 2) (j := 12) (T := TX2) (fs := [.int 0, .int 0, .int 0, .int 0, .int 0, .int 0, .ref (gh G + 94), .ref (gh G + 95), .ref (gh G + 96), .ref (gh G + 97), .ref (gh G + 98), .ref (gh G + 99), .null]) X hP hS (by have := hz0; omega) (by decide) rfl rfl (inTB inX2) tyX2 tyX2_ok nmX2 (by decide) (tb t_359 rfl) rfl hin rfl (tyX2_ok 12 (by decide)) rfl rfl (Nat.le_of_ble_eq_true rfl) dX2_init_57 (fun H locs hP hS => ?_)
  rw [mw_up (by decide)] at hP
  have hP : PWc G 101 (mw G f 93 [(93, .inr (2, [.int 0, .int 0, .int 0, .int 0, .int 0, .int 0, .ref (gh G + 94), .ref (gh G + 95), .ref (gh G + 96), .ref (gh G + 97), .ref (gh G + 98), .ref (gh G + 99), .ref (gh G + 100)])), (100, .inl (gC G 13, 40, .inl (fun _ => 0))), (99, .inl (gC G 13, 40, .inl (fun _ => 0))), (98, .inl (gC G 13, 40, .inl (fun _ => 0))), (97, .inl (gC G 13, 40, .inl (fun _ => 0))), (96, .inl (gC G 13, 40, .inl (fun _ => 0))), (95, .inl (gC G 13, 40, .inl (fun _ => 0))), (94, .inl (gC G 13, 40, .inl (fun _ => 0)))]) H := hP
  refine q_vret X (hP.congr (fun k hk => ?_)) hS dX2_init_60
  by_cases h93 : k = 93
  · subst h93
    exact fin_o (by decide) rfl (by rw [cE_2 (by decide +kernel)] <;> rfl)
  by_cases h100 : k = 100
  · subst h100
    exact fin_o (by decide) rfl (by rw [cE_13 (by decide +kernel)]; exact fin_i (by decide +kernel) (z0_z (by decide +kernel)))
  by_cases h99 : k = 99
  · subst h99
    exact fin_o (by decide) rfl (by rw [cE_13 (by decide +kernel)]; exact fin_i (by decide +kernel) (z0_z (by decide +kernel)))
  by_cases h98 : k = 98
  · subst h98
    exact fin_o (by decide) rfl (by rw [cE_13 (by decide +kernel)]; exact fin_i (by decide +kernel) (z0_z (by decide +kernel)))
  by_cases h97 : k = 97
  · subst h97
    exact fin_o (by decide) rfl (by rw [cE_13 (by decide +kernel)]; exact fin_i (by decide +kernel) (z0_z (by decide +kernel)))
  by_cases h96 : k = 96
  · subst h96
    exact fin_o (by decide) rfl (by rw [cE_13 (by decide +kernel)]; exact fin_i (by decide +kernel) (z0_z (by decide +kernel)))
  by_cases h95 : k = 95
  · subst h95
    exact fin_o (by decide) rfl (by rw [cE_13 (by decide +kernel)]; exact fin_i (by decide +kernel) (z0_z (by decide +kernel)))
  by_cases h94 : k = 94
  · subst h94
    exact fin_o (by decide) rfl (by rw [cE_13 (by decide +kernel)]; exact fin_i (by decide +kernel) (z0_z (by decide +kernel)))
  exact Or.inl (mw_no (L := [(93, .inr (2, [.int 0, .int 0, .int 0, .int 0, .int 0, .int 0, .ref (gh G + 94), .ref (gh G + 95), .ref (gh G + 96), .ref (gh G + 97), .ref (gh G + 98), .ref (gh G + 99), .ref (gh G + 100)])), (100, .inl (gC G 13, 40, .inl (fun _ => 0))), (99, .inl (gC G 13, 40, .inl (fun _ => 0))), (98, .inl (gC G 13, 40, .inl (fun _ => 0))), (97, .inl (gC G 13, 40, .inl (fun _ => 0))), (96, .inl (gC G 13, 40, .inl (fun _ => 0))), (95, .inl (gC G 13, 40, .inl (fun _ => 0))), (94, .inl (gC G 13, 40, .inl (fun _ => 0)))]) (by simp [List.lookup, beq_eq_false_iff_ne.mpr h93, beq_eq_false_iff_ne.mpr h100, beq_eq_false_iff_ne.mpr h99, beq_eq_false_iff_ne.mpr h98, beq_eq_false_iff_ne.mpr h97, beq_eq_false_iff_ne.mpr h96, beq_eq_false_iff_ne.mpr h95, beq_eq_false_iff_ne.mpr h94]))
set_option maxHeartbeats 4000000 in
set_option maxRecDepth 20000 in
theorem ct_2_103 {l : Launch} {G : GT} {f : Nat → va_E} (hf : f 103 = .inr (2, [.int 0, .int 0, .int 0, .int 0, .int 0, .int 0, .null, .null, .null, .null, .null, .null, .null])) : CTc l yX2_init cX2_init 1 1 60 7 280 G [.ref (gh G + 103)] 104 f 111 (mw G f 103 []) := by
  refine CTc.mk (own := RX2) (by decide) rfl (Nat.le_of_ble_eq_true rfl) ?_
  intro p e s m below meth c ls X hin hO hP hS hl
  have hl : lv_has ls 1 [(0, .ref (gh G + 103))] := hl
  have hz0 := hP.1
  have hP := mw_start hf hP
  refine lv_aload_n X.1 X.2.1 dX2_init_0 rfl (lv_at hl 0 rfl) ?_
  refine q_obj X hl.1 (tb t_338 rfl) (tb t_101 rfl) (tb t_102 rfl) (by decide) (Nat.le_of_ble_eq_true rfl) dX2_init_1 ?_
  refine lv_aload_n X.1 X.2.1 dX2_init_4 rfl (lv_at hl 0 rfl) ?_
  refine lv_bipush (v := i32 40) X.1 X.2.1 dX2_init_5 (by decide) ?_
  refine q_newa13 (N := 40) X hP hS (tb t_145 rfl) (by decide) (Nat.le_of_ble_eq_true rfl) (Nat.le_of_ble_eq_true rfl) (Nat.le_of_ble_eq_true rfl) dX2_init_7 (fun H hP hS => ?_)
  rw [mw_up (by decide)] at hP
  have hP : PWc G 105 (mw G f 103 [(104, .inl (gC G 13, 40, .inl (fun _ => 0))), (103, .inr (2, [.int 0, .int 0, .int 0, .int 0, .int 0, .int 0, .null, .null, .null, .null, .null, .null, .null]))]) H := hP
  refine q_putF (k := 103) (ci := 2) (j := 6) (T := TX2) (fs := [.int 0, .int 0, .int 0, .int 0, .int 0, .int 0, .null, .null, .null, .null, .null, .null, .null]) X hP hS (by have := hz0; omega) (by decide) rfl rfl (inTB inX2) tyX2 tyX2_ok nmX2 (by decide) (tb t_351 rfl) rfl hin rfl (tyX2_ok 6 (by decide)) rfl rfl (Nat.le_of_ble_eq_true rfl) dX2_init_9 (fun H locs hP hS => ?_)
  rw [mw_up (by decide)] at hP
  have hP : PWc G 105 (mw G f 103 [(103, .inr (2, [.int 0, .int 0, .int 0, .int 0, .int 0, .int 0, .ref (gh G + 104), .null, .null, .null, .null, .null, .null])), (104, .inl (gC G 13, 40, .inl (fun _ => 0)))]) H := hP
  refine lv_aload_n X.1 X.2.1 dX2_init_12 rfl (lv_at hl 0 rfl) ?_
  refine lv_bipush (v := i32 40) X.1 X.2.1 dX2_init_13 (by decide) ?_
  refine q_newa13 (N := 40) X hP hS (tb t_145 rfl) (by decide) (Nat.le_of_ble_eq_true rfl) (Nat.le_of_ble_eq_true rfl) (Nat.le_of_ble_eq_true rfl) dX2_init_15 (fun H hP hS => ?_)
  rw [mw_up (by decide)] at hP
  have hP : PWc G 106 (mw G f 103 [(105, .inl (gC G 13, 40, .inl (fun _ => 0))), (103, .inr (2, [.int 0, .int 0, .int 0, .int 0, .int 0, .int 0, .ref (gh G + 104), .null, .null, .null, .null, .null, .null])), (104, .inl (gC G 13, 40, .inl (fun _ => 0)))]) H := hP
  refine q_putF (k := 103) (ci := 2) (j := 7) (T := TX2) (fs := [.int 0, .int 0, .int 0, .int 0, .int 0, .int 0, .ref (gh G + 104), .null, .null, .null, .null, .null, .null]) X hP hS (by have := hz0; omega) (by decide) rfl rfl (inTB inX2) tyX2 tyX2_ok nmX2 (by decide) (tb t_352 rfl) rfl hin rfl (tyX2_ok 7 (by decide)) rfl rfl (Nat.le_of_ble_eq_true rfl) dX2_init_17 (fun H locs hP hS => ?_)
  rw [mw_up (by decide)] at hP
  have hP : PWc G 106 (mw G f 103 [(103, .inr (2, [.int 0, .int 0, .int 0, .int 0, .int 0, .int 0, .ref (gh G + 104), .ref (gh G + 105), .null, .null, .null, .null, .null])), (105, .inl (gC G 13, 40, .inl (fun _ => 0))), (104, .inl (gC G 13, 40, .inl (fun _ => 0)))]) H := hP
  refine lv_aload_n X.1 X.2.1 dX2_init_20 rfl (lv_at hl 0 rfl) ?_
  refine lv_bipush (v := i32 40) X.1 X.2.1 dX2_init_21 (by decide) ?_
  refine q_newa13 (N := 40) X hP hS (tb t_145 rfl) (by decide) (Nat.le_of_ble_eq_true rfl) (Nat.le_of_ble_eq_true rfl) (Nat.le_of_ble_eq_true rfl) dX2_init_23 (fun H hP hS => ?_)
  rw [mw_up (by decide)] at hP
  have hP : PWc G 107 (mw G f 103 [(106, .inl (gC G 13, 40, .inl (fun _ => 0))), (103, .inr (2, [.int 0, .int 0, .int 0, .int 0, .int 0, .int 0, .ref (gh G + 104), .ref (gh G + 105), .null, .null, .null, .null, .null])), (105, .inl (gC G 13, 40, .inl (fun _ => 0))), (104, .inl (gC G 13, 40, .inl (fun _ => 0)))]) H := hP
  refine q_putF (k := 103) (ci := 2) (j := 8) (T := TX2) (fs := [.int 0, .int 0, .int 0, .int 0, .int 0, .int 0, .ref (gh G + 104), .ref (gh G + 105), .null, .null, .null, .null, .null]) X hP hS (by have := hz0; omega) (by decide) rfl rfl (inTB inX2) tyX2 tyX2_ok nmX2 (by decide) (tb t_354 rfl) rfl hin rfl (tyX2_ok 8 (by decide)) rfl rfl (Nat.le_of_ble_eq_true rfl) dX2_init_25 (fun H locs hP hS => ?_)
  rw [mw_up (by decide)] at hP
  have hP : PWc G 107 (mw G f 103 [(103, .inr (2, [.int 0, .int 0, .int 0, .int 0, .int 0, .int 0, .ref (gh G + 104), .ref (gh G + 105), .ref (gh G + 106), .null, .null, .null, .null])), (106, .inl (gC G 13, 40, .inl (fun _ => 0))), (105, .inl (gC G 13, 40, .inl (fun _ => 0))), (104, .inl (gC G 13, 40, .inl (fun _ => 0)))]) H := hP
  refine lv_aload_n X.1 X.2.1 dX2_init_28 rfl (lv_at hl 0 rfl) ?_
  refine lv_bipush (v := i32 40) X.1 X.2.1 dX2_init_29 (by decide) ?_
  refine q_newa13 (N := 40) X hP hS (tb t_145 rfl) (by decide) (Nat.le_of_ble_eq_true rfl) (Nat.le_of_ble_eq_true rfl) (Nat.le_of_ble_eq_true rfl) dX2_init_31 (fun H hP hS => ?_)
  rw [mw_up (by decide)] at hP
  have hP : PWc G 108 (mw G f 103 [(107, .inl (gC G 13, 40, .inl (fun _ => 0))), (103, .inr (2, [.int 0, .int 0, .int 0, .int 0, .int 0, .int 0, .ref (gh G + 104), .ref (gh G + 105), .ref (gh G + 106), .null, .null, .null, .null])), (106, .inl (gC G 13, 40, .inl (fun _ => 0))), (105, .inl (gC G 13, 40, .inl (fun _ => 0))), (104, .inl (gC G 13, 40, .inl (fun _ => 0)))]) H := hP
  refine q_putF (k := 103) (ci := 2) (j := 9) (T := TX2) (fs := [.int 0, .int 0, .int 0, .int 0, .int 0, .int 0, .ref (gh G + 104), .ref (gh G + 105), .ref (gh G + 106), .null, .null, .null, .null]) X hP hS (by have := hz0; omega) (by decide) rfl rfl (inTB inX2) tyX2 tyX2_ok nmX2 (by decide) (tb t_355 rfl) rfl hin rfl (tyX2_ok 9 (by decide)) rfl rfl (Nat.le_of_ble_eq_true rfl) dX2_init_33 (fun H locs hP hS => ?_)
  rw [mw_up (by decide)] at hP
  have hP : PWc G 108 (mw G f 103 [(103, .inr (2, [.int 0, .int 0, .int 0, .int 0, .int 0, .int 0, .ref (gh G + 104), .ref (gh G + 105), .ref (gh G + 106), .ref (gh G + 107), .null, .null, .null])), (107, .inl (gC G 13, 40, .inl (fun _ => 0))), (106, .inl (gC G 13, 40, .inl (fun _ => 0))), (105, .inl (gC G 13, 40, .inl (fun _ => 0))), (104, .inl (gC G 13, 40, .inl (fun _ => 0)))]) H := hP
  refine lv_aload_n X.1 X.2.1 dX2_init_36 rfl (lv_at hl 0 rfl) ?_
  refine lv_bipush (v := i32 40) X.1 X.2.1 dX2_init_37 (by decide) ?_
  refine q_newa13 (N := 40) X hP hS (tb t_145 rfl) (by decide) (Nat.le_of_ble_eq_true rfl) (Nat.le_of_ble_eq_true rfl) (Nat.le_of_ble_eq_true rfl) dX2_init_39 (fun H hP hS => ?_)
  rw [mw_up (by decide)] at hP
  have hP : PWc G 109 (mw G f 103 [(108, .inl (gC G 13, 40, .inl (fun _ => 0))), (103, .inr (2, [.int 0, .int 0, .int 0, .int 0, .int 0, .int 0, .ref (gh G + 104), .ref (gh G + 105), .ref (gh G + 106), .ref (gh G + 107), .null, .null, .null])), (107, .inl (gC G 13, 40, .inl (fun _ => 0))), (106, .inl (gC G 13, 40, .inl (fun _ => 0))), (105, .inl (gC G 13, 40, .inl (fun _ => 0))), (104, .inl (gC G 13, 40, .inl (fun _ => 0)))]) H := hP
  refine q_putF (k := 103) (ci := 2) (j := 10) (T := TX2) (fs := [.int 0, .int 0, .int 0, .int 0, .int 0, .int 0, .ref (gh G + 104), .ref (gh G + 105), .ref (gh G + 106), .ref (gh G + 107), .null, .null, .null]) X hP hS (by have := hz0; omega) (by decide) rfl rfl (inTB inX2) tyX2 tyX2_ok nmX2 (by decide) (tb t_356 rfl) rfl hin rfl (tyX2_ok 10 (by decide)) rfl rfl (Nat.le_of_ble_eq_true rfl) dX2_init_41 (fun H locs hP hS => ?_)
  rw [mw_up (by decide)] at hP
  have hP : PWc G 109 (mw G f 103 [(103, .inr (2, [.int 0, .int 0, .int 0, .int 0, .int 0, .int 0, .ref (gh G + 104), .ref (gh G + 105), .ref (gh G + 106), .ref (gh G + 107), .ref (gh G + 108), .null, .null])), (108, .inl (gC G 13, 40, .inl (fun _ => 0))), (107, .inl (gC G 13, 40, .inl (fun _ => 0))), (106, .inl (gC G 13, 40, .inl (fun _ => 0))), (105, .inl (gC G 13, 40, .inl (fun _ => 0))), (104, .inl (gC G 13, 40, .inl (fun _ => 0)))]) H := hP
  refine lv_aload_n X.1 X.2.1 dX2_init_44 rfl (lv_at hl 0 rfl) ?_
  refine lv_bipush (v := i32 40) X.1 X.2.1 dX2_init_45 (by decide) ?_
  refine q_newa13 (N := 40) X hP hS (tb t_145 rfl) (by decide) (Nat.le_of_ble_eq_true rfl) (Nat.le_of_ble_eq_true rfl) (Nat.le_of_ble_eq_true rfl) dX2_init_47 (fun H hP hS => ?_)
  rw [mw_up (by decide)] at hP
  have hP : PWc G 110 (mw G f 103 [(109, .inl (gC G 13, 40, .inl (fun _ => 0))), (103, .inr (2, [.int 0, .int 0, .int 0, .int 0, .int 0, .int 0, .ref (gh G + 104), .ref (gh G + 105), .ref (gh G + 106), .ref (gh G + 107), .ref (gh G + 108), .null, .null])), (108, .inl (gC G 13, 40, .inl (fun _ => 0))), (107, .inl (gC G 13, 40, .inl (fun _ => 0))), (106, .inl (gC G 13, 40, .inl (fun _ => 0))), (105, .inl (gC G 13, 40, .inl (fun _ => 0))), (104, .inl (gC G 13, 40, .inl (fun _ => 0)))]) H := hP
  refine q_putF (k := 103) (ci := 2) (j := 11) (T := TX2) (fs := [.int 0, .int 0, .int 0, .int 0, .int 0, .int 0, .ref (gh G + 104), .ref (gh G + 105), .ref (gh G + 106), .ref (gh G + 107), .ref (gh G + 108), .null, .null]) X hP hS (by have := hz0; omega) (by decide) rfl rfl (inTB inX2) tyX2 tyX2_ok nmX2 (by decide) (tb t_357 rfl) rfl hin rfl (tyX2_ok 11 (by decide)) rfl rfl (Nat.le_of_ble_eq_true rfl) dX2_init_49 (fun H locs hP hS => ?_)
  rw [mw_up (by decide)] at hP
  have hP : PWc G 110 (mw G f 103 [(103, .inr (2, [.int 0, .int 0, .int 0, .int 0, .int 0, .int 0, .ref (gh G + 104), .ref (gh G + 105), .ref (gh G + 106), .ref (gh G + 107), .ref (gh G + 108), .ref (gh G + 109), .null])), (109, .inl (gC G 13, 40, .inl (fun _ => 0))), (108, .inl (gC G 13, 40, .inl (fun _ => 0))), (107, .inl (gC G 13, 40, .inl (fun _ => 0))), (106, .inl (gC G 13, 40, .inl (fun _ => 0))), (105, .inl (gC G 13, 40, .inl (fun _ => 0))), (104, .inl (gC G 13, 40, .inl (fun _ => 0)))]) H := hP
  refine lv_aload_n X.1 X.2.1 dX2_init_52 rfl (lv_at hl 0 rfl) ?_
  refine lv_bipush (v := i32 40) X.1 X.2.1 dX2_init_53 (by decide) ?_
  refine q_newa13 (N := 40) X hP hS (tb t_145 rfl) (by decide) (Nat.le_of_ble_eq_true rfl) (Nat.le_of_ble_eq_true rfl) (Nat.le_of_ble_eq_true rfl) dX2_init_55 (fun H hP hS => ?_)
  rw [mw_up (by decide)] at hP
  have hP : PWc G 111 (mw G f 103 [(110, .inl (gC G 13, 40, .inl (fun _ => 0))), (103, .inr (2, [.int 0, .int 0, .int 0, .int 0, .int 0, .int 0, .ref (gh G + 104), .ref (gh G + 105), .ref (gh G + 106), .ref (gh G + 107), .ref (gh G + 108), .ref (gh G + 109), .null])), (109, .inl (gC G 13, 40, .inl (fun _ => 0))), (108, .inl (gC G 13, 40, .inl (fun _ => 0))), (107, .inl (gC G 13, 40, .inl (fun _ => 0))), (106, .inl (gC G 13, 40, .inl (fun _ => 0))), (105, .inl (gC G 13, 40, .inl (fun _ => 0))), (104, .inl (gC G 13, 40, .inl (fun _ => 0)))]) H := hP
  refine q_putF (k := 103) (ci := 2) (j := 12) (T := TX2) (fs := [.int 0, .int 0, .int 0, .int 0, .int 0, .int 0, .ref (gh G + 104), .ref (gh G + 105), .ref (gh G + 106), .ref (gh G + 107), .ref (gh G + 108), .ref (gh G + 109), .null]) X hP hS (by have := hz0; omega) (by decide) rfl rfl (inTB inX2) tyX2 tyX2_ok nmX2 (by decide) (tb t_359 rfl) rfl hin rfl (tyX2_ok 12 (by decide)) rfl rfl (Nat.le_of_ble_eq_true rfl) dX2_init_57 (fun H locs hP hS => ?_)
  rw [mw_up (by decide)] at hP
  have hP : PWc G 111 (mw G f 103 [(103, .inr (2, [.int 0, .int 0, .int 0, .int 0, .int 0, .int 0, .ref (gh G + 104), .ref (gh G + 105), .ref (gh G + 106), .ref (gh G + 107), .ref (gh G + 108), .ref (gh G + 109), .ref (gh G + 110)])), (110, .inl (gC G 13, 40, .inl (fun _ => 0))), (109, .inl (gC G 13, 40, .inl (fun _ => 0))), (108, .inl (gC G 13, 40, .inl (fun _ => 0))), (107, .inl (gC G 13, 40, .inl (fun _ => 0))), (106, .inl (gC G 13, 40, .inl (fun _ => 0))), (105, .inl (gC G 13, 40, .inl (fun _ => 0))), (104, .inl (gC G 13, 40, .inl (fun _ => 0)))]) H := hP
  refine q_vret X (hP.congr (fun k hk => ?_)) hS dX2_init_60
  by_cases h103 : k = 103
  · subst h103
    exact fin_o (by decide) rfl (by rw [cE_2 (by decide +kernel)] <;> rfl)
  by_cases h110 : k = 110
  · subst h110
    exact fin_o (by decide) rfl (by rw [cE_13 (by decide +kernel)]; exact fin_i (by decide +kernel) (z0_z (by decide +kernel)))
  by_cases h109 : k = 109
  · subst h109
    exact fin_o (by decide) rfl (by rw [cE_13 (by decide +kernel)]; exact fin_i (by decide +kernel) (z0_z (by decide +kernel)))
  by_cases h108 : k = 108
  · subst h108
    exact fin_o (by decide) rfl (by rw [cE_13 (by decide +kernel)]; exact fin_i (by decide +kernel) (z0_z (by decide +kernel)))
  by_cases h107 : k = 107
  · subst h107
    exact fin_o (by decide) rfl (by rw [cE_13 (by decide +kernel)]; exact fin_i (by decide +kernel) (z0_z (by decide +kernel)))
  by_cases h106 : k = 106
  · subst h106
    exact fin_o (by decide) rfl (by rw [cE_13 (by decide +kernel)]; exact fin_i (by decide +kernel) (z0_z (by decide +kernel)))
  by_cases h105 : k = 105
  · subst h105
    exact fin_o (by decide) rfl (by rw [cE_13 (by decide +kernel)]; exact fin_i (by decide +kernel) (z0_z (by decide +kernel)))
  by_cases h104 : k = 104
  · subst h104
    exact fin_o (by decide) rfl (by rw [cE_13 (by decide +kernel)]; exact fin_i (by decide +kernel) (z0_z (by decide +kernel)))
  exact Or.inl (mw_no (L := [(103, .inr (2, [.int 0, .int 0, .int 0, .int 0, .int 0, .int 0, .ref (gh G + 104), .ref (gh G + 105), .ref (gh G + 106), .ref (gh G + 107), .ref (gh G + 108), .ref (gh G + 109), .ref (gh G + 110)])), (110, .inl (gC G 13, 40, .inl (fun _ => 0))), (109, .inl (gC G 13, 40, .inl (fun _ => 0))), (108, .inl (gC G 13, 40, .inl (fun _ => 0))), (107, .inl (gC G 13, 40, .inl (fun _ => 0))), (106, .inl (gC G 13, 40, .inl (fun _ => 0))), (105, .inl (gC G 13, 40, .inl (fun _ => 0))), (104, .inl (gC G 13, 40, .inl (fun _ => 0)))]) (by simp [List.lookup, beq_eq_false_iff_ne.mpr h103, beq_eq_false_iff_ne.mpr h110, beq_eq_false_iff_ne.mpr h109, beq_eq_false_iff_ne.mpr h108, beq_eq_false_iff_ne.mpr h107, beq_eq_false_iff_ne.mpr h106, beq_eq_false_iff_ne.mpr h105, beq_eq_false_iff_ne.mpr h104]))
set_option maxHeartbeats 4000000 in
set_option maxRecDepth 20000 in
theorem ct_3_54 {l : Launch} {G : GT} {f : Nat → va_E} (hf : f 54 = .inr (3, [.null, .null, .null])) : CTc l yX3_init cX3_init 1 1 60 3 1927 G [.ref (gh G + 54)] 55 f 58 (mw G f 54 []) := by
  refine CTc.mk (own := RX3) (by decide) rfl (Nat.le_of_ble_eq_true rfl) ?_
  intro p e s m below meth c ls X hin hO hP hS hl
  have hl : lv_has ls 1 [(0, .ref (gh G + 54))] := hl
  have hz0 := hP.1
  have hP := mw_start hf hP
  refine lv_aload_n X.1 X.2.1 dX3_init_0 rfl (lv_at hl 0 rfl) ?_
  refine q_obj X hl.1 (tb t_261 rfl) (tb t_101 rfl) (tb t_102 rfl) (by decide) (Nat.le_of_ble_eq_true rfl) dX3_init_1 ?_
  refine lv_aload_n X.1 X.2.1 dX3_init_4 rfl (lv_at hl 0 rfl) ?_
  refine lv_sipush (v := i32 1600) X.1 X.2.1 dX3_init_5 (by decide) ?_
  refine q_newa13 (N := 1600) X hP hS (tb t_145 rfl) (by decide) (Nat.le_of_ble_eq_true rfl) (Nat.le_of_ble_eq_true rfl) (Nat.le_of_ble_eq_true rfl) dX3_init_8 (fun H hP hS => ?_)
  rw [mw_up (by decide)] at hP
  have hP : PWc G 56 (mw G f 54 [(55, .inl (gC G 13, 1600, .inl (fun _ => 0))), (54, .inr (3, [.null, .null, .null]))]) H := hP
  refine q_putF (k := 54) (ci := 3) (j := 0) (T := TX3) (fs := [.null, .null, .null]) X hP hS (by have := hz0; omega) (by decide) rfl rfl (inTB inX3) tyX3 tyX3_ok nmX3 (by decide) (tb t_262 rfl) rfl hin rfl (tyX3_ok 0 (by decide)) rfl rfl (Nat.le_of_ble_eq_true rfl) dX3_init_10 (fun H locs hP hS => ?_)
  rw [mw_up (by decide)] at hP
  have hP : PWc G 56 (mw G f 54 [(54, .inr (3, [.ref (gh G + 55), .null, .null])), (55, .inl (gC G 13, 1600, .inl (fun _ => 0)))]) H := hP
  refine lv_aload_n X.1 X.2.1 dX3_init_13 rfl (lv_at hl 0 rfl) ?_
  refine lv_bipush (v := i32 40) X.1 X.2.1 dX3_init_14 (by decide) ?_
  refine q_newa13 (N := 40) X hP hS (tb t_145 rfl) (by decide) (Nat.le_of_ble_eq_true rfl) (Nat.le_of_ble_eq_true rfl) (Nat.le_of_ble_eq_true rfl) dX3_init_16 (fun H hP hS => ?_)
  rw [mw_up (by decide)] at hP
  have hP : PWc G 57 (mw G f 54 [(56, .inl (gC G 13, 40, .inl (fun _ => 0))), (54, .inr (3, [.ref (gh G + 55), .null, .null])), (55, .inl (gC G 13, 1600, .inl (fun _ => 0)))]) H := hP
  refine q_putF (k := 54) (ci := 3) (j := 1) (T := TX3) (fs := [.ref (gh G + 55), .null, .null]) X hP hS (by have := hz0; omega) (by decide) rfl rfl (inTB inX3) tyX3 tyX3_ok nmX3 (by decide) (tb t_263 rfl) rfl hin rfl (tyX3_ok 1 (by decide)) rfl rfl (Nat.le_of_ble_eq_true rfl) dX3_init_18 (fun H locs hP hS => ?_)
  rw [mw_up (by decide)] at hP
  have hP : PWc G 57 (mw G f 54 [(54, .inr (3, [.ref (gh G + 55), .ref (gh G + 56), .null])), (56, .inl (gC G 13, 40, .inl (fun _ => 0))), (55, .inl (gC G 13, 1600, .inl (fun _ => 0)))]) H := hP
  refine lv_aload_n X.1 X.2.1 dX3_init_21 rfl (lv_at hl 0 rfl) ?_
  refine lv_sipush (v := i32 287) X.1 X.2.1 dX3_init_22 (by decide) ?_
  refine q_newa13 (N := 287) X hP hS (tb t_145 rfl) (by decide) (Nat.le_of_ble_eq_true rfl) (Nat.le_of_ble_eq_true rfl) (Nat.le_of_ble_eq_true rfl) dX3_init_25 (fun H hP hS => ?_)
  rw [mw_up (by decide)] at hP
  have hP : PWc G 58 (mw G f 54 [(57, .inl (gC G 13, 287, .inl (fun _ => 0))), (54, .inr (3, [.ref (gh G + 55), .ref (gh G + 56), .null])), (56, .inl (gC G 13, 40, .inl (fun _ => 0))), (55, .inl (gC G 13, 1600, .inl (fun _ => 0)))]) H := hP
  refine q_putF (k := 54) (ci := 3) (j := 2) (T := TX3) (fs := [.ref (gh G + 55), .ref (gh G + 56), .null]) X hP hS (by have := hz0; omega) (by decide) rfl rfl (inTB inX3) tyX3 tyX3_ok nmX3 (by decide) (tb t_264 rfl) rfl hin rfl (tyX3_ok 2 (by decide)) rfl rfl (Nat.le_of_ble_eq_true rfl) dX3_init_27 (fun H locs hP hS => ?_)
  rw [mw_up (by decide)] at hP
  have hP : PWc G 58 (mw G f 54 [(54, .inr (3, [.ref (gh G + 55), .ref (gh G + 56), .ref (gh G + 57)])), (57, .inl (gC G 13, 287, .inl (fun _ => 0))), (56, .inl (gC G 13, 40, .inl (fun _ => 0))), (55, .inl (gC G 13, 1600, .inl (fun _ => 0)))]) H := hP
  refine q_vret X (hP.congr (fun k hk => ?_)) hS dX3_init_30
  by_cases h54 : k = 54
  · subst h54
    exact fin_o (by decide) rfl (by rw [cE_3 (by decide +kernel)] <;> rfl)
  by_cases h57 : k = 57
  · subst h57
    exact fin_o (by decide) rfl (by rw [cE_13 (by decide +kernel)]; exact fin_i (by decide +kernel) (z0_z (by decide +kernel)))
  by_cases h56 : k = 56
  · subst h56
    exact fin_o (by decide) rfl (by rw [cE_13 (by decide +kernel)]; exact fin_i (by decide +kernel) (z0_z (by decide +kernel)))
  by_cases h55 : k = 55
  · subst h55
    exact fin_o (by decide) rfl (by rw [cE_13 (by decide +kernel)]; exact fin_i (by decide +kernel) (z0_z (by decide +kernel)))
  exact Or.inl (mw_no (L := [(54, .inr (3, [.ref (gh G + 55), .ref (gh G + 56), .ref (gh G + 57)])), (57, .inl (gC G 13, 287, .inl (fun _ => 0))), (56, .inl (gC G 13, 40, .inl (fun _ => 0))), (55, .inl (gC G 13, 1600, .inl (fun _ => 0)))]) (by simp [List.lookup, beq_eq_false_iff_ne.mpr h54, beq_eq_false_iff_ne.mpr h57, beq_eq_false_iff_ne.mpr h56, beq_eq_false_iff_ne.mpr h55]))
set_option maxHeartbeats 4000000 in
set_option maxRecDepth 20000 in
theorem ct_8_42 {l : Launch} {G : GT} {f : Nat → va_E} (hf : f 42 = .inr (8, [.null, .int 0, .null, .null, .null, .int 0])) : CTc l yX8_init cX8_init 1 1 60 4 483 G [.ref (gh G + 42)] 43 f 47 (mw G f 42 []) := by
  refine CTc.mk (own := RX8) (by decide) rfl (Nat.le_of_ble_eq_true rfl) ?_
  intro p e s m below meth c ls X hin hO hP hS hl
  have hl : lv_has ls 1 [(0, .ref (gh G + 42))] := hl
  have hz0 := hP.1
  have hP := mw_start hf hP
  refine lv_aload_n X.1 X.2.1 dX8_init_0 rfl (lv_at hl 0 rfl) ?_
  refine q_obj X hl.1 (tb t_193 rfl) (tb t_101 rfl) (tb t_102 rfl) (by decide) (Nat.le_of_ble_eq_true rfl) dX8_init_1 ?_
  refine lv_aload_n X.1 X.2.1 dX8_init_4 rfl (lv_at hl 0 rfl) ?_
  refine lv_bipush (v := i32 120) X.1 X.2.1 dX8_init_5 (by decide) ?_
  refine q_newa12 (N := 120) X hP hS (tb t_214 rfl) (by decide) (Nat.le_of_ble_eq_true rfl) (Nat.le_of_ble_eq_true rfl) (Nat.le_of_ble_eq_true rfl) dX8_init_7 (fun H hP hS => ?_)
  rw [mw_up (by decide)] at hP
  have hP : PWc G 44 (mw G f 42 [(43, .inl (gC G 12, 120, .inl (fun _ => 0))), (42, .inr (8, [.null, .int 0, .null, .null, .null, .int 0]))]) H := hP
  refine q_putF (k := 42) (ci := 8) (j := 0) (T := TX8) (fs := [.null, .int 0, .null, .null, .null, .int 0]) X hP hS (by have := hz0; omega) (by decide) rfl rfl (inTB inX8) tyX8 tyX8_ok nmX8 (by decide) (tb t_194 rfl) rfl hin rfl (tyX8_ok 0 (by decide)) rfl rfl (Nat.le_of_ble_eq_true rfl) dX8_init_9 (fun H locs hP hS => ?_)
  rw [mw_up (by decide)] at hP
  have hP : PWc G 44 (mw G f 42 [(42, .inr (8, [.ref (gh G + 43), .int 0, .null, .null, .null, .int 0])), (43, .inl (gC G 12, 120, .inl (fun _ => 0)))]) H := hP
  refine lv_aload_n X.1 X.2.1 dX8_init_12 rfl (lv_at hl 0 rfl) ?_
  refine lv_bipush (v := i32 121) X.1 X.2.1 dX8_init_13 (by decide) ?_
  refine q_newa13 (N := 121) X hP hS (tb t_145 rfl) (by decide) (Nat.le_of_ble_eq_true rfl) (Nat.le_of_ble_eq_true rfl) (Nat.le_of_ble_eq_true rfl) dX8_init_15 (fun H hP hS => ?_)
  rw [mw_up (by decide)] at hP
  have hP : PWc G 45 (mw G f 42 [(44, .inl (gC G 13, 121, .inl (fun _ => 0))), (42, .inr (8, [.ref (gh G + 43), .int 0, .null, .null, .null, .int 0])), (43, .inl (gC G 12, 120, .inl (fun _ => 0)))]) H := hP
  refine q_putF (k := 42) (ci := 8) (j := 2) (T := TX8) (fs := [.ref (gh G + 43), .int 0, .null, .null, .null, .int 0]) X hP hS (by have := hz0; omega) (by decide) rfl rfl (inTB inX8) tyX8 tyX8_ok nmX8 (by decide) (tb t_197 rfl) rfl hin rfl (tyX8_ok 2 (by decide)) rfl rfl (Nat.le_of_ble_eq_true rfl) dX8_init_17 (fun H locs hP hS => ?_)
  rw [mw_up (by decide)] at hP
  have hP : PWc G 45 (mw G f 42 [(42, .inr (8, [.ref (gh G + 43), .int 0, .ref (gh G + 44), .null, .null, .int 0])), (44, .inl (gC G 13, 121, .inl (fun _ => 0))), (43, .inl (gC G 12, 120, .inl (fun _ => 0)))]) H := hP
  refine lv_aload_n X.1 X.2.1 dX8_init_20 rfl (lv_at hl 0 rfl) ?_
  refine lv_bipush (v := i32 121) X.1 X.2.1 dX8_init_21 (by decide) ?_
  refine q_newa13 (N := 121) X hP hS (tb t_145 rfl) (by decide) (Nat.le_of_ble_eq_true rfl) (Nat.le_of_ble_eq_true rfl) (Nat.le_of_ble_eq_true rfl) dX8_init_23 (fun H hP hS => ?_)
  rw [mw_up (by decide)] at hP
  have hP : PWc G 46 (mw G f 42 [(45, .inl (gC G 13, 121, .inl (fun _ => 0))), (42, .inr (8, [.ref (gh G + 43), .int 0, .ref (gh G + 44), .null, .null, .int 0])), (44, .inl (gC G 13, 121, .inl (fun _ => 0))), (43, .inl (gC G 12, 120, .inl (fun _ => 0)))]) H := hP
  refine q_putF (k := 42) (ci := 8) (j := 3) (T := TX8) (fs := [.ref (gh G + 43), .int 0, .ref (gh G + 44), .null, .null, .int 0]) X hP hS (by have := hz0; omega) (by decide) rfl rfl (inTB inX8) tyX8 tyX8_ok nmX8 (by decide) (tb t_198 rfl) rfl hin rfl (tyX8_ok 3 (by decide)) rfl rfl (Nat.le_of_ble_eq_true rfl) dX8_init_25 (fun H locs hP hS => ?_)
  rw [mw_up (by decide)] at hP
  have hP : PWc G 46 (mw G f 42 [(42, .inr (8, [.ref (gh G + 43), .int 0, .ref (gh G + 44), .ref (gh G + 45), .null, .int 0])), (45, .inl (gC G 13, 121, .inl (fun _ => 0))), (44, .inl (gC G 13, 121, .inl (fun _ => 0))), (43, .inl (gC G 12, 120, .inl (fun _ => 0)))]) H := hP
  refine lv_aload_n X.1 X.2.1 dX8_init_28 rfl (lv_at hl 0 rfl) ?_
  refine lv_bipush (v := i32 121) X.1 X.2.1 dX8_init_29 (by decide) ?_
  refine q_newa13 (N := 121) X hP hS (tb t_145 rfl) (by decide) (Nat.le_of_ble_eq_true rfl) (Nat.le_of_ble_eq_true rfl) (Nat.le_of_ble_eq_true rfl) dX8_init_31 (fun H hP hS => ?_)
  rw [mw_up (by decide)] at hP
  have hP : PWc G 47 (mw G f 42 [(46, .inl (gC G 13, 121, .inl (fun _ => 0))), (42, .inr (8, [.ref (gh G + 43), .int 0, .ref (gh G + 44), .ref (gh G + 45), .null, .int 0])), (45, .inl (gC G 13, 121, .inl (fun _ => 0))), (44, .inl (gC G 13, 121, .inl (fun _ => 0))), (43, .inl (gC G 12, 120, .inl (fun _ => 0)))]) H := hP
  refine q_putF (k := 42) (ci := 8) (j := 4) (T := TX8) (fs := [.ref (gh G + 43), .int 0, .ref (gh G + 44), .ref (gh G + 45), .null, .int 0]) X hP hS (by have := hz0; omega) (by decide) rfl rfl (inTB inX8) tyX8 tyX8_ok nmX8 (by decide) (tb t_199 rfl) rfl hin rfl (tyX8_ok 4 (by decide)) rfl rfl (Nat.le_of_ble_eq_true rfl) dX8_init_33 (fun H locs hP hS => ?_)
  rw [mw_up (by decide)] at hP
  have hP : PWc G 47 (mw G f 42 [(42, .inr (8, [.ref (gh G + 43), .int 0, .ref (gh G + 44), .ref (gh G + 45), .ref (gh G + 46), .int 0])), (46, .inl (gC G 13, 121, .inl (fun _ => 0))), (45, .inl (gC G 13, 121, .inl (fun _ => 0))), (44, .inl (gC G 13, 121, .inl (fun _ => 0))), (43, .inl (gC G 12, 120, .inl (fun _ => 0)))]) H := hP
  refine q_vret X (hP.congr (fun k hk => ?_)) hS dX8_init_36
  by_cases h42 : k = 42
  · subst h42
    exact fin_o (by decide) rfl (by rw [cE_8 (by decide +kernel)] <;> rfl)
  by_cases h46 : k = 46
  · subst h46
    exact fin_o (by decide) rfl (by rw [cE_13 (by decide +kernel)]; exact fin_i (by decide +kernel) (z0_z (by decide +kernel)))
  by_cases h45 : k = 45
  · subst h45
    exact fin_o (by decide) rfl (by rw [cE_13 (by decide +kernel)]; exact fin_i (by decide +kernel) (z0_z (by decide +kernel)))
  by_cases h44 : k = 44
  · subst h44
    exact fin_o (by decide) rfl (by rw [cE_13 (by decide +kernel)]; exact fin_i (by decide +kernel) (z0_z (by decide +kernel)))
  by_cases h43 : k = 43
  · subst h43
    exact fin_o (by decide) rfl (by rw [cE_12 (by decide +kernel)]; exact fin_i (by decide +kernel) (z0_z (by decide +kernel)))
  exact Or.inl (mw_no (L := [(42, .inr (8, [.ref (gh G + 43), .int 0, .ref (gh G + 44), .ref (gh G + 45), .ref (gh G + 46), .int 0])), (46, .inl (gC G 13, 121, .inl (fun _ => 0))), (45, .inl (gC G 13, 121, .inl (fun _ => 0))), (44, .inl (gC G 13, 121, .inl (fun _ => 0))), (43, .inl (gC G 12, 120, .inl (fun _ => 0)))]) (by simp [List.lookup, beq_eq_false_iff_ne.mpr h42, beq_eq_false_iff_ne.mpr h46, beq_eq_false_iff_ne.mpr h45, beq_eq_false_iff_ne.mpr h44, beq_eq_false_iff_ne.mpr h43]))
set_option maxHeartbeats 4000000 in
set_option maxRecDepth 20000 in
theorem ct_0_4 {l : Launch} {G : GT} {f : Nat → va_E} (hf : f 4 = .inr (0, [.null, .null, .null, .int 0, .null])) : CTc l yX0_init cX0_init 1 3 130 4 100 G [.ref (gh G + 4)] 5 f 9 (mw G f 4 []) := by
  refine CTc.mk (own := RX0) (by decide) rfl (Nat.le_of_ble_eq_true rfl) ?_
  intro p e s m below meth c ls X hin hO hP hS hl
  have hl : lv_has ls 1 [(0, .ref (gh G + 4))] := hl
  have hz0 := hP.1
  have hP := mw_start hf hP
  refine lv_aload_n X.1 X.2.1 dX0_init_0 rfl (lv_at hl 0 rfl) ?_
  refine q_obj X hl.1 (tb t_116 rfl) (tb t_101 rfl) (tb t_102 rfl) (by decide) (Nat.le_of_ble_eq_true rfl) dX0_init_1 ?_
  refine lv_aload_n X.1 X.2.1 dX0_init_4 rfl (lv_at hl 0 rfl) ?_
  refine lv_bipush (v := i32 30) X.1 X.2.1 dX0_init_5 (by decide) ?_
  refine q_newa13 (N := 30) X hP hS (tb t_145 rfl) (by decide) (Nat.le_of_ble_eq_true rfl) (Nat.le_of_ble_eq_true rfl) (Nat.le_of_ble_eq_true rfl) dX0_init_7 (fun H hP hS => ?_)
  rw [mw_up (by decide)] at hP
  have hP : PWc G 6 (mw G f 4 [(5, .inl (gC G 13, 30, .inl (fun _ => 0))), (4, .inr (0, [.null, .null, .null, .int 0, .null]))]) H := hP
  refine q_putF (k := 4) (ci := 0) (j := 0) (T := TX0) (fs := [.null, .null, .null, .int 0, .null]) X hP hS (by have := hz0; omega) (by decide) rfl rfl (inTB inX0) tyX0 tyX0_ok nmX0 (by decide) (tb t_120 rfl) rfl hin rfl (tyX0_ok 0 (by decide)) rfl rfl (Nat.le_of_ble_eq_true rfl) dX0_init_9 (fun H locs hP hS => ?_)
  rw [mw_up (by decide)] at hP
  have hP : PWc G 6 (mw G f 4 [(4, .inr (0, [.ref (gh G + 5), .null, .null, .int 0, .null])), (5, .inl (gC G 13, 30, .inl (fun _ => 0)))]) H := hP
  refine lv_aload_n X.1 X.2.1 dX0_init_12 rfl (lv_at hl 0 rfl) ?_
  refine lv_bipush (v := i32 30) X.1 X.2.1 dX0_init_13 (by decide) ?_
  refine q_newa13 (N := 30) X hP hS (tb t_145 rfl) (by decide) (Nat.le_of_ble_eq_true rfl) (Nat.le_of_ble_eq_true rfl) (Nat.le_of_ble_eq_true rfl) dX0_init_15 (fun H hP hS => ?_)
  rw [mw_up (by decide)] at hP
  have hP : PWc G 7 (mw G f 4 [(6, .inl (gC G 13, 30, .inl (fun _ => 0))), (4, .inr (0, [.ref (gh G + 5), .null, .null, .int 0, .null])), (5, .inl (gC G 13, 30, .inl (fun _ => 0)))]) H := hP
  refine q_putF (k := 4) (ci := 0) (j := 1) (T := TX0) (fs := [.ref (gh G + 5), .null, .null, .int 0, .null]) X hP hS (by have := hz0; omega) (by decide) rfl rfl (inTB inX0) tyX0 tyX0_ok nmX0 (by decide) (tb t_123 rfl) rfl hin rfl (tyX0_ok 1 (by decide)) rfl rfl (Nat.le_of_ble_eq_true rfl) dX0_init_17 (fun H locs hP hS => ?_)
  rw [mw_up (by decide)] at hP
  have hP : PWc G 7 (mw G f 4 [(4, .inr (0, [.ref (gh G + 5), .ref (gh G + 6), .null, .int 0, .null])), (6, .inl (gC G 13, 30, .inl (fun _ => 0))), (5, .inl (gC G 13, 30, .inl (fun _ => 0)))]) H := hP
  refine lv_aload_n X.1 X.2.1 dX0_init_20 rfl (lv_at hl 0 rfl) ?_
  refine lv_bipush (v := i32 30) X.1 X.2.1 dX0_init_21 (by decide) ?_
  refine q_newa13 (N := 30) X hP hS (tb t_145 rfl) (by decide) (Nat.le_of_ble_eq_true rfl) (Nat.le_of_ble_eq_true rfl) (Nat.le_of_ble_eq_true rfl) dX0_init_23 (fun H hP hS => ?_)
  rw [mw_up (by decide)] at hP
  have hP : PWc G 8 (mw G f 4 [(7, .inl (gC G 13, 30, .inl (fun _ => 0))), (4, .inr (0, [.ref (gh G + 5), .ref (gh G + 6), .null, .int 0, .null])), (6, .inl (gC G 13, 30, .inl (fun _ => 0))), (5, .inl (gC G 13, 30, .inl (fun _ => 0)))]) H := hP
  refine q_putF (k := 4) (ci := 0) (j := 2) (T := TX0) (fs := [.ref (gh G + 5), .ref (gh G + 6), .null, .int 0, .null]) X hP hS (by have := hz0; omega) (by decide) rfl rfl (inTB inX0) tyX0 tyX0_ok nmX0 (by decide) (tb t_126 rfl) rfl hin rfl (tyX0_ok 2 (by decide)) rfl rfl (Nat.le_of_ble_eq_true rfl) dX0_init_25 (fun H locs hP hS => ?_)
  rw [mw_up (by decide)] at hP
  have hP : PWc G 8 (mw G f 4 [(4, .inr (0, [.ref (gh G + 5), .ref (gh G + 6), .ref (gh G + 7), .int 0, .null])), (7, .inl (gC G 13, 30, .inl (fun _ => 0))), (6, .inl (gC G 13, 30, .inl (fun _ => 0))), (5, .inl (gC G 13, 30, .inl (fun _ => 0)))]) H := hP
  refine lv_aload_n X.1 X.2.1 dX0_init_28 rfl (lv_at hl 0 rfl) ?_
  refine lv_bipush (v := i32 10) X.1 X.2.1 dX0_init_29 (by decide) ?_
  refine q_newa13 (N := 10) X hP hS (tb t_145 rfl) (by decide) (Nat.le_of_ble_eq_true rfl) (Nat.le_of_ble_eq_true rfl) (Nat.le_of_ble_eq_true rfl) dX0_init_31 (fun H hP hS => ?_)
  rw [mw_up (by decide)] at hP
  have hP : PWc G 9 (mw G f 4 [(8, .inl (gC G 13, 10, .inl (fun _ => 0))), (4, .inr (0, [.ref (gh G + 5), .ref (gh G + 6), .ref (gh G + 7), .int 0, .null])), (7, .inl (gC G 13, 30, .inl (fun _ => 0))), (6, .inl (gC G 13, 30, .inl (fun _ => 0))), (5, .inl (gC G 13, 30, .inl (fun _ => 0)))]) H := hP
  refine q_putF (k := 4) (ci := 0) (j := 4) (T := TX0) (fs := [.ref (gh G + 5), .ref (gh G + 6), .ref (gh G + 7), .int 0, .null]) X hP hS (by have := hz0; omega) (by decide) rfl rfl (inTB inX0) tyX0 tyX0_ok nmX0 (by decide) (tb t_132 rfl) rfl hin rfl (tyX0_ok 4 (by decide)) rfl rfl (Nat.le_of_ble_eq_true rfl) dX0_init_33 (fun H locs hP hS => ?_)
  rw [mw_up (by decide)] at hP
  have hP : PWc G 9 (mw G f 4 [(4, .inr (0, [.ref (gh G + 5), .ref (gh G + 6), .ref (gh G + 7), .int 0, .ref (gh G + 8)])), (8, .inl (gC G 13, 10, .inl (fun _ => 0))), (7, .inl (gC G 13, 30, .inl (fun _ => 0))), (6, .inl (gC G 13, 30, .inl (fun _ => 0))), (5, .inl (gC G 13, 30, .inl (fun _ => 0)))]) H := hP
  refine lv_aload_n X.1 X.2.1 dX0_init_36 rfl (lv_at hl 0 rfl) ?_
  refine q_get (k := 4) (ci := 0) (j := 4) (T := TX0) (fs := [.ref (gh G + 5), .ref (gh G + 6), .ref (gh G + 7), .int 0, .ref (gh G + 8)]) X hP hS (by decide) rfl rfl (inTB inX0) (by decide) rfl (tb t_132 rfl) dX0_init_37 ?_
  refine lv_iconst (v := i32 (-1)) X.1 X.2.1 dX0_init_40 rfl ?_
  refine q_fill (k := 8) (N := 10) (g := fun _ => 0) X hP hS hO (by have := hz0; omega) hl.1 (by decide) rfl (tb t_117 rfl) (by decide) (Nat.le_of_ble_eq_true rfl) dX0_init_41 ⟨Nat.le_of_ble_eq_true rfl, Nat.le_of_ble_eq_true rfl⟩ (fun H locs hP hS => ?_)
  rw [mw_up (by decide)] at hP
  have hP : PWc G 9 (mw G f 4 [(8, .inl (gC G 13, 10, .inl (fun j => if j < 10 then i32 (-1) else (fun _ => 0) j))), (4, .inr (0, [.ref (gh G + 5), .ref (gh G + 6), .ref (gh G + 7), .int 0, .ref (gh G + 8)])), (7, .inl (gC G 13, 30, .inl (fun _ => 0))), (6, .inl (gC G 13, 30, .inl (fun _ => 0))), (5, .inl (gC G 13, 30, .inl (fun _ => 0)))]) H := hP
  refine q_vret X (hP.congr (fun k hk => ?_)) hS dX0_init_44
  by_cases h8 : k = 8
  · subst h8
    exact fin_o (by decide) rfl (by rw [cE_13 (by decide +kernel)]; exact fin_i (by decide +kernel) (z0_sp (by decide)))
  by_cases h4 : k = 4
  · subst h4
    exact fin_o (by decide) rfl (by rw [cE_0 (by decide +kernel)] <;> rfl)
  by_cases h7 : k = 7
  · subst h7
    exact fin_o (by decide) rfl (by rw [cE_13 (by decide +kernel)]; exact fin_i (by decide +kernel) (z0_z (by decide +kernel)))
  by_cases h6 : k = 6
  · subst h6
    exact fin_o (by decide) rfl (by rw [cE_13 (by decide +kernel)]; exact fin_i (by decide +kernel) (z0_z (by decide +kernel)))
  by_cases h5 : k = 5
  · subst h5
    exact fin_o (by decide) rfl (by rw [cE_13 (by decide +kernel)]; exact fin_i (by decide +kernel) (z0_z (by decide +kernel)))
  exact Or.inl (mw_no (L := [(8, .inl (gC G 13, 10, .inl (fun j => if j < 10 then i32 (-1) else (fun _ => 0) j))), (4, .inr (0, [.ref (gh G + 5), .ref (gh G + 6), .ref (gh G + 7), .int 0, .ref (gh G + 8)])), (7, .inl (gC G 13, 30, .inl (fun _ => 0))), (6, .inl (gC G 13, 30, .inl (fun _ => 0))), (5, .inl (gC G 13, 30, .inl (fun _ => 0)))]) (by simp [List.lookup, beq_eq_false_iff_ne.mpr h8, beq_eq_false_iff_ne.mpr h4, beq_eq_false_iff_ne.mpr h7, beq_eq_false_iff_ne.mpr h6, beq_eq_false_iff_ne.mpr h5]))
set_option maxHeartbeats 4000000 in
set_option maxRecDepth 20000 in
theorem ct_0_24 {l : Launch} {G : GT} {f : Nat → va_E} (hf : f 24 = .inr (0, [.null, .null, .null, .int 0, .null])) : CTc l yX0_init cX0_init 1 3 130 4 100 G [.ref (gh G + 24)] 25 f 29 (mw G f 24 []) := by
  refine CTc.mk (own := RX0) (by decide) rfl (Nat.le_of_ble_eq_true rfl) ?_
  intro p e s m below meth c ls X hin hO hP hS hl
  have hl : lv_has ls 1 [(0, .ref (gh G + 24))] := hl
  have hz0 := hP.1
  have hP := mw_start hf hP
  refine lv_aload_n X.1 X.2.1 dX0_init_0 rfl (lv_at hl 0 rfl) ?_
  refine q_obj X hl.1 (tb t_116 rfl) (tb t_101 rfl) (tb t_102 rfl) (by decide) (Nat.le_of_ble_eq_true rfl) dX0_init_1 ?_
  refine lv_aload_n X.1 X.2.1 dX0_init_4 rfl (lv_at hl 0 rfl) ?_
  refine lv_bipush (v := i32 30) X.1 X.2.1 dX0_init_5 (by decide) ?_
  refine q_newa13 (N := 30) X hP hS (tb t_145 rfl) (by decide) (Nat.le_of_ble_eq_true rfl) (Nat.le_of_ble_eq_true rfl) (Nat.le_of_ble_eq_true rfl) dX0_init_7 (fun H hP hS => ?_)
  rw [mw_up (by decide)] at hP
  have hP : PWc G 26 (mw G f 24 [(25, .inl (gC G 13, 30, .inl (fun _ => 0))), (24, .inr (0, [.null, .null, .null, .int 0, .null]))]) H := hP
  refine q_putF (k := 24) (ci := 0) (j := 0) (T := TX0) (fs := [.null, .null, .null, .int 0, .null]) X hP hS (by have := hz0; omega) (by decide) rfl rfl (inTB inX0) tyX0 tyX0_ok nmX0 (by decide) (tb t_120 rfl) rfl hin rfl (tyX0_ok 0 (by decide)) rfl rfl (Nat.le_of_ble_eq_true rfl) dX0_init_9 (fun H locs hP hS => ?_)
  rw [mw_up (by decide)] at hP
  have hP : PWc G 26 (mw G f 24 [(24, .inr (0, [.ref (gh G + 25), .null, .null, .int 0, .null])), (25, .inl (gC G 13, 30, .inl (fun _ => 0)))]) H := hP
  refine lv_aload_n X.1 X.2.1 dX0_init_12 rfl (lv_at hl 0 rfl) ?_
  refine lv_bipush (v := i32 30) X.1 X.2.1 dX0_init_13 (by decide) ?_
  refine q_newa13 (N := 30) X hP hS (tb t_145 rfl) (by decide) (Nat.le_of_ble_eq_true rfl) (Nat.le_of_ble_eq_true rfl) (Nat.le_of_ble_eq_true rfl) dX0_init_15 (fun H hP hS => ?_)
  rw [mw_up (by decide)] at hP
  have hP : PWc G 27 (mw G f 24 [(26, .inl (gC G 13, 30, .inl (fun _ => 0))), (24, .inr (0, [.ref (gh G + 25), .null, .null, .int 0, .null])), (25, .inl (gC G 13, 30, .inl (fun _ => 0)))]) H := hP
  refine q_putF (k := 24) (ci := 0) (j := 1) (T := TX0) (fs := [.ref (gh G + 25), .null, .null, .int 0, .null]) X hP hS (by have := hz0; omega) (by decide) rfl rfl (inTB inX0) tyX0 tyX0_ok nmX0 (by decide) (tb t_123 rfl) rfl hin rfl (tyX0_ok 1 (by decide)) rfl rfl (Nat.le_of_ble_eq_true rfl) dX0_init_17 (fun H locs hP hS => ?_)
  rw [mw_up (by decide)] at hP
  have hP : PWc G 27 (mw G f 24 [(24, .inr (0, [.ref (gh G + 25), .ref (gh G + 26), .null, .int 0, .null])), (26, .inl (gC G 13, 30, .inl (fun _ => 0))), (25, .inl (gC G 13, 30, .inl (fun _ => 0)))]) H := hP
  refine lv_aload_n X.1 X.2.1 dX0_init_20 rfl (lv_at hl 0 rfl) ?_
  refine lv_bipush (v := i32 30) X.1 X.2.1 dX0_init_21 (by decide) ?_
  refine q_newa13 (N := 30) X hP hS (tb t_145 rfl) (by decide) (Nat.le_of_ble_eq_true rfl) (Nat.le_of_ble_eq_true rfl) (Nat.le_of_ble_eq_true rfl) dX0_init_23 (fun H hP hS => ?_)
  rw [mw_up (by decide)] at hP
  have hP : PWc G 28 (mw G f 24 [(27, .inl (gC G 13, 30, .inl (fun _ => 0))), (24, .inr (0, [.ref (gh G + 25), .ref (gh G + 26), .null, .int 0, .null])), (26, .inl (gC G 13, 30, .inl (fun _ => 0))), (25, .inl (gC G 13, 30, .inl (fun _ => 0)))]) H := hP
  refine q_putF (k := 24) (ci := 0) (j := 2) (T := TX0) (fs := [.ref (gh G + 25), .ref (gh G + 26), .null, .int 0, .null]) X hP hS (by have := hz0; omega) (by decide) rfl rfl (inTB inX0) tyX0 tyX0_ok nmX0 (by decide) (tb t_126 rfl) rfl hin rfl (tyX0_ok 2 (by decide)) rfl rfl (Nat.le_of_ble_eq_true rfl) dX0_init_25 (fun H locs hP hS => ?_)
  rw [mw_up (by decide)] at hP
  have hP : PWc G 28 (mw G f 24 [(24, .inr (0, [.ref (gh G + 25), .ref (gh G + 26), .ref (gh G + 27), .int 0, .null])), (27, .inl (gC G 13, 30, .inl (fun _ => 0))), (26, .inl (gC G 13, 30, .inl (fun _ => 0))), (25, .inl (gC G 13, 30, .inl (fun _ => 0)))]) H := hP
  refine lv_aload_n X.1 X.2.1 dX0_init_28 rfl (lv_at hl 0 rfl) ?_
  refine lv_bipush (v := i32 10) X.1 X.2.1 dX0_init_29 (by decide) ?_
  refine q_newa13 (N := 10) X hP hS (tb t_145 rfl) (by decide) (Nat.le_of_ble_eq_true rfl) (Nat.le_of_ble_eq_true rfl) (Nat.le_of_ble_eq_true rfl) dX0_init_31 (fun H hP hS => ?_)
  rw [mw_up (by decide)] at hP
  have hP : PWc G 29 (mw G f 24 [(28, .inl (gC G 13, 10, .inl (fun _ => 0))), (24, .inr (0, [.ref (gh G + 25), .ref (gh G + 26), .ref (gh G + 27), .int 0, .null])), (27, .inl (gC G 13, 30, .inl (fun _ => 0))), (26, .inl (gC G 13, 30, .inl (fun _ => 0))), (25, .inl (gC G 13, 30, .inl (fun _ => 0)))]) H := hP
  refine q_putF (k := 24) (ci := 0) (j := 4) (T := TX0) (fs := [.ref (gh G + 25), .ref (gh G + 26), .ref (gh G + 27), .int 0, .null]) X hP hS (by have := hz0; omega) (by decide) rfl rfl (inTB inX0) tyX0 tyX0_ok nmX0 (by decide) (tb t_132 rfl) rfl hin rfl (tyX0_ok 4 (by decide)) rfl rfl (Nat.le_of_ble_eq_true rfl) dX0_init_33 (fun H locs hP hS => ?_)
  rw [mw_up (by decide)] at hP
  have hP : PWc G 29 (mw G f 24 [(24, .inr (0, [.ref (gh G + 25), .ref (gh G + 26), .ref (gh G + 27), .int 0, .ref (gh G + 28)])), (28, .inl (gC G 13, 10, .inl (fun _ => 0))), (27, .inl (gC G 13, 30, .inl (fun _ => 0))), (26, .inl (gC G 13, 30, .inl (fun _ => 0))), (25, .inl (gC G 13, 30, .inl (fun _ => 0)))]) H := hP
  refine lv_aload_n X.1 X.2.1 dX0_init_36 rfl (lv_at hl 0 rfl) ?_
  refine q_get (k := 24) (ci := 0) (j := 4) (T := TX0) (fs := [.ref (gh G + 25), .ref (gh G + 26), .ref (gh G + 27), .int 0, .ref (gh G + 28)]) X hP hS (by decide) rfl rfl (inTB inX0) (by decide) rfl (tb t_132 rfl) dX0_init_37 ?_
  refine lv_iconst (v := i32 (-1)) X.1 X.2.1 dX0_init_40 rfl ?_
  refine q_fill (k := 28) (N := 10) (g := fun _ => 0) X hP hS hO (by have := hz0; omega) hl.1 (by decide) rfl (tb t_117 rfl) (by decide) (Nat.le_of_ble_eq_true rfl) dX0_init_41 ⟨Nat.le_of_ble_eq_true rfl, Nat.le_of_ble_eq_true rfl⟩ (fun H locs hP hS => ?_)
  rw [mw_up (by decide)] at hP
  have hP : PWc G 29 (mw G f 24 [(28, .inl (gC G 13, 10, .inl (fun j => if j < 10 then i32 (-1) else (fun _ => 0) j))), (24, .inr (0, [.ref (gh G + 25), .ref (gh G + 26), .ref (gh G + 27), .int 0, .ref (gh G + 28)])), (27, .inl (gC G 13, 30, .inl (fun _ => 0))), (26, .inl (gC G 13, 30, .inl (fun _ => 0))), (25, .inl (gC G 13, 30, .inl (fun _ => 0)))]) H := hP
  refine q_vret X (hP.congr (fun k hk => ?_)) hS dX0_init_44
  by_cases h28 : k = 28
  · subst h28
    exact fin_o (by decide) rfl (by rw [cE_13 (by decide +kernel)]; exact fin_i (by decide +kernel) (z0_sp (by decide)))
  by_cases h24 : k = 24
  · subst h24
    exact fin_o (by decide) rfl (by rw [cE_0 (by decide +kernel)] <;> rfl)
  by_cases h27 : k = 27
  · subst h27
    exact fin_o (by decide) rfl (by rw [cE_13 (by decide +kernel)]; exact fin_i (by decide +kernel) (z0_z (by decide +kernel)))
  by_cases h26 : k = 26
  · subst h26
    exact fin_o (by decide) rfl (by rw [cE_13 (by decide +kernel)]; exact fin_i (by decide +kernel) (z0_z (by decide +kernel)))
  by_cases h25 : k = 25
  · subst h25
    exact fin_o (by decide) rfl (by rw [cE_13 (by decide +kernel)]; exact fin_i (by decide +kernel) (z0_z (by decide +kernel)))
  exact Or.inl (mw_no (L := [(28, .inl (gC G 13, 10, .inl (fun j => if j < 10 then i32 (-1) else (fun _ => 0) j))), (24, .inr (0, [.ref (gh G + 25), .ref (gh G + 26), .ref (gh G + 27), .int 0, .ref (gh G + 28)])), (27, .inl (gC G 13, 30, .inl (fun _ => 0))), (26, .inl (gC G 13, 30, .inl (fun _ => 0))), (25, .inl (gC G 13, 30, .inl (fun _ => 0)))]) (by simp [List.lookup, beq_eq_false_iff_ne.mpr h28, beq_eq_false_iff_ne.mpr h24, beq_eq_false_iff_ne.mpr h27, beq_eq_false_iff_ne.mpr h26, beq_eq_false_iff_ne.mpr h25]))
set_option maxHeartbeats 4000000 in
set_option maxRecDepth 20000 in
theorem ct_9_41 {l : Launch} {G : GT} {f : Nat → va_E} (hf : f 41 = .inr (9, [.null, .int 0, .null, .int 0, .int 0, .int 0, .null, .null])) : CTc l yX9_init cX9_init 1 2 80 8 657 G [.ref (gh G + 41)] 42 f 50 (mw G f 41 []) := by
  refine CTc.mk (own := RX9) (by decide) rfl (Nat.le_of_ble_eq_true rfl) ?_
  intro p e s m below meth c ls X hin hO hP hS hl
  have hl : lv_has ls 1 [(0, .ref (gh G + 41))] := hl
  have hz0 := hP.1
  have hP := mw_start hf hP
  refine lv_aload_n X.1 X.2.1 dX9_init_0 rfl (lv_at hl 0 rfl) ?_
  refine q_obj X hl.1 (tb t_187 rfl) (tb t_101 rfl) (tb t_102 rfl) (by decide) (Nat.le_of_ble_eq_true rfl) dX9_init_1 ?_
  refine lv_aload_n X.1 X.2.1 dX9_init_4 rfl (lv_at hl 0 rfl) ?_
  refine q_new (C := RX8) (T := TX8) (N := 6) (ci := 8) (fs := [.null, .int 0, .null, .null, .null, .int 0]) X hP hS rfl (inTB inX8) tyX8 tyX8_ok (tb t_188 rfl) (tb t_189 rfl) (tb t_81 rfl) (by intro j hj; revert j; decide) (Nat.le_of_ble_eq_true rfl) (Nat.le_of_ble_eq_true rfl) dX9_init_5 (fun H hP hS => ?_)
  rw [mw_up (by decide)] at hP
  have hP : PWc G 43 (mw G f 41 [(42, .inr (8, [.null, .int 0, .null, .null, .null, .int 0])), (41, .inr (9, [.null, .int 0, .null, .int 0, .int 0, .int 0, .null, .null]))]) H := hP
  refine lv_dup X.1 X.2.1 dX9_init_8 rfl ?_
  refine q_callIN X hP hS hO hl.1 (ct_8_42 rfl) (host := RX10) (by decide +kernel) (tb t_191 rfl) (tb t_81 rfl) (tb t_192 rfl) rfl (by decide +kernel) (by decide) ⟨Nat.le_of_ble_eq_true rfl, Nat.le_of_ble_eq_true rfl⟩ (Nat.le_of_ble_eq_true rfl) dX9_init_9 (fun H locs hP hS => ?_)
  rw [mw_mw (L := [(41, .inr (9, [.null, .int 0, .null, .int 0, .int 0, .int 0, .null, .null]))]) (by decide) rfl] at hP
  refine q_putF (k := 41) (ci := 9) (j := 0) (T := TX9) (fs := [.null, .int 0, .null, .int 0, .int 0, .int 0, .null, .null]) X hP hS (by have := hz0; omega) (by decide) rfl rfl (inTB inX9) tyX9 tyX9_ok nmX9 (by decide) (tb t_215 rfl) rfl hin rfl (tyX9_ok 0 (by decide)) rfl rfl (Nat.le_of_ble_eq_true rfl) dX9_init_12 (fun H locs hP hS => ?_)
  rw [mw_up (by decide)] at hP
  have hP : PWc G 47 (mw G f 41 [(41, .inr (9, [.ref (gh G + 42), .int 0, .null, .int 0, .int 0, .int 0, .null, .null]))]) H := hP
  refine lv_aload_n X.1 X.2.1 dX9_init_15 rfl (lv_at hl 0 rfl) ?_
  refine lv_sipush (v := i32 160) X.1 X.2.1 dX9_init_16 (by decide) ?_
  refine q_newa13 (N := 160) X hP hS (tb t_145 rfl) (by decide) (Nat.le_of_ble_eq_true rfl) (Nat.le_of_ble_eq_true rfl) (Nat.le_of_ble_eq_true rfl) dX9_init_19 (fun H hP hS => ?_)
  rw [mw_up (by decide)] at hP
  have hP : PWc G 48 (mw G f 41 [(47, .inl (gC G 13, 160, .inl (fun _ => 0))), (41, .inr (9, [.ref (gh G + 42), .int 0, .null, .int 0, .int 0, .int 0, .null, .null]))]) H := hP
  refine q_putF (k := 41) (ci := 9) (j := 2) (T := TX9) (fs := [.ref (gh G + 42), .int 0, .null, .int 0, .int 0, .int 0, .null, .null]) X hP hS (by have := hz0; omega) (by decide) rfl rfl (inTB inX9) tyX9 tyX9_ok nmX9 (by decide) (tb t_218 rfl) rfl hin rfl (tyX9_ok 2 (by decide)) rfl rfl (Nat.le_of_ble_eq_true rfl) dX9_init_21 (fun H locs hP hS => ?_)
  rw [mw_up (by decide)] at hP
  have hP : PWc G 48 (mw G f 41 [(41, .inr (9, [.ref (gh G + 42), .int 0, .ref (gh G + 47), .int 0, .int 0, .int 0, .null, .null])), (47, .inl (gC G 13, 160, .inl (fun _ => 0)))]) H := hP
  refine lv_aload_n X.1 X.2.1 dX9_init_24 rfl (lv_at hl 0 rfl) ?_
  refine lv_iconst (v := i32 4) X.1 X.2.1 dX9_init_25 rfl ?_
  refine q_newa13 (N := 4) X hP hS (tb t_145 rfl) (by decide) (Nat.le_of_ble_eq_true rfl) (Nat.le_of_ble_eq_true rfl) (Nat.le_of_ble_eq_true rfl) dX9_init_26 (fun H hP hS => ?_)
  rw [mw_up (by decide)] at hP
  have hP : PWc G 49 (mw G f 41 [(48, .inl (gC G 13, 4, .inl (fun _ => 0))), (41, .inr (9, [.ref (gh G + 42), .int 0, .ref (gh G + 47), .int 0, .int 0, .int 0, .null, .null])), (47, .inl (gC G 13, 160, .inl (fun _ => 0)))]) H := hP
  refine q_putF (k := 41) (ci := 9) (j := 6) (T := TX9) (fs := [.ref (gh G + 42), .int 0, .ref (gh G + 47), .int 0, .int 0, .int 0, .null, .null]) X hP hS (by have := hz0; omega) (by decide) rfl rfl (inTB inX9) tyX9 tyX9_ok nmX9 (by decide) (tb t_225 rfl) rfl hin rfl (tyX9_ok 6 (by decide)) rfl rfl (Nat.le_of_ble_eq_true rfl) dX9_init_28 (fun H locs hP hS => ?_)
  rw [mw_up (by decide)] at hP
  have hP : PWc G 49 (mw G f 41 [(41, .inr (9, [.ref (gh G + 42), .int 0, .ref (gh G + 47), .int 0, .int 0, .int 0, .ref (gh G + 48), .null])), (48, .inl (gC G 13, 4, .inl (fun _ => 0))), (47, .inl (gC G 13, 160, .inl (fun _ => 0)))]) H := hP
  refine lv_aload_n X.1 X.2.1 dX9_init_31 rfl (lv_at hl 0 rfl) ?_
  refine lv_iconst (v := i32 4) X.1 X.2.1 dX9_init_32 rfl ?_
  refine q_newa13 (N := 4) X hP hS (tb t_145 rfl) (by decide) (Nat.le_of_ble_eq_true rfl) (Nat.le_of_ble_eq_true rfl) (Nat.le_of_ble_eq_true rfl) dX9_init_33 (fun H hP hS => ?_)
  rw [mw_up (by decide)] at hP
  have hP : PWc G 50 (mw G f 41 [(49, .inl (gC G 13, 4, .inl (fun _ => 0))), (41, .inr (9, [.ref (gh G + 42), .int 0, .ref (gh G + 47), .int 0, .int 0, .int 0, .ref (gh G + 48), .null])), (48, .inl (gC G 13, 4, .inl (fun _ => 0))), (47, .inl (gC G 13, 160, .inl (fun _ => 0)))]) H := hP
  refine q_putF (k := 41) (ci := 9) (j := 7) (T := TX9) (fs := [.ref (gh G + 42), .int 0, .ref (gh G + 47), .int 0, .int 0, .int 0, .ref (gh G + 48), .null]) X hP hS (by have := hz0; omega) (by decide) rfl rfl (inTB inX9) tyX9 tyX9_ok nmX9 (by decide) (tb t_226 rfl) rfl hin rfl (tyX9_ok 7 (by decide)) rfl rfl (Nat.le_of_ble_eq_true rfl) dX9_init_35 (fun H locs hP hS => ?_)
  rw [mw_up (by decide)] at hP
  have hP : PWc G 50 (mw G f 41 [(41, .inr (9, [.ref (gh G + 42), .int 0, .ref (gh G + 47), .int 0, .int 0, .int 0, .ref (gh G + 48), .ref (gh G + 49)])), (49, .inl (gC G 13, 4, .inl (fun _ => 0))), (48, .inl (gC G 13, 4, .inl (fun _ => 0))), (47, .inl (gC G 13, 160, .inl (fun _ => 0)))]) H := hP
  refine q_vret X (hP.congr (fun k hk => ?_)) hS dX9_init_38
  by_cases h41 : k = 41
  · subst h41
    exact fin_o (by decide) rfl (by rw [cE_9 (by decide +kernel)] <;> rfl)
  by_cases h49 : k = 49
  · subst h49
    exact fin_o (by decide) rfl (by rw [cE_13 (by decide +kernel)]; exact fin_i (by decide +kernel) (z0_z (by decide +kernel)))
  by_cases h48 : k = 48
  · subst h48
    exact fin_o (by decide) rfl (by rw [cE_13 (by decide +kernel)]; exact fin_i (by decide +kernel) (z0_z (by decide +kernel)))
  by_cases h47 : k = 47
  · subst h47
    exact fin_o (by decide) rfl (by rw [cE_13 (by decide +kernel)]; exact fin_i (by decide +kernel) (z0_z (by decide +kernel)))
  exact Or.inl (mw_no (L := [(41, .inr (9, [.ref (gh G + 42), .int 0, .ref (gh G + 47), .int 0, .int 0, .int 0, .ref (gh G + 48), .ref (gh G + 49)])), (49, .inl (gC G 13, 4, .inl (fun _ => 0))), (48, .inl (gC G 13, 4, .inl (fun _ => 0))), (47, .inl (gC G 13, 160, .inl (fun _ => 0)))]) (by simp [List.lookup, beq_eq_false_iff_ne.mpr h41, beq_eq_false_iff_ne.mpr h49, beq_eq_false_iff_ne.mpr h48, beq_eq_false_iff_ne.mpr h47]))
set_option maxHeartbeats 4000000 in
set_option maxRecDepth 20000 in
theorem ct_1_53 {l : Launch} {G : GT} {f : Nat → va_E} (hf : f 53 = .inr (1, [.null, .null, .null, .null, .null, .int 0, .int 0, .int 0])) : CTc l yX1_init cX1_init 1 2 80 8 2983 G [.ref (gh G + 53)] 54 f 62 (mw G f 53 []) := by
  refine CTc.mk (own := RX1) (by decide) rfl (Nat.le_of_ble_eq_true rfl) ?_
  intro p e s m below meth c ls X hin hO hP hS hl
  have hl : lv_has ls 1 [(0, .ref (gh G + 53))] := hl
  have hz0 := hP.1
  have hP := mw_start hf hP
  refine lv_aload_n X.1 X.2.1 dX1_init_0 rfl (lv_at hl 0 rfl) ?_
  refine q_obj X hl.1 (tb t_255 rfl) (tb t_101 rfl) (tb t_102 rfl) (by decide) (Nat.le_of_ble_eq_true rfl) dX1_init_1 ?_
  refine lv_aload_n X.1 X.2.1 dX1_init_4 rfl (lv_at hl 0 rfl) ?_
  refine q_new (C := RX3) (T := TX3) (N := 3) (ci := 3) (fs := [.null, .null, .null]) X hP hS rfl (inTB inX3) tyX3 tyX3_ok (tb t_256 rfl) (tb t_257 rfl) (tb t_83 rfl) (by intro j hj; revert j; decide) (Nat.le_of_ble_eq_true rfl) (Nat.le_of_ble_eq_true rfl) dX1_init_5 (fun H hP hS => ?_)
  rw [mw_up (by decide)] at hP
  have hP : PWc G 55 (mw G f 53 [(54, .inr (3, [.null, .null, .null])), (53, .inr (1, [.null, .null, .null, .null, .null, .int 0, .int 0, .int 0]))]) H := hP
  refine lv_dup X.1 X.2.1 dX1_init_8 rfl ?_
  refine q_callIN X hP hS hO hl.1 (ct_3_54 rfl) (host := RX10) (by decide +kernel) (tb t_259 rfl) (tb t_83 rfl) (tb t_260 rfl) rfl (by decide +kernel) (by decide) ⟨Nat.le_of_ble_eq_true rfl, Nat.le_of_ble_eq_true rfl⟩ (Nat.le_of_ble_eq_true rfl) dX1_init_9 (fun H locs hP hS => ?_)
  rw [mw_mw (L := [(53, .inr (1, [.null, .null, .null, .null, .null, .int 0, .int 0, .int 0]))]) (by decide) rfl] at hP
  refine q_putF (k := 53) (ci := 1) (j := 0) (T := TX1) (fs := [.null, .null, .null, .null, .null, .int 0, .int 0, .int 0]) X hP hS (by have := hz0; omega) (by decide) rfl rfl (inTB inX1) tyX1 tyX1_ok nmX1 (by decide) (tb t_272 rfl) rfl hin rfl (tyX1_ok 0 (by decide)) rfl rfl (Nat.le_of_ble_eq_true rfl) dX1_init_12 (fun H locs hP hS => ?_)
  rw [mw_up (by decide)] at hP
  have hP : PWc G 58 (mw G f 53 [(53, .inr (1, [.ref (gh G + 54), .null, .null, .null, .null, .int 0, .int 0, .int 0]))]) H := hP
  refine lv_aload_n X.1 X.2.1 dX1_init_15 rfl (lv_at hl 0 rfl) ?_
  refine lv_bipush (v := i32 40) X.1 X.2.1 dX1_init_16 (by decide) ?_
  refine q_newa13 (N := 40) X hP hS (tb t_145 rfl) (by decide) (Nat.le_of_ble_eq_true rfl) (Nat.le_of_ble_eq_true rfl) (Nat.le_of_ble_eq_true rfl) dX1_init_18 (fun H hP hS => ?_)
  rw [mw_up (by decide)] at hP
  have hP : PWc G 59 (mw G f 53 [(58, .inl (gC G 13, 40, .inl (fun _ => 0))), (53, .inr (1, [.ref (gh G + 54), .null, .null, .null, .null, .int 0, .int 0, .int 0]))]) H := hP
  refine q_putF (k := 53) (ci := 1) (j := 1) (T := TX1) (fs := [.ref (gh G + 54), .null, .null, .null, .null, .int 0, .int 0, .int 0]) X hP hS (by have := hz0; omega) (by decide) rfl rfl (inTB inX1) tyX1 tyX1_ok nmX1 (by decide) (tb t_274 rfl) rfl hin rfl (tyX1_ok 1 (by decide)) rfl rfl (Nat.le_of_ble_eq_true rfl) dX1_init_20 (fun H locs hP hS => ?_)
  rw [mw_up (by decide)] at hP
  have hP : PWc G 59 (mw G f 53 [(53, .inr (1, [.ref (gh G + 54), .ref (gh G + 58), .null, .null, .null, .int 0, .int 0, .int 0])), (58, .inl (gC G 13, 40, .inl (fun _ => 0)))]) H := hP
  refine lv_aload_n X.1 X.2.1 dX1_init_23 rfl (lv_at hl 0 rfl) ?_
  refine lv_bipush (v := i32 41) X.1 X.2.1 dX1_init_24 (by decide) ?_
  refine q_newa13 (N := 41) X hP hS (tb t_145 rfl) (by decide) (Nat.le_of_ble_eq_true rfl) (Nat.le_of_ble_eq_true rfl) (Nat.le_of_ble_eq_true rfl) dX1_init_26 (fun H hP hS => ?_)
  rw [mw_up (by decide)] at hP
  have hP : PWc G 60 (mw G f 53 [(59, .inl (gC G 13, 41, .inl (fun _ => 0))), (53, .inr (1, [.ref (gh G + 54), .ref (gh G + 58), .null, .null, .null, .int 0, .int 0, .int 0])), (58, .inl (gC G 13, 40, .inl (fun _ => 0)))]) H := hP
  refine q_putF (k := 53) (ci := 1) (j := 2) (T := TX1) (fs := [.ref (gh G + 54), .ref (gh G + 58), .null, .null, .null, .int 0, .int 0, .int 0]) X hP hS (by have := hz0; omega) (by decide) rfl rfl (inTB inX1) tyX1 tyX1_ok nmX1 (by decide) (tb t_275 rfl) rfl hin rfl (tyX1_ok 2 (by decide)) rfl rfl (Nat.le_of_ble_eq_true rfl) dX1_init_28 (fun H locs hP hS => ?_)
  rw [mw_up (by decide)] at hP
  have hP : PWc G 60 (mw G f 53 [(53, .inr (1, [.ref (gh G + 54), .ref (gh G + 58), .ref (gh G + 59), .null, .null, .int 0, .int 0, .int 0])), (59, .inl (gC G 13, 41, .inl (fun _ => 0))), (58, .inl (gC G 13, 40, .inl (fun _ => 0)))]) H := hP
  refine lv_aload_n X.1 X.2.1 dX1_init_31 rfl (lv_at hl 0 rfl) ?_
  refine lv_sipush (v := i32 492) X.1 X.2.1 dX1_init_32 (by decide) ?_
  refine q_newa14 (N := 492) X hP hS (tb t_298 rfl) (by decide) (Nat.le_of_ble_eq_true rfl) (Nat.le_of_ble_eq_true rfl) (Nat.le_of_ble_eq_true rfl) dX1_init_35 (fun H hP hS => ?_)
  rw [mw_up (by decide)] at hP
  have hP : PWc G 61 (mw G f 53 [(60, .inl (gC G 14, 492, .inr (.inl (fun _ => 0)))), (53, .inr (1, [.ref (gh G + 54), .ref (gh G + 58), .ref (gh G + 59), .null, .null, .int 0, .int 0, .int 0])), (59, .inl (gC G 13, 41, .inl (fun _ => 0))), (58, .inl (gC G 13, 40, .inl (fun _ => 0)))]) H := hP
  refine q_putF (k := 53) (ci := 1) (j := 3) (T := TX1) (fs := [.ref (gh G + 54), .ref (gh G + 58), .ref (gh G + 59), .null, .null, .int 0, .int 0, .int 0]) X hP hS (by have := hz0; omega) (by decide) rfl rfl (inTB inX1) tyX1 tyX1_ok nmX1 (by decide) (tb t_276 rfl) rfl hin rfl (tyX1_ok 3 (by decide)) rfl rfl (Nat.le_of_ble_eq_true rfl) dX1_init_37 (fun H locs hP hS => ?_)
  rw [mw_up (by decide)] at hP
  have hP : PWc G 61 (mw G f 53 [(53, .inr (1, [.ref (gh G + 54), .ref (gh G + 58), .ref (gh G + 59), .ref (gh G + 60), .null, .int 0, .int 0, .int 0])), (60, .inl (gC G 14, 492, .inr (.inl (fun _ => 0)))), (59, .inl (gC G 13, 41, .inl (fun _ => 0))), (58, .inl (gC G 13, 40, .inl (fun _ => 0)))]) H := hP
  refine lv_aload_n X.1 X.2.1 dX1_init_40 rfl (lv_at hl 0 rfl) ?_
  refine lv_sipush (v := i32 480) X.1 X.2.1 dX1_init_41 (by decide) ?_
  refine q_newa12 (N := 480) X hP hS (tb t_214 rfl) (by decide) (Nat.le_of_ble_eq_true rfl) (Nat.le_of_ble_eq_true rfl) (Nat.le_of_ble_eq_true rfl) dX1_init_44 (fun H hP hS => ?_)
  rw [mw_up (by decide)] at hP
  have hP : PWc G 62 (mw G f 53 [(61, .inl (gC G 12, 480, .inl (fun _ => 0))), (53, .inr (1, [.ref (gh G + 54), .ref (gh G + 58), .ref (gh G + 59), .ref (gh G + 60), .null, .int 0, .int 0, .int 0])), (60, .inl (gC G 14, 492, .inr (.inl (fun _ => 0)))), (59, .inl (gC G 13, 41, .inl (fun _ => 0))), (58, .inl (gC G 13, 40, .inl (fun _ => 0)))]) H := hP
  refine q_putF (k := 53) (ci := 1) (j := 4) (T := TX1) (fs := [.ref (gh G + 54), .ref (gh G + 58), .ref (gh G + 59), .ref (gh G + 60), .null, .int 0, .int 0, .int 0]) X hP hS (by have := hz0; omega) (by decide) rfl rfl (inTB inX1) tyX1 tyX1_ok nmX1 (by decide) (tb t_277 rfl) rfl hin rfl (tyX1_ok 4 (by decide)) rfl rfl (Nat.le_of_ble_eq_true rfl) dX1_init_46 (fun H locs hP hS => ?_)
  rw [mw_up (by decide)] at hP
  have hP : PWc G 62 (mw G f 53 [(53, .inr (1, [.ref (gh G + 54), .ref (gh G + 58), .ref (gh G + 59), .ref (gh G + 60), .ref (gh G + 61), .int 0, .int 0, .int 0])), (61, .inl (gC G 12, 480, .inl (fun _ => 0))), (60, .inl (gC G 14, 492, .inr (.inl (fun _ => 0)))), (59, .inl (gC G 13, 41, .inl (fun _ => 0))), (58, .inl (gC G 13, 40, .inl (fun _ => 0)))]) H := hP
  refine q_vret X (hP.congr (fun k hk => ?_)) hS dX1_init_49
  by_cases h53 : k = 53
  · subst h53
    exact fin_o (by decide) rfl (by rw [cE_1 (by decide +kernel)] <;> rfl)
  by_cases h61 : k = 61
  · subst h61
    exact fin_o (by decide) rfl (by rw [cE_12 (by decide +kernel)]; exact fin_i (by decide +kernel) (z0_z (by decide +kernel)))
  by_cases h60 : k = 60
  · subst h60
    exact fin_o (by decide) rfl (by rw [cE_14 (by decide +kernel)]; exact fin_l (by decide +kernel) (z0_zl (by decide +kernel)))
  by_cases h59 : k = 59
  · subst h59
    exact fin_o (by decide) rfl (by rw [cE_13 (by decide +kernel)]; exact fin_i (by decide +kernel) (z0_z (by decide +kernel)))
  by_cases h58 : k = 58
  · subst h58
    exact fin_o (by decide) rfl (by rw [cE_13 (by decide +kernel)]; exact fin_i (by decide +kernel) (z0_z (by decide +kernel)))
  exact Or.inl (mw_no (L := [(53, .inr (1, [.ref (gh G + 54), .ref (gh G + 58), .ref (gh G + 59), .ref (gh G + 60), .ref (gh G + 61), .int 0, .int 0, .int 0])), (61, .inl (gC G 12, 480, .inl (fun _ => 0))), (60, .inl (gC G 14, 492, .inr (.inl (fun _ => 0)))), (59, .inl (gC G 13, 41, .inl (fun _ => 0))), (58, .inl (gC G 13, 40, .inl (fun _ => 0)))]) (by simp [List.lookup, beq_eq_false_iff_ne.mpr h53, beq_eq_false_iff_ne.mpr h61, beq_eq_false_iff_ne.mpr h60, beq_eq_false_iff_ne.mpr h59, beq_eq_false_iff_ne.mpr h58]))
set_option maxHeartbeats 4000000 in
set_option maxRecDepth 20000 in
theorem ct_7_1 {l : Launch} {G : GT} {f : Nat → va_E} (hf : f 1 = .inr (7, [.null, .null, .null])) : CTc l yX7_init cX7_init 2 4 150 19 782 G [.ref (gh G + 1)] 2 f 21 (mw G f 1 []) := by
  refine CTc.mk (own := RX7) (by decide) rfl (Nat.le_of_ble_eq_true rfl) ?_
  intro p e s m below meth c ls X hin hO hP hS hl
  have hl : lv_has ls 2 [(0, .ref (gh G + 1))] := hl
  have hz0 := hP.1
  have hP := mw_start hf hP
  refine lv_aload_n X.1 X.2.1 dX7_init_0 rfl (lv_at hl 0 rfl) ?_
  refine q_obj X hl.1 (tb t_108 rfl) (tb t_101 rfl) (tb t_102 rfl) (by decide) (Nat.le_of_ble_eq_true rfl) dX7_init_1 ?_
  refine lv_aload_n X.1 X.2.1 dX7_init_4 rfl (lv_at hl 0 rfl) ?_
  refine lv_iconst (v := i32 4) X.1 X.2.1 dX7_init_5 rfl ?_
  refine q_newq18 (N := 4) X hP hS (tb t_109 rfl) hO.1 (by decide) (Nat.le_of_ble_eq_true rfl) (Nat.le_of_ble_eq_true rfl) (Nat.le_of_ble_eq_true rfl) dX7_init_6 (fun H hP hS => ?_)
  rw [mw_up (by decide)] at hP
  have hP : PWc G 3 (mw G f 1 [(2, .inl (gC G 18, 4, .inr (.inr (.inr (.inr (fun _ => none)))))), (1, .inr (7, [.null, .null, .null]))]) H := hP
  refine q_putF (k := 1) (ci := 7) (j := 0) (T := TX7) (fs := [.null, .null, .null]) X hP hS (by have := hz0; omega) (by decide) rfl rfl (inTB inX7) tyX7 tyX7_ok nmX7 (by decide) (tb t_168 rfl) rfl hin rfl (tyX7_ok 0 (by decide)) rfl rfl (Nat.le_of_ble_eq_true rfl) dX7_init_9 (fun H locs hP hS => ?_)
  rw [mw_up (by decide)] at hP
  have hP : PWc G 3 (mw G f 1 [(1, .inr (7, [.ref (gh G + 2), .null, .null])), (2, .inl (gC G 18, 4, .inr (.inr (.inr (.inr (fun _ => none))))))]) H := hP
  refine lv_aload_n X.1 X.2.1 dX7_init_12 rfl (lv_at hl 0 rfl) ?_
  refine lv_iconst (v := i32 5) X.1 X.2.1 dX7_init_13 rfl ?_
  refine q_newa13 (N := 5) X hP hS (tb t_145 rfl) (by decide) (Nat.le_of_ble_eq_true rfl) (Nat.le_of_ble_eq_true rfl) (Nat.le_of_ble_eq_true rfl) dX7_init_14 (fun H hP hS => ?_)
  rw [mw_up (by decide)] at hP
  have hP : PWc G 4 (mw G f 1 [(3, .inl (gC G 13, 5, .inl (fun _ => 0))), (1, .inr (7, [.ref (gh G + 2), .null, .null])), (2, .inl (gC G 18, 4, .inr (.inr (.inr (.inr (fun _ => none))))))]) H := hP
  refine lv_dup X.1 X.2.1 dX7_init_16 rfl ?_
  refine lv_iconst (v := i32 0) X.1 X.2.1 dX7_init_17 rfl ?_
  refine lv_bipush (v := i32 60) X.1 X.2.1 dX7_init_18 (by decide) ?_
  refine q_iast (k := 3) (N := 5) (j := 0) (g := fun _ => 0) X hP hS (by have := hz0; omega) (by decide) rfl (by decide) (by decide) dX7_init_20 (fun H locs hP hS => ?_)
  rw [mw_up (by decide)] at hP
  have hP : PWc G 4 (mw G f 1 [(3, .inl (gC G 13, 5, .inl (upd (fun _ => 0) 0 (i32 60)))), (1, .inr (7, [.ref (gh G + 2), .null, .null])), (2, .inl (gC G 18, 4, .inr (.inr (.inr (.inr (fun _ => none))))))]) H := hP
  refine lv_dup X.1 X.2.1 dX7_init_21 rfl ?_
  refine lv_iconst (v := i32 1) X.1 X.2.1 dX7_init_22 rfl ?_
  refine lv_iconst (v := i32 3) X.1 X.2.1 dX7_init_23 rfl ?_
  refine q_iast (k := 3) (N := 5) (j := 1) (g := upd (fun _ => 0) 0 (i32 60)) X hP hS (by have := hz0; omega) (by decide) rfl (by decide) (by decide) dX7_init_24 (fun H locs hP hS => ?_)
  rw [mw_up (by decide)] at hP
  have hP : PWc G 4 (mw G f 1 [(3, .inl (gC G 13, 5, .inl (upd (upd (fun _ => 0) 0 (i32 60)) 1 (i32 3)))), (1, .inr (7, [.ref (gh G + 2), .null, .null])), (2, .inl (gC G 18, 4, .inr (.inr (.inr (.inr (fun _ => none))))))]) H := hP
  refine lv_dup X.1 X.2.1 dX7_init_25 rfl ?_
  refine lv_iconst (v := i32 2) X.1 X.2.1 dX7_init_26 rfl ?_
  refine lv_sipush (v := i32 150) X.1 X.2.1 dX7_init_27 (by decide) ?_
  refine q_iast (k := 3) (N := 5) (j := 2) (g := upd (upd (fun _ => 0) 0 (i32 60)) 1 (i32 3)) X hP hS (by have := hz0; omega) (by decide) rfl (by decide) (by decide) dX7_init_30 (fun H locs hP hS => ?_)
  rw [mw_up (by decide)] at hP
  have hP : PWc G 4 (mw G f 1 [(3, .inl (gC G 13, 5, .inl (upd (upd (upd (fun _ => 0) 0 (i32 60)) 1 (i32 3)) 2 (i32 150)))), (1, .inr (7, [.ref (gh G + 2), .null, .null])), (2, .inl (gC G 18, 4, .inr (.inr (.inr (.inr (fun _ => none))))))]) H := hP
  refine lv_dup X.1 X.2.1 dX7_init_31 rfl ?_
  refine lv_iconst (v := i32 3) X.1 X.2.1 dX7_init_32 rfl ?_
  refine lv_iconst (v := i32 0) X.1 X.2.1 dX7_init_33 rfl ?_
  refine q_iast (k := 3) (N := 5) (j := 3) (g := upd (upd (upd (fun _ => 0) 0 (i32 60)) 1 (i32 3)) 2 (i32 150)) X hP hS (by have := hz0; omega) (by decide) rfl (by decide) (by decide) dX7_init_34 (fun H locs hP hS => ?_)
  rw [mw_up (by decide)] at hP
  have hP : PWc G 4 (mw G f 1 [(3, .inl (gC G 13, 5, .inl (upd (upd (upd (upd (fun _ => 0) 0 (i32 60)) 1 (i32 3)) 2 (i32 150)) 3 (i32 0)))), (1, .inr (7, [.ref (gh G + 2), .null, .null])), (2, .inl (gC G 18, 4, .inr (.inr (.inr (.inr (fun _ => none))))))]) H := hP
  refine lv_dup X.1 X.2.1 dX7_init_35 rfl ?_
  refine lv_iconst (v := i32 4) X.1 X.2.1 dX7_init_36 rfl ?_
  refine lv_bipush (v := i32 50) X.1 X.2.1 dX7_init_37 (by decide) ?_
  refine q_iast (k := 3) (N := 5) (j := 4) (g := upd (upd (upd (upd (fun _ => 0) 0 (i32 60)) 1 (i32 3)) 2 (i32 150)) 3 (i32 0)) X hP hS (by have := hz0; omega) (by decide) rfl (by decide) (by decide) dX7_init_39 (fun H locs hP hS => ?_)
  rw [mw_up (by decide)] at hP
  have hP : PWc G 4 (mw G f 1 [(3, .inl (gC G 13, 5, .inl (upd (upd (upd (upd (upd (fun _ => 0) 0 (i32 60)) 1 (i32 3)) 2 (i32 150)) 3 (i32 0)) 4 (i32 50)))), (1, .inr (7, [.ref (gh G + 2), .null, .null])), (2, .inl (gC G 18, 4, .inr (.inr (.inr (.inr (fun _ => none))))))]) H := hP
  refine q_putF (k := 1) (ci := 7) (j := 1) (T := TX7) (fs := [.ref (gh G + 2), .null, .null]) X hP hS (by have := hz0; omega) (by decide) rfl rfl (inTB inX7) tyX7 tyX7_ok nmX7 (by decide) (tb t_171 rfl) rfl hin rfl (tyX7_ok 1 (by decide)) rfl rfl (Nat.le_of_ble_eq_true rfl) dX7_init_40 (fun H locs hP hS => ?_)
  rw [mw_up (by decide)] at hP
  have hP : PWc G 4 (mw G f 1 [(1, .inr (7, [.ref (gh G + 2), .ref (gh G + 3), .null])), (3, .inl (gC G 13, 5, .inl (upd (upd (upd (upd (upd (fun _ => 0) 0 (i32 60)) 1 (i32 3)) 2 (i32 150)) 3 (i32 0)) 4 (i32 50)))), (2, .inl (gC G 18, 4, .inr (.inr (.inr (.inr (fun _ => none))))))]) H := hP
  refine lv_aload_n X.1 X.2.1 dX7_init_43 rfl (lv_at hl 0 rfl) ?_
  refine q_new (C := RX0) (T := TX0) (N := 5) (ci := 0) (fs := [.null, .null, .null, .int 0, .null]) X hP hS rfl (inTB inX0) tyX0 tyX0_ok (tb t_111 rfl) (tb t_112 rfl) (tb t_77 rfl) (by intro j hj; revert j; decide) (Nat.le_of_ble_eq_true rfl) (Nat.le_of_ble_eq_true rfl) dX7_init_44 (fun H hP hS => ?_)
  rw [mw_up (by decide)] at hP
  have hP : PWc G 5 (mw G f 1 [(4, .inr (0, [.null, .null, .null, .int 0, .null])), (1, .inr (7, [.ref (gh G + 2), .ref (gh G + 3), .null])), (3, .inl (gC G 13, 5, .inl (upd (upd (upd (upd (upd (fun _ => 0) 0 (i32 60)) 1 (i32 3)) 2 (i32 150)) 3 (i32 0)) 4 (i32 50)))), (2, .inl (gC G 18, 4, .inr (.inr (.inr (.inr (fun _ => none))))))]) H := hP
  refine lv_dup X.1 X.2.1 dX7_init_47 rfl ?_
  refine q_callI X hP hS hO hl.1 (ct_0_4 rfl) (tb t_113 rfl) (tb t_114 rfl) (tb t_77 rfl) (tb t_115 rfl) rfl (by decide +kernel) (by decide) ⟨Nat.le_of_ble_eq_true rfl, Nat.le_of_ble_eq_true rfl⟩ (Nat.le_of_ble_eq_true rfl) dX7_init_48 (fun H locs hP hS => ?_)
  rw [mw_mw (L := [(1, .inr (7, [.ref (gh G + 2), .ref (gh G + 3), .null])), (3, .inl (gC G 13, 5, .inl (upd (upd (upd (upd (upd (fun _ => 0) 0 (i32 60)) 1 (i32 3)) 2 (i32 150)) 3 (i32 0)) 4 (i32 50)))), (2, .inl (gC G 18, 4, .inr (.inr (.inr (.inr (fun _ => none))))))]) (by decide) rfl] at hP
  refine q_putF (k := 1) (ci := 7) (j := 2) (T := TX7) (fs := [.ref (gh G + 2), .ref (gh G + 3), .null]) X hP hS (by have := hz0; omega) (by decide) rfl rfl (inTB inX7) tyX7 tyX7_ok nmX7 (by decide) (tb t_173 rfl) rfl hin rfl (tyX7_ok 2 (by decide)) rfl rfl (Nat.le_of_ble_eq_true rfl) dX7_init_51 (fun H locs hP hS => ?_)
  rw [mw_up (by decide)] at hP
  have hP : PWc G 9 (mw G f 1 [(1, .inr (7, [.ref (gh G + 2), .ref (gh G + 3), .ref (gh G + 4)])), (3, .inl (gC G 13, 5, .inl (upd (upd (upd (upd (upd (fun _ => 0) 0 (i32 60)) 1 (i32 3)) 2 (i32 150)) 3 (i32 0)) 4 (i32 50)))), (2, .inl (gC G 18, 4, .inr (.inr (.inr (.inr (fun _ => none))))))]) H := hP
  refine lv_iconst (v := i32 0) X.1 X.2.1 dX7_init_54 rfl ?_
  refine lv_istore_n (lv' := [(1, .int (i32 0)), (0, .ref (gh G + 1))]) X.1 X.2.1 dX7_init_55 rfl hl (by decide) rfl (fun ls hl => ?_)
  refine lv_iload_n X.1 X.2.1 dX7_init_56 rfl (lv_at hl 0 rfl) ?_
  refine lv_iconst (v := i32 4) X.1 X.2.1 dX7_init_57 rfl ?_
  refine lv_icmp_ge (tgt := 80) X.1 X.2.1 dX7_init_58 (by decide) (fun q => absurd q (by decide)) (fun _ => ?_)
  refine lv_aload_n X.1 X.2.1 dX7_init_61 rfl (lv_at hl 1 rfl) ?_
  refine q_get (k := 1) (ci := 7) (j := 0) (T := TX7) (fs := [.ref (gh G + 2), .ref (gh G + 3), .ref (gh G + 4)]) X hP hS (by decide) rfl rfl (inTB inX7) (by decide) rfl (tb t_168 rfl) dX7_init_62 ?_
  refine lv_iload_n X.1 X.2.1 dX7_init_65 rfl (lv_at hl 0 rfl) ?_
  refine q_new (C := RX5) (T := TX5) (N := 3) (ci := 5) (fs := [.null, .null, .int 0]) X hP hS rfl (inTB inX5) tyX5 tyX5_ok (tb t_109 rfl) (tb t_146 rfl) (tb t_79 rfl) (by intro j hj; revert j; decide) (Nat.le_of_ble_eq_true rfl) (Nat.le_of_ble_eq_true rfl) dX7_init_66 (fun H hP hS => ?_)
  rw [mw_up (by decide)] at hP
  have hP : PWc G 10 (mw G f 1 [(9, .inr (5, [.null, .null, .int 0])), (1, .inr (7, [.ref (gh G + 2), .ref (gh G + 3), .ref (gh G + 4)])), (3, .inl (gC G 13, 5, .inl (upd (upd (upd (upd (upd (fun _ => 0) 0 (i32 60)) 1 (i32 3)) 2 (i32 150)) 3 (i32 0)) 4 (i32 50)))), (2, .inl (gC G 18, 4, .inr (.inr (.inr (.inr (fun _ => none))))))]) H := hP
  refine lv_dup X.1 X.2.1 dX7_init_69 rfl ?_
  refine q_callIN X hP hS hO hl.1 (ct_5_9 rfl) (host := RX10) (by decide +kernel) (tb t_148 rfl) (tb t_79 rfl) (tb t_149 rfl) rfl (by decide +kernel) (by decide) ⟨Nat.le_of_ble_eq_true rfl, Nat.le_of_ble_eq_true rfl⟩ (Nat.le_of_ble_eq_true rfl) dX7_init_70 (fun H locs hP hS => ?_)
  rw [mw_mw (L := [(1, .inr (7, [.ref (gh G + 2), .ref (gh G + 3), .ref (gh G + 4)])), (3, .inl (gC G 13, 5, .inl (upd (upd (upd (upd (upd (fun _ => 0) 0 (i32 60)) 1 (i32 3)) 2 (i32 150)) 3 (i32 0)) 4 (i32 50)))), (2, .inl (gC G 18, 4, .inr (.inr (.inr (.inr (fun _ => none))))))]) (by decide) rfl] at hP
  refine q_aast18 (k := 2) (N := 4) (j := 0) (q := 9) (F := fun _ => none) X hP hS (by have := hz0; omega) (by decide) rfl (by decide) ((mw_out (by decide) rfl).trans (cE_5 (k := 9) (by decide +kernel))) (by decide) (by decide) dX7_init_73 (fun H locs hP hS => ?_)
  rw [mw_up (by decide)] at hP
  have hP : PWc G 12 (mw G f 1 [(2, .inl (gC G 18, 4, .inr (.inr (.inr (.inr (va_up (fun _ => none) 0 (some (gh G + 9)))))))), (1, .inr (7, [.ref (gh G + 2), .ref (gh G + 3), .ref (gh G + 4)])), (3, .inl (gC G 13, 5, .inl (upd (upd (upd (upd (upd (fun _ => 0) 0 (i32 60)) 1 (i32 3)) 2 (i32 150)) 3 (i32 0)) 4 (i32 50))))]) H := hP
  refine lv_iinc (v := i32 1) (lv' := [(1, .int (i32 1)), (0, .ref (gh G + 1))]) X.1 X.2.1 dX7_init_74 hl (k := 0) rfl (by decide) (by decide) rfl (fun ls hl => ?_)
  refine lv_goto (tgt := 56) X.1 X.2.1 dX7_init_77 (by decide) ?_
  refine lv_iload_n X.1 X.2.1 dX7_init_56 rfl (lv_at hl 0 rfl) ?_
  refine lv_iconst (v := i32 4) X.1 X.2.1 dX7_init_57 rfl ?_
  refine lv_icmp_ge (tgt := 80) X.1 X.2.1 dX7_init_58 (by decide) (fun q => absurd q (by decide)) (fun _ => ?_)
  refine lv_aload_n X.1 X.2.1 dX7_init_61 rfl (lv_at hl 1 rfl) ?_
  refine q_get (k := 1) (ci := 7) (j := 0) (T := TX7) (fs := [.ref (gh G + 2), .ref (gh G + 3), .ref (gh G + 4)]) X hP hS (by decide) rfl rfl (inTB inX7) (by decide) rfl (tb t_168 rfl) dX7_init_62 ?_
  refine lv_iload_n X.1 X.2.1 dX7_init_65 rfl (lv_at hl 0 rfl) ?_
  refine q_new (C := RX5) (T := TX5) (N := 3) (ci := 5) (fs := [.null, .null, .int 0]) X hP hS rfl (inTB inX5) tyX5 tyX5_ok (tb t_109 rfl) (tb t_146 rfl) (tb t_79 rfl) (by intro j hj; revert j; decide) (Nat.le_of_ble_eq_true rfl) (Nat.le_of_ble_eq_true rfl) dX7_init_66 (fun H hP hS => ?_)
  rw [mw_up (by decide)] at hP
  have hP : PWc G 13 (mw G f 1 [(12, .inr (5, [.null, .null, .int 0])), (2, .inl (gC G 18, 4, .inr (.inr (.inr (.inr (va_up (fun _ => none) 0 (some (gh G + 9)))))))), (1, .inr (7, [.ref (gh G + 2), .ref (gh G + 3), .ref (gh G + 4)])), (3, .inl (gC G 13, 5, .inl (upd (upd (upd (upd (upd (fun _ => 0) 0 (i32 60)) 1 (i32 3)) 2 (i32 150)) 3 (i32 0)) 4 (i32 50))))]) H := hP
  refine lv_dup X.1 X.2.1 dX7_init_69 rfl ?_
  refine q_callIN X hP hS hO hl.1 (ct_5_12 rfl) (host := RX10) (by decide +kernel) (tb t_148 rfl) (tb t_79 rfl) (tb t_149 rfl) rfl (by decide +kernel) (by decide) ⟨Nat.le_of_ble_eq_true rfl, Nat.le_of_ble_eq_true rfl⟩ (Nat.le_of_ble_eq_true rfl) dX7_init_70 (fun H locs hP hS => ?_)
  rw [mw_mw (L := [(2, .inl (gC G 18, 4, .inr (.inr (.inr (.inr (va_up (fun _ => none) 0 (some (gh G + 9)))))))), (1, .inr (7, [.ref (gh G + 2), .ref (gh G + 3), .ref (gh G + 4)])), (3, .inl (gC G 13, 5, .inl (upd (upd (upd (upd (upd (fun _ => 0) 0 (i32 60)) 1 (i32 3)) 2 (i32 150)) 3 (i32 0)) 4 (i32 50))))]) (by decide) rfl] at hP
  refine q_aast18 (k := 2) (N := 4) (j := 1) (q := 12) (F := va_up (fun _ => none) 0 (some (gh G + 9))) X hP hS (by have := hz0; omega) (by decide) rfl (by decide) ((mw_out (by decide) rfl).trans (cE_5 (k := 12) (by decide +kernel))) (by decide) (by decide) dX7_init_73 (fun H locs hP hS => ?_)
  rw [mw_up (by decide)] at hP
  have hP : PWc G 15 (mw G f 1 [(2, .inl (gC G 18, 4, .inr (.inr (.inr (.inr (va_up (va_up (fun _ => none) 0 (some (gh G + 9))) 1 (some (gh G + 12)))))))), (1, .inr (7, [.ref (gh G + 2), .ref (gh G + 3), .ref (gh G + 4)])), (3, .inl (gC G 13, 5, .inl (upd (upd (upd (upd (upd (fun _ => 0) 0 (i32 60)) 1 (i32 3)) 2 (i32 150)) 3 (i32 0)) 4 (i32 50))))]) H := hP
  refine lv_iinc (v := i32 2) (lv' := [(1, .int (i32 2)), (0, .ref (gh G + 1))]) X.1 X.2.1 dX7_init_74 hl (k := 0) rfl (by decide) (by decide) rfl (fun ls hl => ?_)
  refine lv_goto (tgt := 56) X.1 X.2.1 dX7_init_77 (by decide) ?_
  refine lv_iload_n X.1 X.2.1 dX7_init_56 rfl (lv_at hl 0 rfl) ?_
  refine lv_iconst (v := i32 4) X.1 X.2.1 dX7_init_57 rfl ?_
  refine lv_icmp_ge (tgt := 80) X.1 X.2.1 dX7_init_58 (by decide) (fun q => absurd q (by decide)) (fun _ => ?_)
  refine lv_aload_n X.1 X.2.1 dX7_init_61 rfl (lv_at hl 1 rfl) ?_
  refine q_get (k := 1) (ci := 7) (j := 0) (T := TX7) (fs := [.ref (gh G + 2), .ref (gh G + 3), .ref (gh G + 4)]) X hP hS (by decide) rfl rfl (inTB inX7) (by decide) rfl (tb t_168 rfl) dX7_init_62 ?_
  refine lv_iload_n X.1 X.2.1 dX7_init_65 rfl (lv_at hl 0 rfl) ?_
  refine q_new (C := RX5) (T := TX5) (N := 3) (ci := 5) (fs := [.null, .null, .int 0]) X hP hS rfl (inTB inX5) tyX5 tyX5_ok (tb t_109 rfl) (tb t_146 rfl) (tb t_79 rfl) (by intro j hj; revert j; decide) (Nat.le_of_ble_eq_true rfl) (Nat.le_of_ble_eq_true rfl) dX7_init_66 (fun H hP hS => ?_)
  rw [mw_up (by decide)] at hP
  have hP : PWc G 16 (mw G f 1 [(15, .inr (5, [.null, .null, .int 0])), (2, .inl (gC G 18, 4, .inr (.inr (.inr (.inr (va_up (va_up (fun _ => none) 0 (some (gh G + 9))) 1 (some (gh G + 12)))))))), (1, .inr (7, [.ref (gh G + 2), .ref (gh G + 3), .ref (gh G + 4)])), (3, .inl (gC G 13, 5, .inl (upd (upd (upd (upd (upd (fun _ => 0) 0 (i32 60)) 1 (i32 3)) 2 (i32 150)) 3 (i32 0)) 4 (i32 50))))]) H := hP
  refine lv_dup X.1 X.2.1 dX7_init_69 rfl ?_
  refine q_callIN X hP hS hO hl.1 (ct_5_15 rfl) (host := RX10) (by decide +kernel) (tb t_148 rfl) (tb t_79 rfl) (tb t_149 rfl) rfl (by decide +kernel) (by decide) ⟨Nat.le_of_ble_eq_true rfl, Nat.le_of_ble_eq_true rfl⟩ (Nat.le_of_ble_eq_true rfl) dX7_init_70 (fun H locs hP hS => ?_)
  rw [mw_mw (L := [(2, .inl (gC G 18, 4, .inr (.inr (.inr (.inr (va_up (va_up (fun _ => none) 0 (some (gh G + 9))) 1 (some (gh G + 12)))))))), (1, .inr (7, [.ref (gh G + 2), .ref (gh G + 3), .ref (gh G + 4)])), (3, .inl (gC G 13, 5, .inl (upd (upd (upd (upd (upd (fun _ => 0) 0 (i32 60)) 1 (i32 3)) 2 (i32 150)) 3 (i32 0)) 4 (i32 50))))]) (by decide) rfl] at hP
  refine q_aast18 (k := 2) (N := 4) (j := 2) (q := 15) (F := va_up (va_up (fun _ => none) 0 (some (gh G + 9))) 1 (some (gh G + 12))) X hP hS (by have := hz0; omega) (by decide) rfl (by decide) ((mw_out (by decide) rfl).trans (cE_5 (k := 15) (by decide +kernel))) (by decide) (by decide) dX7_init_73 (fun H locs hP hS => ?_)
  rw [mw_up (by decide)] at hP
  have hP : PWc G 18 (mw G f 1 [(2, .inl (gC G 18, 4, .inr (.inr (.inr (.inr (va_up (va_up (va_up (fun _ => none) 0 (some (gh G + 9))) 1 (some (gh G + 12))) 2 (some (gh G + 15)))))))), (1, .inr (7, [.ref (gh G + 2), .ref (gh G + 3), .ref (gh G + 4)])), (3, .inl (gC G 13, 5, .inl (upd (upd (upd (upd (upd (fun _ => 0) 0 (i32 60)) 1 (i32 3)) 2 (i32 150)) 3 (i32 0)) 4 (i32 50))))]) H := hP
  refine lv_iinc (v := i32 3) (lv' := [(1, .int (i32 3)), (0, .ref (gh G + 1))]) X.1 X.2.1 dX7_init_74 hl (k := 0) rfl (by decide) (by decide) rfl (fun ls hl => ?_)
  refine lv_goto (tgt := 56) X.1 X.2.1 dX7_init_77 (by decide) ?_
  refine lv_iload_n X.1 X.2.1 dX7_init_56 rfl (lv_at hl 0 rfl) ?_
  refine lv_iconst (v := i32 4) X.1 X.2.1 dX7_init_57 rfl ?_
  refine lv_icmp_ge (tgt := 80) X.1 X.2.1 dX7_init_58 (by decide) (fun q => absurd q (by decide)) (fun _ => ?_)
  refine lv_aload_n X.1 X.2.1 dX7_init_61 rfl (lv_at hl 1 rfl) ?_
  refine q_get (k := 1) (ci := 7) (j := 0) (T := TX7) (fs := [.ref (gh G + 2), .ref (gh G + 3), .ref (gh G + 4)]) X hP hS (by decide) rfl rfl (inTB inX7) (by decide) rfl (tb t_168 rfl) dX7_init_62 ?_
  refine lv_iload_n X.1 X.2.1 dX7_init_65 rfl (lv_at hl 0 rfl) ?_
  refine q_new (C := RX5) (T := TX5) (N := 3) (ci := 5) (fs := [.null, .null, .int 0]) X hP hS rfl (inTB inX5) tyX5 tyX5_ok (tb t_109 rfl) (tb t_146 rfl) (tb t_79 rfl) (by intro j hj; revert j; decide) (Nat.le_of_ble_eq_true rfl) (Nat.le_of_ble_eq_true rfl) dX7_init_66 (fun H hP hS => ?_)
  rw [mw_up (by decide)] at hP
  have hP : PWc G 19 (mw G f 1 [(18, .inr (5, [.null, .null, .int 0])), (2, .inl (gC G 18, 4, .inr (.inr (.inr (.inr (va_up (va_up (va_up (fun _ => none) 0 (some (gh G + 9))) 1 (some (gh G + 12))) 2 (some (gh G + 15)))))))), (1, .inr (7, [.ref (gh G + 2), .ref (gh G + 3), .ref (gh G + 4)])), (3, .inl (gC G 13, 5, .inl (upd (upd (upd (upd (upd (fun _ => 0) 0 (i32 60)) 1 (i32 3)) 2 (i32 150)) 3 (i32 0)) 4 (i32 50))))]) H := hP
  refine lv_dup X.1 X.2.1 dX7_init_69 rfl ?_
  refine q_callIN X hP hS hO hl.1 (ct_5_18 rfl) (host := RX10) (by decide +kernel) (tb t_148 rfl) (tb t_79 rfl) (tb t_149 rfl) rfl (by decide +kernel) (by decide) ⟨Nat.le_of_ble_eq_true rfl, Nat.le_of_ble_eq_true rfl⟩ (Nat.le_of_ble_eq_true rfl) dX7_init_70 (fun H locs hP hS => ?_)
  rw [mw_mw (L := [(2, .inl (gC G 18, 4, .inr (.inr (.inr (.inr (va_up (va_up (va_up (fun _ => none) 0 (some (gh G + 9))) 1 (some (gh G + 12))) 2 (some (gh G + 15)))))))), (1, .inr (7, [.ref (gh G + 2), .ref (gh G + 3), .ref (gh G + 4)])), (3, .inl (gC G 13, 5, .inl (upd (upd (upd (upd (upd (fun _ => 0) 0 (i32 60)) 1 (i32 3)) 2 (i32 150)) 3 (i32 0)) 4 (i32 50))))]) (by decide) rfl] at hP
  refine q_aast18 (k := 2) (N := 4) (j := 3) (q := 18) (F := va_up (va_up (va_up (fun _ => none) 0 (some (gh G + 9))) 1 (some (gh G + 12))) 2 (some (gh G + 15))) X hP hS (by have := hz0; omega) (by decide) rfl (by decide) ((mw_out (by decide) rfl).trans (cE_5 (k := 18) (by decide +kernel))) (by decide) (by decide) dX7_init_73 (fun H locs hP hS => ?_)
  rw [mw_up (by decide)] at hP
  have hP : PWc G 21 (mw G f 1 [(2, .inl (gC G 18, 4, .inr (.inr (.inr (.inr (va_up (va_up (va_up (va_up (fun _ => none) 0 (some (gh G + 9))) 1 (some (gh G + 12))) 2 (some (gh G + 15))) 3 (some (gh G + 18)))))))), (1, .inr (7, [.ref (gh G + 2), .ref (gh G + 3), .ref (gh G + 4)])), (3, .inl (gC G 13, 5, .inl (upd (upd (upd (upd (upd (fun _ => 0) 0 (i32 60)) 1 (i32 3)) 2 (i32 150)) 3 (i32 0)) 4 (i32 50))))]) H := hP
  refine lv_iinc (v := i32 4) (lv' := [(1, .int (i32 4)), (0, .ref (gh G + 1))]) X.1 X.2.1 dX7_init_74 hl (k := 0) rfl (by decide) (by decide) rfl (fun ls hl => ?_)
  refine lv_goto (tgt := 56) X.1 X.2.1 dX7_init_77 (by decide) ?_
  refine lv_iload_n X.1 X.2.1 dX7_init_56 rfl (lv_at hl 0 rfl) ?_
  refine lv_iconst (v := i32 4) X.1 X.2.1 dX7_init_57 rfl ?_
  refine lv_icmp_ge (tgt := 80) X.1 X.2.1 dX7_init_58 (by decide) (fun _ => ?_) (fun q => absurd (by decide) q)
  refine q_vret X (hP.congr (fun k hk => ?_)) hS dX7_init_80
  by_cases h2 : k = 2
  · subst h2
    exact fin_r (by decide) rfl (cE_18 (by decide +kernel)) (by decide +kernel) (by intro j hj; rcases (show j = 0 ∨ j = 1 ∨ j = 2 ∨ j = 3 by omega) with rfl | rfl | rfl | rfl <;> rfl)
  by_cases h1 : k = 1
  · subst h1
    exact fin_o (by decide) rfl (by rw [cE_7 (by decide +kernel)] <;> rfl)
  by_cases h3 : k = 3
  · subst h3
    exact fin_o (by decide) rfl (by rw [cE_13 (by decide +kernel)]; exact fin_i (by decide +kernel) (z0_ru (by decide)))
  exact Or.inl (mw_no (L := [(2, .inl (gC G 18, 4, .inr (.inr (.inr (.inr (va_up (va_up (va_up (va_up (fun _ => none) 0 (some (gh G + 9))) 1 (some (gh G + 12))) 2 (some (gh G + 15))) 3 (some (gh G + 18)))))))), (1, .inr (7, [.ref (gh G + 2), .ref (gh G + 3), .ref (gh G + 4)])), (3, .inl (gC G 13, 5, .inl (upd (upd (upd (upd (upd (fun _ => 0) 0 (i32 60)) 1 (i32 3)) 2 (i32 150)) 3 (i32 0)) 4 (i32 50))))]) (by simp [List.lookup, beq_eq_false_iff_ne.mpr h2, beq_eq_false_iff_ne.mpr h1, beq_eq_false_iff_ne.mpr h3]))
set_option maxHeartbeats 4000000 in
set_option maxRecDepth 20000 in
theorem ct_7_21 {l : Launch} {G : GT} {f : Nat → va_E} (hf : f 21 = .inr (7, [.null, .null, .null])) : CTc l yX7_init cX7_init 2 4 150 19 782 G [.ref (gh G + 21)] 22 f 41 (mw G f 21 []) := by
  refine CTc.mk (own := RX7) (by decide) rfl (Nat.le_of_ble_eq_true rfl) ?_
  intro p e s m below meth c ls X hin hO hP hS hl
  have hl : lv_has ls 2 [(0, .ref (gh G + 21))] := hl
  have hz0 := hP.1
  have hP := mw_start hf hP
  refine lv_aload_n X.1 X.2.1 dX7_init_0 rfl (lv_at hl 0 rfl) ?_
  refine q_obj X hl.1 (tb t_108 rfl) (tb t_101 rfl) (tb t_102 rfl) (by decide) (Nat.le_of_ble_eq_true rfl) dX7_init_1 ?_
  refine lv_aload_n X.1 X.2.1 dX7_init_4 rfl (lv_at hl 0 rfl) ?_
  refine lv_iconst (v := i32 4) X.1 X.2.1 dX7_init_5 rfl ?_
  refine q_newq18 (N := 4) X hP hS (tb t_109 rfl) hO.1 (by decide) (Nat.le_of_ble_eq_true rfl) (Nat.le_of_ble_eq_true rfl) (Nat.le_of_ble_eq_true rfl) dX7_init_6 (fun H hP hS => ?_)
  rw [mw_up (by decide)] at hP
  have hP : PWc G 23 (mw G f 21 [(22, .inl (gC G 18, 4, .inr (.inr (.inr (.inr (fun _ => none)))))), (21, .inr (7, [.null, .null, .null]))]) H := hP
  refine q_putF (k := 21) (ci := 7) (j := 0) (T := TX7) (fs := [.null, .null, .null]) X hP hS (by have := hz0; omega) (by decide) rfl rfl (inTB inX7) tyX7 tyX7_ok nmX7 (by decide) (tb t_168 rfl) rfl hin rfl (tyX7_ok 0 (by decide)) rfl rfl (Nat.le_of_ble_eq_true rfl) dX7_init_9 (fun H locs hP hS => ?_)
  rw [mw_up (by decide)] at hP
  have hP : PWc G 23 (mw G f 21 [(21, .inr (7, [.ref (gh G + 22), .null, .null])), (22, .inl (gC G 18, 4, .inr (.inr (.inr (.inr (fun _ => none))))))]) H := hP
  refine lv_aload_n X.1 X.2.1 dX7_init_12 rfl (lv_at hl 0 rfl) ?_
  refine lv_iconst (v := i32 5) X.1 X.2.1 dX7_init_13 rfl ?_
  refine q_newa13 (N := 5) X hP hS (tb t_145 rfl) (by decide) (Nat.le_of_ble_eq_true rfl) (Nat.le_of_ble_eq_true rfl) (Nat.le_of_ble_eq_true rfl) dX7_init_14 (fun H hP hS => ?_)
  rw [mw_up (by decide)] at hP
  have hP : PWc G 24 (mw G f 21 [(23, .inl (gC G 13, 5, .inl (fun _ => 0))), (21, .inr (7, [.ref (gh G + 22), .null, .null])), (22, .inl (gC G 18, 4, .inr (.inr (.inr (.inr (fun _ => none))))))]) H := hP
  refine lv_dup X.1 X.2.1 dX7_init_16 rfl ?_
  refine lv_iconst (v := i32 0) X.1 X.2.1 dX7_init_17 rfl ?_
  refine lv_bipush (v := i32 60) X.1 X.2.1 dX7_init_18 (by decide) ?_
  refine q_iast (k := 23) (N := 5) (j := 0) (g := fun _ => 0) X hP hS (by have := hz0; omega) (by decide) rfl (by decide) (by decide) dX7_init_20 (fun H locs hP hS => ?_)
  rw [mw_up (by decide)] at hP
  have hP : PWc G 24 (mw G f 21 [(23, .inl (gC G 13, 5, .inl (upd (fun _ => 0) 0 (i32 60)))), (21, .inr (7, [.ref (gh G + 22), .null, .null])), (22, .inl (gC G 18, 4, .inr (.inr (.inr (.inr (fun _ => none))))))]) H := hP
  refine lv_dup X.1 X.2.1 dX7_init_21 rfl ?_
  refine lv_iconst (v := i32 1) X.1 X.2.1 dX7_init_22 rfl ?_
  refine lv_iconst (v := i32 3) X.1 X.2.1 dX7_init_23 rfl ?_
  refine q_iast (k := 23) (N := 5) (j := 1) (g := upd (fun _ => 0) 0 (i32 60)) X hP hS (by have := hz0; omega) (by decide) rfl (by decide) (by decide) dX7_init_24 (fun H locs hP hS => ?_)
  rw [mw_up (by decide)] at hP
  have hP : PWc G 24 (mw G f 21 [(23, .inl (gC G 13, 5, .inl (upd (upd (fun _ => 0) 0 (i32 60)) 1 (i32 3)))), (21, .inr (7, [.ref (gh G + 22), .null, .null])), (22, .inl (gC G 18, 4, .inr (.inr (.inr (.inr (fun _ => none))))))]) H := hP
  refine lv_dup X.1 X.2.1 dX7_init_25 rfl ?_
  refine lv_iconst (v := i32 2) X.1 X.2.1 dX7_init_26 rfl ?_
  refine lv_sipush (v := i32 150) X.1 X.2.1 dX7_init_27 (by decide) ?_
  refine q_iast (k := 23) (N := 5) (j := 2) (g := upd (upd (fun _ => 0) 0 (i32 60)) 1 (i32 3)) X hP hS (by have := hz0; omega) (by decide) rfl (by decide) (by decide) dX7_init_30 (fun H locs hP hS => ?_)
  rw [mw_up (by decide)] at hP
  have hP : PWc G 24 (mw G f 21 [(23, .inl (gC G 13, 5, .inl (upd (upd (upd (fun _ => 0) 0 (i32 60)) 1 (i32 3)) 2 (i32 150)))), (21, .inr (7, [.ref (gh G + 22), .null, .null])), (22, .inl (gC G 18, 4, .inr (.inr (.inr (.inr (fun _ => none))))))]) H := hP
  refine lv_dup X.1 X.2.1 dX7_init_31 rfl ?_
  refine lv_iconst (v := i32 3) X.1 X.2.1 dX7_init_32 rfl ?_
  refine lv_iconst (v := i32 0) X.1 X.2.1 dX7_init_33 rfl ?_
  refine q_iast (k := 23) (N := 5) (j := 3) (g := upd (upd (upd (fun _ => 0) 0 (i32 60)) 1 (i32 3)) 2 (i32 150)) X hP hS (by have := hz0; omega) (by decide) rfl (by decide) (by decide) dX7_init_34 (fun H locs hP hS => ?_)
  rw [mw_up (by decide)] at hP
  have hP : PWc G 24 (mw G f 21 [(23, .inl (gC G 13, 5, .inl (upd (upd (upd (upd (fun _ => 0) 0 (i32 60)) 1 (i32 3)) 2 (i32 150)) 3 (i32 0)))), (21, .inr (7, [.ref (gh G + 22), .null, .null])), (22, .inl (gC G 18, 4, .inr (.inr (.inr (.inr (fun _ => none))))))]) H := hP
  refine lv_dup X.1 X.2.1 dX7_init_35 rfl ?_
  refine lv_iconst (v := i32 4) X.1 X.2.1 dX7_init_36 rfl ?_
  refine lv_bipush (v := i32 50) X.1 X.2.1 dX7_init_37 (by decide) ?_
  refine q_iast (k := 23) (N := 5) (j := 4) (g := upd (upd (upd (upd (fun _ => 0) 0 (i32 60)) 1 (i32 3)) 2 (i32 150)) 3 (i32 0)) X hP hS (by have := hz0; omega) (by decide) rfl (by decide) (by decide) dX7_init_39 (fun H locs hP hS => ?_)
  rw [mw_up (by decide)] at hP
  have hP : PWc G 24 (mw G f 21 [(23, .inl (gC G 13, 5, .inl (upd (upd (upd (upd (upd (fun _ => 0) 0 (i32 60)) 1 (i32 3)) 2 (i32 150)) 3 (i32 0)) 4 (i32 50)))), (21, .inr (7, [.ref (gh G + 22), .null, .null])), (22, .inl (gC G 18, 4, .inr (.inr (.inr (.inr (fun _ => none))))))]) H := hP
  refine q_putF (k := 21) (ci := 7) (j := 1) (T := TX7) (fs := [.ref (gh G + 22), .null, .null]) X hP hS (by have := hz0; omega) (by decide) rfl rfl (inTB inX7) tyX7 tyX7_ok nmX7 (by decide) (tb t_171 rfl) rfl hin rfl (tyX7_ok 1 (by decide)) rfl rfl (Nat.le_of_ble_eq_true rfl) dX7_init_40 (fun H locs hP hS => ?_)
  rw [mw_up (by decide)] at hP
  have hP : PWc G 24 (mw G f 21 [(21, .inr (7, [.ref (gh G + 22), .ref (gh G + 23), .null])), (23, .inl (gC G 13, 5, .inl (upd (upd (upd (upd (upd (fun _ => 0) 0 (i32 60)) 1 (i32 3)) 2 (i32 150)) 3 (i32 0)) 4 (i32 50)))), (22, .inl (gC G 18, 4, .inr (.inr (.inr (.inr (fun _ => none))))))]) H := hP
  refine lv_aload_n X.1 X.2.1 dX7_init_43 rfl (lv_at hl 0 rfl) ?_
  refine q_new (C := RX0) (T := TX0) (N := 5) (ci := 0) (fs := [.null, .null, .null, .int 0, .null]) X hP hS rfl (inTB inX0) tyX0 tyX0_ok (tb t_111 rfl) (tb t_112 rfl) (tb t_77 rfl) (by intro j hj; revert j; decide) (Nat.le_of_ble_eq_true rfl) (Nat.le_of_ble_eq_true rfl) dX7_init_44 (fun H hP hS => ?_)
  rw [mw_up (by decide)] at hP
  have hP : PWc G 25 (mw G f 21 [(24, .inr (0, [.null, .null, .null, .int 0, .null])), (21, .inr (7, [.ref (gh G + 22), .ref (gh G + 23), .null])), (23, .inl (gC G 13, 5, .inl (upd (upd (upd (upd (upd (fun _ => 0) 0 (i32 60)) 1 (i32 3)) 2 (i32 150)) 3 (i32 0)) 4 (i32 50)))), (22, .inl (gC G 18, 4, .inr (.inr (.inr (.inr (fun _ => none))))))]) H := hP
  refine lv_dup X.1 X.2.1 dX7_init_47 rfl ?_
  refine q_callI X hP hS hO hl.1 (ct_0_24 rfl) (tb t_113 rfl) (tb t_114 rfl) (tb t_77 rfl) (tb t_115 rfl) rfl (by decide +kernel) (by decide) ⟨Nat.le_of_ble_eq_true rfl, Nat.le_of_ble_eq_true rfl⟩ (Nat.le_of_ble_eq_true rfl) dX7_init_48 (fun H locs hP hS => ?_)
  rw [mw_mw (L := [(21, .inr (7, [.ref (gh G + 22), .ref (gh G + 23), .null])), (23, .inl (gC G 13, 5, .inl (upd (upd (upd (upd (upd (fun _ => 0) 0 (i32 60)) 1 (i32 3)) 2 (i32 150)) 3 (i32 0)) 4 (i32 50)))), (22, .inl (gC G 18, 4, .inr (.inr (.inr (.inr (fun _ => none))))))]) (by decide) rfl] at hP
  refine q_putF (k := 21) (ci := 7) (j := 2) (T := TX7) (fs := [.ref (gh G + 22), .ref (gh G + 23), .null]) X hP hS (by have := hz0; omega) (by decide) rfl rfl (inTB inX7) tyX7 tyX7_ok nmX7 (by decide) (tb t_173 rfl) rfl hin rfl (tyX7_ok 2 (by decide)) rfl rfl (Nat.le_of_ble_eq_true rfl) dX7_init_51 (fun H locs hP hS => ?_)
  rw [mw_up (by decide)] at hP
  have hP : PWc G 29 (mw G f 21 [(21, .inr (7, [.ref (gh G + 22), .ref (gh G + 23), .ref (gh G + 24)])), (23, .inl (gC G 13, 5, .inl (upd (upd (upd (upd (upd (fun _ => 0) 0 (i32 60)) 1 (i32 3)) 2 (i32 150)) 3 (i32 0)) 4 (i32 50)))), (22, .inl (gC G 18, 4, .inr (.inr (.inr (.inr (fun _ => none))))))]) H := hP
  refine lv_iconst (v := i32 0) X.1 X.2.1 dX7_init_54 rfl ?_
  refine lv_istore_n (lv' := [(1, .int (i32 0)), (0, .ref (gh G + 21))]) X.1 X.2.1 dX7_init_55 rfl hl (by decide) rfl (fun ls hl => ?_)
  refine lv_iload_n X.1 X.2.1 dX7_init_56 rfl (lv_at hl 0 rfl) ?_
  refine lv_iconst (v := i32 4) X.1 X.2.1 dX7_init_57 rfl ?_
  refine lv_icmp_ge (tgt := 80) X.1 X.2.1 dX7_init_58 (by decide) (fun q => absurd q (by decide)) (fun _ => ?_)
  refine lv_aload_n X.1 X.2.1 dX7_init_61 rfl (lv_at hl 1 rfl) ?_
  refine q_get (k := 21) (ci := 7) (j := 0) (T := TX7) (fs := [.ref (gh G + 22), .ref (gh G + 23), .ref (gh G + 24)]) X hP hS (by decide) rfl rfl (inTB inX7) (by decide) rfl (tb t_168 rfl) dX7_init_62 ?_
  refine lv_iload_n X.1 X.2.1 dX7_init_65 rfl (lv_at hl 0 rfl) ?_
  refine q_new (C := RX5) (T := TX5) (N := 3) (ci := 5) (fs := [.null, .null, .int 0]) X hP hS rfl (inTB inX5) tyX5 tyX5_ok (tb t_109 rfl) (tb t_146 rfl) (tb t_79 rfl) (by intro j hj; revert j; decide) (Nat.le_of_ble_eq_true rfl) (Nat.le_of_ble_eq_true rfl) dX7_init_66 (fun H hP hS => ?_)
  rw [mw_up (by decide)] at hP
  have hP : PWc G 30 (mw G f 21 [(29, .inr (5, [.null, .null, .int 0])), (21, .inr (7, [.ref (gh G + 22), .ref (gh G + 23), .ref (gh G + 24)])), (23, .inl (gC G 13, 5, .inl (upd (upd (upd (upd (upd (fun _ => 0) 0 (i32 60)) 1 (i32 3)) 2 (i32 150)) 3 (i32 0)) 4 (i32 50)))), (22, .inl (gC G 18, 4, .inr (.inr (.inr (.inr (fun _ => none))))))]) H := hP
  refine lv_dup X.1 X.2.1 dX7_init_69 rfl ?_
  refine q_callIN X hP hS hO hl.1 (ct_5_29 rfl) (host := RX10) (by decide +kernel) (tb t_148 rfl) (tb t_79 rfl) (tb t_149 rfl) rfl (by decide +kernel) (by decide) ⟨Nat.le_of_ble_eq_true rfl, Nat.le_of_ble_eq_true rfl⟩ (Nat.le_of_ble_eq_true rfl) dX7_init_70 (fun H locs hP hS => ?_)
  rw [mw_mw (L := [(21, .inr (7, [.ref (gh G + 22), .ref (gh G + 23), .ref (gh G + 24)])), (23, .inl (gC G 13, 5, .inl (upd (upd (upd (upd (upd (fun _ => 0) 0 (i32 60)) 1 (i32 3)) 2 (i32 150)) 3 (i32 0)) 4 (i32 50)))), (22, .inl (gC G 18, 4, .inr (.inr (.inr (.inr (fun _ => none))))))]) (by decide) rfl] at hP
  refine q_aast18 (k := 22) (N := 4) (j := 0) (q := 29) (F := fun _ => none) X hP hS (by have := hz0; omega) (by decide) rfl (by decide) ((mw_out (by decide) rfl).trans (cE_5 (k := 29) (by decide +kernel))) (by decide) (by decide) dX7_init_73 (fun H locs hP hS => ?_)
  rw [mw_up (by decide)] at hP
  have hP : PWc G 32 (mw G f 21 [(22, .inl (gC G 18, 4, .inr (.inr (.inr (.inr (va_up (fun _ => none) 0 (some (gh G + 29)))))))), (21, .inr (7, [.ref (gh G + 22), .ref (gh G + 23), .ref (gh G + 24)])), (23, .inl (gC G 13, 5, .inl (upd (upd (upd (upd (upd (fun _ => 0) 0 (i32 60)) 1 (i32 3)) 2 (i32 150)) 3 (i32 0)) 4 (i32 50))))]) H := hP
  refine lv_iinc (v := i32 1) (lv' := [(1, .int (i32 1)), (0, .ref (gh G + 21))]) X.1 X.2.1 dX7_init_74 hl (k := 0) rfl (by decide) (by decide) rfl (fun ls hl => ?_)
  refine lv_goto (tgt := 56) X.1 X.2.1 dX7_init_77 (by decide) ?_
  refine lv_iload_n X.1 X.2.1 dX7_init_56 rfl (lv_at hl 0 rfl) ?_
  refine lv_iconst (v := i32 4) X.1 X.2.1 dX7_init_57 rfl ?_
  refine lv_icmp_ge (tgt := 80) X.1 X.2.1 dX7_init_58 (by decide) (fun q => absurd q (by decide)) (fun _ => ?_)
  refine lv_aload_n X.1 X.2.1 dX7_init_61 rfl (lv_at hl 1 rfl) ?_
  refine q_get (k := 21) (ci := 7) (j := 0) (T := TX7) (fs := [.ref (gh G + 22), .ref (gh G + 23), .ref (gh G + 24)]) X hP hS (by decide) rfl rfl (inTB inX7) (by decide) rfl (tb t_168 rfl) dX7_init_62 ?_
  refine lv_iload_n X.1 X.2.1 dX7_init_65 rfl (lv_at hl 0 rfl) ?_
  refine q_new (C := RX5) (T := TX5) (N := 3) (ci := 5) (fs := [.null, .null, .int 0]) X hP hS rfl (inTB inX5) tyX5 tyX5_ok (tb t_109 rfl) (tb t_146 rfl) (tb t_79 rfl) (by intro j hj; revert j; decide) (Nat.le_of_ble_eq_true rfl) (Nat.le_of_ble_eq_true rfl) dX7_init_66 (fun H hP hS => ?_)
  rw [mw_up (by decide)] at hP
  have hP : PWc G 33 (mw G f 21 [(32, .inr (5, [.null, .null, .int 0])), (22, .inl (gC G 18, 4, .inr (.inr (.inr (.inr (va_up (fun _ => none) 0 (some (gh G + 29)))))))), (21, .inr (7, [.ref (gh G + 22), .ref (gh G + 23), .ref (gh G + 24)])), (23, .inl (gC G 13, 5, .inl (upd (upd (upd (upd (upd (fun _ => 0) 0 (i32 60)) 1 (i32 3)) 2 (i32 150)) 3 (i32 0)) 4 (i32 50))))]) H := hP
  refine lv_dup X.1 X.2.1 dX7_init_69 rfl ?_
  refine q_callIN X hP hS hO hl.1 (ct_5_32 rfl) (host := RX10) (by decide +kernel) (tb t_148 rfl) (tb t_79 rfl) (tb t_149 rfl) rfl (by decide +kernel) (by decide) ⟨Nat.le_of_ble_eq_true rfl, Nat.le_of_ble_eq_true rfl⟩ (Nat.le_of_ble_eq_true rfl) dX7_init_70 (fun H locs hP hS => ?_)
  rw [mw_mw (L := [(22, .inl (gC G 18, 4, .inr (.inr (.inr (.inr (va_up (fun _ => none) 0 (some (gh G + 29)))))))), (21, .inr (7, [.ref (gh G + 22), .ref (gh G + 23), .ref (gh G + 24)])), (23, .inl (gC G 13, 5, .inl (upd (upd (upd (upd (upd (fun _ => 0) 0 (i32 60)) 1 (i32 3)) 2 (i32 150)) 3 (i32 0)) 4 (i32 50))))]) (by decide) rfl] at hP
  refine q_aast18 (k := 22) (N := 4) (j := 1) (q := 32) (F := va_up (fun _ => none) 0 (some (gh G + 29))) X hP hS (by have := hz0; omega) (by decide) rfl (by decide) ((mw_out (by decide) rfl).trans (cE_5 (k := 32) (by decide +kernel))) (by decide) (by decide) dX7_init_73 (fun H locs hP hS => ?_)
  rw [mw_up (by decide)] at hP
  have hP : PWc G 35 (mw G f 21 [(22, .inl (gC G 18, 4, .inr (.inr (.inr (.inr (va_up (va_up (fun _ => none) 0 (some (gh G + 29))) 1 (some (gh G + 32)))))))), (21, .inr (7, [.ref (gh G + 22), .ref (gh G + 23), .ref (gh G + 24)])), (23, .inl (gC G 13, 5, .inl (upd (upd (upd (upd (upd (fun _ => 0) 0 (i32 60)) 1 (i32 3)) 2 (i32 150)) 3 (i32 0)) 4 (i32 50))))]) H := hP
  refine lv_iinc (v := i32 2) (lv' := [(1, .int (i32 2)), (0, .ref (gh G + 21))]) X.1 X.2.1 dX7_init_74 hl (k := 0) rfl (by decide) (by decide) rfl (fun ls hl => ?_)
  refine lv_goto (tgt := 56) X.1 X.2.1 dX7_init_77 (by decide) ?_
  refine lv_iload_n X.1 X.2.1 dX7_init_56 rfl (lv_at hl 0 rfl) ?_
  refine lv_iconst (v := i32 4) X.1 X.2.1 dX7_init_57 rfl ?_
  refine lv_icmp_ge (tgt := 80) X.1 X.2.1 dX7_init_58 (by decide) (fun q => absurd q (by decide)) (fun _ => ?_)
  refine lv_aload_n X.1 X.2.1 dX7_init_61 rfl (lv_at hl 1 rfl) ?_
  refine q_get (k := 21) (ci := 7) (j := 0) (T := TX7) (fs := [.ref (gh G + 22), .ref (gh G + 23), .ref (gh G + 24)]) X hP hS (by decide) rfl rfl (inTB inX7) (by decide) rfl (tb t_168 rfl) dX7_init_62 ?_
  refine lv_iload_n X.1 X.2.1 dX7_init_65 rfl (lv_at hl 0 rfl) ?_
  refine q_new (C := RX5) (T := TX5) (N := 3) (ci := 5) (fs := [.null, .null, .int 0]) X hP hS rfl (inTB inX5) tyX5 tyX5_ok (tb t_109 rfl) (tb t_146 rfl) (tb t_79 rfl) (by intro j hj; revert j; decide) (Nat.le_of_ble_eq_true rfl) (Nat.le_of_ble_eq_true rfl) dX7_init_66 (fun H hP hS => ?_)
  rw [mw_up (by decide)] at hP
  have hP : PWc G 36 (mw G f 21 [(35, .inr (5, [.null, .null, .int 0])), (22, .inl (gC G 18, 4, .inr (.inr (.inr (.inr (va_up (va_up (fun _ => none) 0 (some (gh G + 29))) 1 (some (gh G + 32)))))))), (21, .inr (7, [.ref (gh G + 22), .ref (gh G + 23), .ref (gh G + 24)])), (23, .inl (gC G 13, 5, .inl (upd (upd (upd (upd (upd (fun _ => 0) 0 (i32 60)) 1 (i32 3)) 2 (i32 150)) 3 (i32 0)) 4 (i32 50))))]) H := hP
  refine lv_dup X.1 X.2.1 dX7_init_69 rfl ?_
  refine q_callIN X hP hS hO hl.1 (ct_5_35 rfl) (host := RX10) (by decide +kernel) (tb t_148 rfl) (tb t_79 rfl) (tb t_149 rfl) rfl (by decide +kernel) (by decide) ⟨Nat.le_of_ble_eq_true rfl, Nat.le_of_ble_eq_true rfl⟩ (Nat.le_of_ble_eq_true rfl) dX7_init_70 (fun H locs hP hS => ?_)
  rw [mw_mw (L := [(22, .inl (gC G 18, 4, .inr (.inr (.inr (.inr (va_up (va_up (fun _ => none) 0 (some (gh G + 29))) 1 (some (gh G + 32)))))))), (21, .inr (7, [.ref (gh G + 22), .ref (gh G + 23), .ref (gh G + 24)])), (23, .inl (gC G 13, 5, .inl (upd (upd (upd (upd (upd (fun _ => 0) 0 (i32 60)) 1 (i32 3)) 2 (i32 150)) 3 (i32 0)) 4 (i32 50))))]) (by decide) rfl] at hP
  refine q_aast18 (k := 22) (N := 4) (j := 2) (q := 35) (F := va_up (va_up (fun _ => none) 0 (some (gh G + 29))) 1 (some (gh G + 32))) X hP hS (by have := hz0; omega) (by decide) rfl (by decide) ((mw_out (by decide) rfl).trans (cE_5 (k := 35) (by decide +kernel))) (by decide) (by decide) dX7_init_73 (fun H locs hP hS => ?_)
  rw [mw_up (by decide)] at hP
  have hP : PWc G 38 (mw G f 21 [(22, .inl (gC G 18, 4, .inr (.inr (.inr (.inr (va_up (va_up (va_up (fun _ => none) 0 (some (gh G + 29))) 1 (some (gh G + 32))) 2 (some (gh G + 35)))))))), (21, .inr (7, [.ref (gh G + 22), .ref (gh G + 23), .ref (gh G + 24)])), (23, .inl (gC G 13, 5, .inl (upd (upd (upd (upd (upd (fun _ => 0) 0 (i32 60)) 1 (i32 3)) 2 (i32 150)) 3 (i32 0)) 4 (i32 50))))]) H := hP
  refine lv_iinc (v := i32 3) (lv' := [(1, .int (i32 3)), (0, .ref (gh G + 21))]) X.1 X.2.1 dX7_init_74 hl (k := 0) rfl (by decide) (by decide) rfl (fun ls hl => ?_)
  refine lv_goto (tgt := 56) X.1 X.2.1 dX7_init_77 (by decide) ?_
  refine lv_iload_n X.1 X.2.1 dX7_init_56 rfl (lv_at hl 0 rfl) ?_
  refine lv_iconst (v := i32 4) X.1 X.2.1 dX7_init_57 rfl ?_
  refine lv_icmp_ge (tgt := 80) X.1 X.2.1 dX7_init_58 (by decide) (fun q => absurd q (by decide)) (fun _ => ?_)
  refine lv_aload_n X.1 X.2.1 dX7_init_61 rfl (lv_at hl 1 rfl) ?_
  refine q_get (k := 21) (ci := 7) (j := 0) (T := TX7) (fs := [.ref (gh G + 22), .ref (gh G + 23), .ref (gh G + 24)]) X hP hS (by decide) rfl rfl (inTB inX7) (by decide) rfl (tb t_168 rfl) dX7_init_62 ?_
  refine lv_iload_n X.1 X.2.1 dX7_init_65 rfl (lv_at hl 0 rfl) ?_
  refine q_new (C := RX5) (T := TX5) (N := 3) (ci := 5) (fs := [.null, .null, .int 0]) X hP hS rfl (inTB inX5) tyX5 tyX5_ok (tb t_109 rfl) (tb t_146 rfl) (tb t_79 rfl) (by intro j hj; revert j; decide) (Nat.le_of_ble_eq_true rfl) (Nat.le_of_ble_eq_true rfl) dX7_init_66 (fun H hP hS => ?_)
  rw [mw_up (by decide)] at hP
  have hP : PWc G 39 (mw G f 21 [(38, .inr (5, [.null, .null, .int 0])), (22, .inl (gC G 18, 4, .inr (.inr (.inr (.inr (va_up (va_up (va_up (fun _ => none) 0 (some (gh G + 29))) 1 (some (gh G + 32))) 2 (some (gh G + 35)))))))), (21, .inr (7, [.ref (gh G + 22), .ref (gh G + 23), .ref (gh G + 24)])), (23, .inl (gC G 13, 5, .inl (upd (upd (upd (upd (upd (fun _ => 0) 0 (i32 60)) 1 (i32 3)) 2 (i32 150)) 3 (i32 0)) 4 (i32 50))))]) H := hP
  refine lv_dup X.1 X.2.1 dX7_init_69 rfl ?_
  refine q_callIN X hP hS hO hl.1 (ct_5_38 rfl) (host := RX10) (by decide +kernel) (tb t_148 rfl) (tb t_79 rfl) (tb t_149 rfl) rfl (by decide +kernel) (by decide) ⟨Nat.le_of_ble_eq_true rfl, Nat.le_of_ble_eq_true rfl⟩ (Nat.le_of_ble_eq_true rfl) dX7_init_70 (fun H locs hP hS => ?_)
  rw [mw_mw (L := [(22, .inl (gC G 18, 4, .inr (.inr (.inr (.inr (va_up (va_up (va_up (fun _ => none) 0 (some (gh G + 29))) 1 (some (gh G + 32))) 2 (some (gh G + 35)))))))), (21, .inr (7, [.ref (gh G + 22), .ref (gh G + 23), .ref (gh G + 24)])), (23, .inl (gC G 13, 5, .inl (upd (upd (upd (upd (upd (fun _ => 0) 0 (i32 60)) 1 (i32 3)) 2 (i32 150)) 3 (i32 0)) 4 (i32 50))))]) (by decide) rfl] at hP
  refine q_aast18 (k := 22) (N := 4) (j := 3) (q := 38) (F := va_up (va_up (va_up (fun _ => none) 0 (some (gh G + 29))) 1 (some (gh G + 32))) 2 (some (gh G + 35))) X hP hS (by have := hz0; omega) (by decide) rfl (by decide) ((mw_out (by decide) rfl).trans (cE_5 (k := 38) (by decide +kernel))) (by decide) (by decide) dX7_init_73 (fun H locs hP hS => ?_)
  rw [mw_up (by decide)] at hP
  have hP : PWc G 41 (mw G f 21 [(22, .inl (gC G 18, 4, .inr (.inr (.inr (.inr (va_up (va_up (va_up (va_up (fun _ => none) 0 (some (gh G + 29))) 1 (some (gh G + 32))) 2 (some (gh G + 35))) 3 (some (gh G + 38)))))))), (21, .inr (7, [.ref (gh G + 22), .ref (gh G + 23), .ref (gh G + 24)])), (23, .inl (gC G 13, 5, .inl (upd (upd (upd (upd (upd (fun _ => 0) 0 (i32 60)) 1 (i32 3)) 2 (i32 150)) 3 (i32 0)) 4 (i32 50))))]) H := hP
  refine lv_iinc (v := i32 4) (lv' := [(1, .int (i32 4)), (0, .ref (gh G + 21))]) X.1 X.2.1 dX7_init_74 hl (k := 0) rfl (by decide) (by decide) rfl (fun ls hl => ?_)
  refine lv_goto (tgt := 56) X.1 X.2.1 dX7_init_77 (by decide) ?_
  refine lv_iload_n X.1 X.2.1 dX7_init_56 rfl (lv_at hl 0 rfl) ?_
  refine lv_iconst (v := i32 4) X.1 X.2.1 dX7_init_57 rfl ?_
  refine lv_icmp_ge (tgt := 80) X.1 X.2.1 dX7_init_58 (by decide) (fun _ => ?_) (fun q => absurd (by decide) q)
  refine q_vret X (hP.congr (fun k hk => ?_)) hS dX7_init_80
  by_cases h22 : k = 22
  · subst h22
    exact fin_r (by decide) rfl (cE_18 (by decide +kernel)) (by decide +kernel) (by intro j hj; rcases (show j = 0 ∨ j = 1 ∨ j = 2 ∨ j = 3 by omega) with rfl | rfl | rfl | rfl <;> rfl)
  by_cases h21 : k = 21
  · subst h21
    exact fin_o (by decide) rfl (by rw [cE_7 (by decide +kernel)] <;> rfl)
  by_cases h23 : k = 23
  · subst h23
    exact fin_o (by decide) rfl (by rw [cE_13 (by decide +kernel)]; exact fin_i (by decide +kernel) (z0_ru (by decide)))
  exact Or.inl (mw_no (L := [(22, .inl (gC G 18, 4, .inr (.inr (.inr (.inr (va_up (va_up (va_up (va_up (fun _ => none) 0 (some (gh G + 29))) 1 (some (gh G + 32))) 2 (some (gh G + 35))) 3 (some (gh G + 38)))))))), (21, .inr (7, [.ref (gh G + 22), .ref (gh G + 23), .ref (gh G + 24)])), (23, .inl (gC G 13, 5, .inl (upd (upd (upd (upd (upd (fun _ => 0) 0 (i32 60)) 1 (i32 3)) 2 (i32 150)) 3 (i32 0)) 4 (i32 50))))]) (by simp [List.lookup, beq_eq_false_iff_ne.mpr h22, beq_eq_false_iff_ne.mpr h21, beq_eq_false_iff_ne.mpr h23]))
