def y_J6_bitCount_0f7a4 : MethodName := ⟨"java/lang/Integer", "bitCount", "(I)I"⟩
theorem t_J6_bitCount_0f7a4_0 : decode prog_20_method_49_code 0 = .ok (.iload_n 0, 1) := by decide +kernel
theorem t_J6_bitCount_0f7a4_1 : decode prog_20_method_49_code 1 = .ok (.iload_n 0, 1) := by decide +kernel
theorem t_J6_bitCount_0f7a4_2 : decode prog_20_method_49_code 2 = .ok (.iconst 1, 1) := by decide +kernel
theorem t_J6_bitCount_0f7a4_3 : decode prog_20_method_49_code 3 = .ok (.iushr, 1) := by decide +kernel
theorem t_J6_bitCount_0f7a4_4 : decode prog_20_method_49_code 4 = .ok (.ldc_w 265, 3) := by decide +kernel
theorem t_J6_bitCount_0f7a4_7 : decode prog_20_method_49_code 7 = .ok (.iand, 1) := by decide +kernel
theorem t_J6_bitCount_0f7a4_8 : decode prog_20_method_49_code 8 = .ok (.isub, 1) := by decide +kernel
theorem t_J6_bitCount_0f7a4_9 : decode prog_20_method_49_code 9 = .ok (.istore_n 0, 1) := by decide +kernel
theorem t_J6_bitCount_0f7a4_10 : decode prog_20_method_49_code 10 = .ok (.iload_n 0, 1) := by decide +kernel
theorem t_J6_bitCount_0f7a4_11 : decode prog_20_method_49_code 11 = .ok (.ldc_w 266, 3) := by decide +kernel
theorem t_J6_bitCount_0f7a4_14 : decode prog_20_method_49_code 14 = .ok (.iand, 1) := by decide +kernel
theorem t_J6_bitCount_0f7a4_15 : decode prog_20_method_49_code 15 = .ok (.iload_n 0, 1) := by decide +kernel
theorem t_J6_bitCount_0f7a4_16 : decode prog_20_method_49_code 16 = .ok (.iconst 2, 1) := by decide +kernel
theorem t_J6_bitCount_0f7a4_17 : decode prog_20_method_49_code 17 = .ok (.iushr, 1) := by decide +kernel
theorem t_J6_bitCount_0f7a4_18 : decode prog_20_method_49_code 18 = .ok (.ldc_w 266, 3) := by decide +kernel
theorem t_J6_bitCount_0f7a4_21 : decode prog_20_method_49_code 21 = .ok (.iand, 1) := by decide +kernel
theorem t_J6_bitCount_0f7a4_22 : decode prog_20_method_49_code 22 = .ok (.iadd, 1) := by decide +kernel
theorem t_J6_bitCount_0f7a4_23 : decode prog_20_method_49_code 23 = .ok (.istore_n 0, 1) := by decide +kernel
theorem t_J6_bitCount_0f7a4_24 : decode prog_20_method_49_code 24 = .ok (.iload_n 0, 1) := by decide +kernel
theorem t_J6_bitCount_0f7a4_25 : decode prog_20_method_49_code 25 = .ok (.iload_n 0, 1) := by decide +kernel
theorem t_J6_bitCount_0f7a4_26 : decode prog_20_method_49_code 26 = .ok (.iconst 4, 1) := by decide +kernel
theorem t_J6_bitCount_0f7a4_27 : decode prog_20_method_49_code 27 = .ok (.iushr, 1) := by decide +kernel
theorem t_J6_bitCount_0f7a4_28 : decode prog_20_method_49_code 28 = .ok (.iadd, 1) := by decide +kernel
theorem t_J6_bitCount_0f7a4_29 : decode prog_20_method_49_code 29 = .ok (.ldc_w 267, 3) := by decide +kernel
theorem t_J6_bitCount_0f7a4_32 : decode prog_20_method_49_code 32 = .ok (.iand, 1) := by decide +kernel
theorem t_J6_bitCount_0f7a4_33 : decode prog_20_method_49_code 33 = .ok (.istore_n 0, 1) := by decide +kernel
theorem t_J6_bitCount_0f7a4_34 : decode prog_20_method_49_code 34 = .ok (.iload_n 0, 1) := by decide +kernel
theorem t_J6_bitCount_0f7a4_35 : decode prog_20_method_49_code 35 = .ok (.iload_n 0, 1) := by decide +kernel
theorem t_J6_bitCount_0f7a4_36 : decode prog_20_method_49_code 36 = .ok (.bipush 8, 2) := by decide +kernel
theorem t_J6_bitCount_0f7a4_38 : decode prog_20_method_49_code 38 = .ok (.iushr, 1) := by decide +kernel
theorem t_J6_bitCount_0f7a4_39 : decode prog_20_method_49_code 39 = .ok (.iadd, 1) := by decide +kernel
theorem t_J6_bitCount_0f7a4_40 : decode prog_20_method_49_code 40 = .ok (.istore_n 0, 1) := by decide +kernel
theorem t_J6_bitCount_0f7a4_41 : decode prog_20_method_49_code 41 = .ok (.iload_n 0, 1) := by decide +kernel
theorem t_J6_bitCount_0f7a4_42 : decode prog_20_method_49_code 42 = .ok (.iload_n 0, 1) := by decide +kernel
theorem t_J6_bitCount_0f7a4_43 : decode prog_20_method_49_code 43 = .ok (.bipush 16, 2) := by decide +kernel
theorem t_J6_bitCount_0f7a4_45 : decode prog_20_method_49_code 45 = .ok (.iushr, 1) := by decide +kernel
theorem t_J6_bitCount_0f7a4_46 : decode prog_20_method_49_code 46 = .ok (.iadd, 1) := by decide +kernel
theorem t_J6_bitCount_0f7a4_47 : decode prog_20_method_49_code 47 = .ok (.istore_n 0, 1) := by decide +kernel
theorem t_J6_bitCount_0f7a4_48 : decode prog_20_method_49_code 48 = .ok (.iload_n 0, 1) := by decide +kernel
theorem t_J6_bitCount_0f7a4_49 : decode prog_20_method_49_code 49 = .ok (.bipush 63, 2) := by decide +kernel
theorem t_J6_bitCount_0f7a4_51 : decode prog_20_method_49_code 51 = .ok (.iand, 1) := by decide +kernel
theorem t_J6_bitCount_0f7a4_52 : decode prog_20_method_49_code 52 = .ok (.ireturn, 1) := by decide +kernel
def y_J13_bitCount_95d88 : MethodName := ⟨"java/lang/Long", "bitCount", "(J)I"⟩
theorem t_J13_bitCount_95d88_0 : decode prog_21_method_50_code 0 = .ok (.lload_n 0, 1) := by decide +kernel
theorem t_J13_bitCount_95d88_1 : decode prog_21_method_50_code 1 = .ok (.lload_n 0, 1) := by decide +kernel
theorem t_J13_bitCount_95d88_2 : decode prog_21_method_50_code 2 = .ok (.iconst 1, 1) := by decide +kernel
theorem t_J13_bitCount_95d88_3 : decode prog_21_method_50_code 3 = .ok (.lushr, 1) := by decide +kernel
theorem t_J13_bitCount_95d88_4 : decode prog_21_method_50_code 4 = .ok (.ldc2_w 314, 3) := by decide +kernel
theorem t_J13_bitCount_95d88_7 : decode prog_21_method_50_code 7 = .ok (.land, 1) := by decide +kernel
theorem t_J13_bitCount_95d88_8 : decode prog_21_method_50_code 8 = .ok (.lsub, 1) := by decide +kernel
theorem t_J13_bitCount_95d88_9 : decode prog_21_method_50_code 9 = .ok (.lstore_n 0, 1) := by decide +kernel
theorem t_J13_bitCount_95d88_10 : decode prog_21_method_50_code 10 = .ok (.lload_n 0, 1) := by decide +kernel
theorem t_J13_bitCount_95d88_11 : decode prog_21_method_50_code 11 = .ok (.ldc2_w 316, 3) := by decide +kernel
theorem t_J13_bitCount_95d88_14 : decode prog_21_method_50_code 14 = .ok (.land, 1) := by decide +kernel
theorem t_J13_bitCount_95d88_15 : decode prog_21_method_50_code 15 = .ok (.lload_n 0, 1) := by decide +kernel
theorem t_J13_bitCount_95d88_16 : decode prog_21_method_50_code 16 = .ok (.iconst 2, 1) := by decide +kernel
theorem t_J13_bitCount_95d88_17 : decode prog_21_method_50_code 17 = .ok (.lushr, 1) := by decide +kernel
theorem t_J13_bitCount_95d88_18 : decode prog_21_method_50_code 18 = .ok (.ldc2_w 316, 3) := by decide +kernel
theorem t_J13_bitCount_95d88_21 : decode prog_21_method_50_code 21 = .ok (.land, 1) := by decide +kernel
theorem t_J13_bitCount_95d88_22 : decode prog_21_method_50_code 22 = .ok (.ladd, 1) := by decide +kernel
theorem t_J13_bitCount_95d88_23 : decode prog_21_method_50_code 23 = .ok (.lstore_n 0, 1) := by decide +kernel
theorem t_J13_bitCount_95d88_24 : decode prog_21_method_50_code 24 = .ok (.lload_n 0, 1) := by decide +kernel
theorem t_J13_bitCount_95d88_25 : decode prog_21_method_50_code 25 = .ok (.lload_n 0, 1) := by decide +kernel
theorem t_J13_bitCount_95d88_26 : decode prog_21_method_50_code 26 = .ok (.iconst 4, 1) := by decide +kernel
theorem t_J13_bitCount_95d88_27 : decode prog_21_method_50_code 27 = .ok (.lushr, 1) := by decide +kernel
theorem t_J13_bitCount_95d88_28 : decode prog_21_method_50_code 28 = .ok (.ladd, 1) := by decide +kernel
theorem t_J13_bitCount_95d88_29 : decode prog_21_method_50_code 29 = .ok (.ldc2_w 318, 3) := by decide +kernel
theorem t_J13_bitCount_95d88_32 : decode prog_21_method_50_code 32 = .ok (.land, 1) := by decide +kernel
theorem t_J13_bitCount_95d88_33 : decode prog_21_method_50_code 33 = .ok (.lstore_n 0, 1) := by decide +kernel
theorem t_J13_bitCount_95d88_34 : decode prog_21_method_50_code 34 = .ok (.lload_n 0, 1) := by decide +kernel
theorem t_J13_bitCount_95d88_35 : decode prog_21_method_50_code 35 = .ok (.lload_n 0, 1) := by decide +kernel
theorem t_J13_bitCount_95d88_36 : decode prog_21_method_50_code 36 = .ok (.bipush 8, 2) := by decide +kernel
theorem t_J13_bitCount_95d88_38 : decode prog_21_method_50_code 38 = .ok (.lushr, 1) := by decide +kernel
theorem t_J13_bitCount_95d88_39 : decode prog_21_method_50_code 39 = .ok (.ladd, 1) := by decide +kernel
theorem t_J13_bitCount_95d88_40 : decode prog_21_method_50_code 40 = .ok (.lstore_n 0, 1) := by decide +kernel
theorem t_J13_bitCount_95d88_41 : decode prog_21_method_50_code 41 = .ok (.lload_n 0, 1) := by decide +kernel
theorem t_J13_bitCount_95d88_42 : decode prog_21_method_50_code 42 = .ok (.lload_n 0, 1) := by decide +kernel
theorem t_J13_bitCount_95d88_43 : decode prog_21_method_50_code 43 = .ok (.bipush 16, 2) := by decide +kernel
theorem t_J13_bitCount_95d88_45 : decode prog_21_method_50_code 45 = .ok (.lushr, 1) := by decide +kernel
theorem t_J13_bitCount_95d88_46 : decode prog_21_method_50_code 46 = .ok (.ladd, 1) := by decide +kernel
theorem t_J13_bitCount_95d88_47 : decode prog_21_method_50_code 47 = .ok (.lstore_n 0, 1) := by decide +kernel
theorem t_J13_bitCount_95d88_48 : decode prog_21_method_50_code 48 = .ok (.lload_n 0, 1) := by decide +kernel
theorem t_J13_bitCount_95d88_49 : decode prog_21_method_50_code 49 = .ok (.lload_n 0, 1) := by decide +kernel
theorem t_J13_bitCount_95d88_50 : decode prog_21_method_50_code 50 = .ok (.bipush 32, 2) := by decide +kernel
theorem t_J13_bitCount_95d88_52 : decode prog_21_method_50_code 52 = .ok (.lushr, 1) := by decide +kernel
theorem t_J13_bitCount_95d88_53 : decode prog_21_method_50_code 53 = .ok (.ladd, 1) := by decide +kernel
theorem t_J13_bitCount_95d88_54 : decode prog_21_method_50_code 54 = .ok (.lstore_n 0, 1) := by decide +kernel
theorem t_J13_bitCount_95d88_55 : decode prog_21_method_50_code 55 = .ok (.lload_n 0, 1) := by decide +kernel
theorem t_J13_bitCount_95d88_56 : decode prog_21_method_50_code 56 = .ok (.l2i, 1) := by decide +kernel
theorem t_J13_bitCount_95d88_57 : decode prog_21_method_50_code 57 = .ok (.bipush 127, 2) := by decide +kernel
theorem t_J13_bitCount_95d88_59 : decode prog_21_method_50_code 59 = .ok (.iand, 1) := by decide +kernel
theorem t_J13_bitCount_95d88_60 : decode prog_21_method_50_code 60 = .ok (.ireturn, 1) := by decide +kernel
def y_J6_numberOfTrailingZeros_0f7a4 : MethodName := ⟨"java/lang/Integer", "numberOfTrailingZeros", "(I)I"⟩
theorem t_J6_numberOfTrailingZeros_0f7a4_0 : decode prog_20_method_48_code 0 = .ok (.iload_n 0, 1) := by decide +kernel
theorem t_J6_numberOfTrailingZeros_0f7a4_1 : decode prog_20_method_48_code 1 = .ok (.iconst (-1), 1) := by decide +kernel
theorem t_J6_numberOfTrailingZeros_0f7a4_2 : decode prog_20_method_48_code 2 = .ok (.ixor, 1) := by decide +kernel
theorem t_J6_numberOfTrailingZeros_0f7a4_3 : decode prog_20_method_48_code 3 = .ok (.iload_n 0, 1) := by decide +kernel
theorem t_J6_numberOfTrailingZeros_0f7a4_4 : decode prog_20_method_48_code 4 = .ok (.iconst 1, 1) := by decide +kernel
theorem t_J6_numberOfTrailingZeros_0f7a4_5 : decode prog_20_method_48_code 5 = .ok (.isub, 1) := by decide +kernel
theorem t_J6_numberOfTrailingZeros_0f7a4_6 : decode prog_20_method_48_code 6 = .ok (.iand, 1) := by decide +kernel
theorem t_J6_numberOfTrailingZeros_0f7a4_7 : decode prog_20_method_48_code 7 = .ok (.istore_n 0, 1) := by decide +kernel
theorem t_J6_numberOfTrailingZeros_0f7a4_8 : decode prog_20_method_48_code 8 = .ok (.iload_n 0, 1) := by decide +kernel
theorem t_J6_numberOfTrailingZeros_0f7a4_9 : decode prog_20_method_48_code 9 = .ok (.ifCond .gt 8, 3) := by decide +kernel
theorem t_J6_numberOfTrailingZeros_0f7a4_12 : decode prog_20_method_48_code 12 = .ok (.iload_n 0, 1) := by decide +kernel
theorem t_J6_numberOfTrailingZeros_0f7a4_13 : decode prog_20_method_48_code 13 = .ok (.bipush 32, 2) := by decide +kernel
theorem t_J6_numberOfTrailingZeros_0f7a4_15 : decode prog_20_method_48_code 15 = .ok (.iand, 1) := by decide +kernel
theorem t_J6_numberOfTrailingZeros_0f7a4_16 : decode prog_20_method_48_code 16 = .ok (.ireturn, 1) := by decide +kernel
theorem t_J6_numberOfTrailingZeros_0f7a4_17 : decode prog_20_method_48_code 17 = .ok (.iconst 1, 1) := by decide +kernel
theorem t_J6_numberOfTrailingZeros_0f7a4_18 : decode prog_20_method_48_code 18 = .ok (.istore_n 1, 1) := by decide +kernel
theorem t_J6_numberOfTrailingZeros_0f7a4_19 : decode prog_20_method_48_code 19 = .ok (.iload_n 0, 1) := by decide +kernel
theorem t_J6_numberOfTrailingZeros_0f7a4_20 : decode prog_20_method_48_code 20 = .ok (.ldc_w 264, 3) := by decide +kernel
theorem t_J6_numberOfTrailingZeros_0f7a4_23 : decode prog_20_method_48_code 23 = .ok (.if_icmp .le 11, 3) := by decide +kernel
theorem t_J6_numberOfTrailingZeros_0f7a4_26 : decode prog_20_method_48_code 26 = .ok (.iinc 1 16, 3) := by decide +kernel
theorem t_J6_numberOfTrailingZeros_0f7a4_29 : decode prog_20_method_48_code 29 = .ok (.iload_n 0, 1) := by decide +kernel
theorem t_J6_numberOfTrailingZeros_0f7a4_30 : decode prog_20_method_48_code 30 = .ok (.bipush 16, 2) := by decide +kernel
theorem t_J6_numberOfTrailingZeros_0f7a4_32 : decode prog_20_method_48_code 32 = .ok (.iushr, 1) := by decide +kernel
theorem t_J6_numberOfTrailingZeros_0f7a4_33 : decode prog_20_method_48_code 33 = .ok (.istore_n 0, 1) := by decide +kernel
theorem t_J6_numberOfTrailingZeros_0f7a4_34 : decode prog_20_method_48_code 34 = .ok (.iload_n 0, 1) := by decide +kernel
theorem t_J6_numberOfTrailingZeros_0f7a4_35 : decode prog_20_method_48_code 35 = .ok (.sipush 256, 3) := by decide +kernel
theorem t_J6_numberOfTrailingZeros_0f7a4_38 : decode prog_20_method_48_code 38 = .ok (.if_icmp .le 11, 3) := by decide +kernel
theorem t_J6_numberOfTrailingZeros_0f7a4_41 : decode prog_20_method_48_code 41 = .ok (.iinc 1 8, 3) := by decide +kernel
theorem t_J6_numberOfTrailingZeros_0f7a4_44 : decode prog_20_method_48_code 44 = .ok (.iload_n 0, 1) := by decide +kernel
theorem t_J6_numberOfTrailingZeros_0f7a4_45 : decode prog_20_method_48_code 45 = .ok (.bipush 8, 2) := by decide +kernel
theorem t_J6_numberOfTrailingZeros_0f7a4_47 : decode prog_20_method_48_code 47 = .ok (.iushr, 1) := by decide +kernel
theorem t_J6_numberOfTrailingZeros_0f7a4_48 : decode prog_20_method_48_code 48 = .ok (.istore_n 0, 1) := by decide +kernel
theorem t_J6_numberOfTrailingZeros_0f7a4_49 : decode prog_20_method_48_code 49 = .ok (.iload_n 0, 1) := by decide +kernel
theorem t_J6_numberOfTrailingZeros_0f7a4_50 : decode prog_20_method_48_code 50 = .ok (.bipush 16, 2) := by decide +kernel
theorem t_J6_numberOfTrailingZeros_0f7a4_52 : decode prog_20_method_48_code 52 = .ok (.if_icmp .le 10, 3) := by decide +kernel
theorem t_J6_numberOfTrailingZeros_0f7a4_55 : decode prog_20_method_48_code 55 = .ok (.iinc 1 4, 3) := by decide +kernel
theorem t_J6_numberOfTrailingZeros_0f7a4_58 : decode prog_20_method_48_code 58 = .ok (.iload_n 0, 1) := by decide +kernel
theorem t_J6_numberOfTrailingZeros_0f7a4_59 : decode prog_20_method_48_code 59 = .ok (.iconst 4, 1) := by decide +kernel
theorem t_J6_numberOfTrailingZeros_0f7a4_60 : decode prog_20_method_48_code 60 = .ok (.iushr, 1) := by decide +kernel
theorem t_J6_numberOfTrailingZeros_0f7a4_61 : decode prog_20_method_48_code 61 = .ok (.istore_n 0, 1) := by decide +kernel
theorem t_J6_numberOfTrailingZeros_0f7a4_62 : decode prog_20_method_48_code 62 = .ok (.iload_n 0, 1) := by decide +kernel
theorem t_J6_numberOfTrailingZeros_0f7a4_63 : decode prog_20_method_48_code 63 = .ok (.iconst 4, 1) := by decide +kernel
theorem t_J6_numberOfTrailingZeros_0f7a4_64 : decode prog_20_method_48_code 64 = .ok (.if_icmp .le 10, 3) := by decide +kernel
theorem t_J6_numberOfTrailingZeros_0f7a4_67 : decode prog_20_method_48_code 67 = .ok (.iinc 1 2, 3) := by decide +kernel
theorem t_J6_numberOfTrailingZeros_0f7a4_70 : decode prog_20_method_48_code 70 = .ok (.iload_n 0, 1) := by decide +kernel
theorem t_J6_numberOfTrailingZeros_0f7a4_71 : decode prog_20_method_48_code 71 = .ok (.iconst 2, 1) := by decide +kernel
theorem t_J6_numberOfTrailingZeros_0f7a4_72 : decode prog_20_method_48_code 72 = .ok (.iushr, 1) := by decide +kernel
theorem t_J6_numberOfTrailingZeros_0f7a4_73 : decode prog_20_method_48_code 73 = .ok (.istore_n 0, 1) := by decide +kernel
theorem t_J6_numberOfTrailingZeros_0f7a4_74 : decode prog_20_method_48_code 74 = .ok (.iload_n 1, 1) := by decide +kernel
theorem t_J6_numberOfTrailingZeros_0f7a4_75 : decode prog_20_method_48_code 75 = .ok (.iload_n 0, 1) := by decide +kernel
theorem t_J6_numberOfTrailingZeros_0f7a4_76 : decode prog_20_method_48_code 76 = .ok (.iconst 1, 1) := by decide +kernel
theorem t_J6_numberOfTrailingZeros_0f7a4_77 : decode prog_20_method_48_code 77 = .ok (.iushr, 1) := by decide +kernel
theorem t_J6_numberOfTrailingZeros_0f7a4_78 : decode prog_20_method_48_code 78 = .ok (.iadd, 1) := by decide +kernel
theorem t_J6_numberOfTrailingZeros_0f7a4_79 : decode prog_20_method_48_code 79 = .ok (.ireturn, 1) := by decide +kernel
def y_J13_numberOfTrailingZeros_95d88 : MethodName := ⟨"java/lang/Long", "numberOfTrailingZeros", "(J)I"⟩
theorem t_J13_numberOfTrailingZeros_95d88_0 : decode prog_21_method_49_code 0 = .ok (.lload_n 0, 1) := by decide +kernel
theorem t_J13_numberOfTrailingZeros_95d88_1 : decode prog_21_method_49_code 1 = .ok (.l2i, 1) := by decide +kernel
theorem t_J13_numberOfTrailingZeros_95d88_2 : decode prog_21_method_49_code 2 = .ok (.istore_n 2, 1) := by decide +kernel
theorem t_J13_numberOfTrailingZeros_95d88_3 : decode prog_21_method_49_code 3 = .ok (.iload_n 2, 1) := by decide +kernel
theorem t_J13_numberOfTrailingZeros_95d88_4 : decode prog_21_method_49_code 4 = .ok (.ifCond .ne 17, 3) := by decide +kernel
theorem t_J13_numberOfTrailingZeros_95d88_7 : decode prog_21_method_49_code 7 = .ok (.bipush 32, 2) := by decide +kernel
theorem t_J13_numberOfTrailingZeros_95d88_9 : decode prog_21_method_49_code 9 = .ok (.lload_n 0, 1) := by decide +kernel
theorem t_J13_numberOfTrailingZeros_95d88_10 : decode prog_21_method_49_code 10 = .ok (.bipush 32, 2) := by decide +kernel
theorem t_J13_numberOfTrailingZeros_95d88_12 : decode prog_21_method_49_code 12 = .ok (.lushr, 1) := by decide +kernel
theorem t_J13_numberOfTrailingZeros_95d88_13 : decode prog_21_method_49_code 13 = .ok (.l2i, 1) := by decide +kernel
theorem t_J13_numberOfTrailingZeros_95d88_14 : decode prog_21_method_49_code 14 = .ok (.invokestatic 311, 3) := by decide +kernel
theorem t_J13_numberOfTrailingZeros_95d88_17 : decode prog_21_method_49_code 17 = .ok (.iadd, 1) := by decide +kernel
theorem t_J13_numberOfTrailingZeros_95d88_18 : decode prog_21_method_49_code 18 = .ok (.goto 7, 3) := by decide +kernel
theorem t_J13_numberOfTrailingZeros_95d88_21 : decode prog_21_method_49_code 21 = .ok (.iload_n 2, 1) := by decide +kernel
theorem t_J13_numberOfTrailingZeros_95d88_22 : decode prog_21_method_49_code 22 = .ok (.invokestatic 311, 3) := by decide +kernel
theorem t_J13_numberOfTrailingZeros_95d88_25 : decode prog_21_method_49_code 25 = .ok (.ireturn, 1) := by decide +kernel
theorem cc_j2_264 : Cond.constant "java/lang/Integer" 264 65536 ∈ vtb := vtb_at 1180 (by decide +kernel) rfl
theorem cc_j2_265 : Cond.constant "java/lang/Integer" 265 1431655765 ∈ vtb := vtb_at 682 (by decide +kernel) rfl
theorem cc_j2_266 : Cond.constant "java/lang/Integer" 266 858993459 ∈ vtb := vtb_at 683 (by decide +kernel) rfl
theorem cc_j2_267 : Cond.constant "java/lang/Integer" 267 252645135 ∈ vtb := vtb_at 684 (by decide +kernel) rfl
theorem cc_j3_314 : Cond.constantLong "java/lang/Long" 314 6148914691236517205 ∈ vtb := vtb_at 1184 (by decide +kernel) rfl
theorem cc_j3_316 : Cond.constantLong "java/lang/Long" 316 3689348814741910323 ∈ vtb := vtb_at 1185 (by decide +kernel) rfl
theorem cc_j3_318 : Cond.constantLong "java/lang/Long" 318 1085102592571150095 ∈ vtb := vtb_at 1186 (by decide +kernel) rfl
theorem my_J6_numberOfTrailingZeros_0f7a4 : MY y_J6_numberOfTrailingZeros_0f7a4 prog_20_method_48_code 2 (some .int) 1 := ⟨vtb_at 1179 (by decide +kernel) rfl, vtb_at 159 (by decide +kernel) rfl, ⟨by decide, by decide, by decide +kernel⟩, by decide⟩
theorem ms_J6_numberOfTrailingZeros_0f7a4 : Cond.static y_J6_numberOfTrailingZeros_0f7a4 ∈ vtb := vtb_at 1178 (by decide +kernel) rfl
theorem ml_j3_311 : ML "java/lang/Long" 311 y_J6_numberOfTrailingZeros_0f7a4 := Or.inl (vtb_at 1177 (by decide +kernel) rfl)
def D_J6_bitCount_0f7a4 (p0 : Int32) : Wd → Option (Int32 × Wd) := fun w =>
  bd (p0 - (((p0.toUInt32 >>> ((1 : Int32).toUInt32 &&& Int32.toUInt32 31)).toInt32) &&& 1431655765)) fun x1 => bd ((x1 &&& 858993459) + (((x1.toUInt32 >>> ((2 : Int32).toUInt32 &&& Int32.toUInt32 31)).toInt32) &&& 858993459)) fun x2 => bd ((x2 + ((x2.toUInt32 >>> ((4 : Int32).toUInt32 &&& Int32.toUInt32 31)).toInt32)) &&& 252645135) fun x3 => bd (x3 + ((x3.toUInt32 >>> ((8 : Int32).toUInt32 &&& Int32.toUInt32 31)).toInt32)) fun x4 => bd (x4 + ((x4.toUInt32 >>> ((16 : Int32).toUInt32 &&& Int32.toUInt32 31)).toInt32)) fun x5 => some (x5 &&& 63, w)
set_option maxRecDepth 20000 in
theorem S_J6_bitCount_0f7a4 {l0 : Launch} {ρ : Nat → Nat} {cs : Nat → ClassId} {G : va_G} (hρ : injN ρ) {p0 : Int32} {w : Wd} {rr : (Int32 × Wd)} (hD : D_J6_bitCount_0f7a4 p0 w = some rr) : CtI l0 ρ cs G y_J6_bitCount_0f7a4 prog_20_method_49_code 1 .int 0 [.int p0] w rr.1 rr.2 := by
  refine ctI_of hρ (by decide) (Nat.le_of_ble_eq_true rfl) (fun X hn h hR => ?_)
  unfold D_J6_bitCount_0f7a4 at hD
  show gG ρ cs G X 0 [(0, .int p0)] [] w
  refine g_iload_n h 0 t_J6_bitCount_0f7a4_0 rfl ?_
  refine g_iload_n h 0 t_J6_bitCount_0f7a4_1 rfl ?_
  refine g_iconst (v := 1) h t_J6_bitCount_0f7a4_2 (by decide) ?_
  refine g_iushr h t_J6_bitCount_0f7a4_3 ?_
  refine g_ldcw (v := 1431655765) h t_J6_bitCount_0f7a4_4 cc_j2_265 ?_
  refine g_iand h t_J6_bitCount_0f7a4_7 ?_
  refine g_isub h t_J6_bitCount_0f7a4_8 ?_
  refine g_bdI hD (fun x1 hD => ?_)
  refine g_istore_n (L' := [(0, .int x1)]) h hn t_J6_bitCount_0f7a4_9 rfl (by decide) rfl ?_
  refine g_iload_n h 0 t_J6_bitCount_0f7a4_10 rfl ?_
  refine g_ldcw (v := 858993459) h t_J6_bitCount_0f7a4_11 cc_j2_266 ?_
  refine g_iand h t_J6_bitCount_0f7a4_14 ?_
  refine g_iload_n h 0 t_J6_bitCount_0f7a4_15 rfl ?_
  refine g_iconst (v := 2) h t_J6_bitCount_0f7a4_16 (by decide) ?_
  refine g_iushr h t_J6_bitCount_0f7a4_17 ?_
  refine g_ldcw (v := 858993459) h t_J6_bitCount_0f7a4_18 cc_j2_266 ?_
  refine g_iand h t_J6_bitCount_0f7a4_21 ?_
  refine g_iadd h t_J6_bitCount_0f7a4_22 ?_
  refine g_bdI hD (fun x2 hD => ?_)
  refine g_istore_n (L' := [(0, .int x2)]) h hn t_J6_bitCount_0f7a4_23 rfl (by decide) rfl ?_
  refine g_iload_n h 0 t_J6_bitCount_0f7a4_24 rfl ?_
  refine g_iload_n h 0 t_J6_bitCount_0f7a4_25 rfl ?_
  refine g_iconst (v := 4) h t_J6_bitCount_0f7a4_26 (by decide) ?_
  refine g_iushr h t_J6_bitCount_0f7a4_27 ?_
  refine g_iadd h t_J6_bitCount_0f7a4_28 ?_
  refine g_ldcw (v := 252645135) h t_J6_bitCount_0f7a4_29 cc_j2_267 ?_
  refine g_iand h t_J6_bitCount_0f7a4_32 ?_
  refine g_bdI hD (fun x3 hD => ?_)
  refine g_istore_n (L' := [(0, .int x3)]) h hn t_J6_bitCount_0f7a4_33 rfl (by decide) rfl ?_
  refine g_iload_n h 0 t_J6_bitCount_0f7a4_34 rfl ?_
  refine g_iload_n h 0 t_J6_bitCount_0f7a4_35 rfl ?_
  refine g_bipush (v := 8) h t_J6_bitCount_0f7a4_36 (by decide) ?_
  refine g_iushr h t_J6_bitCount_0f7a4_38 ?_
  refine g_iadd h t_J6_bitCount_0f7a4_39 ?_
  refine g_bdI hD (fun x4 hD => ?_)
  refine g_istore_n (L' := [(0, .int x4)]) h hn t_J6_bitCount_0f7a4_40 rfl (by decide) rfl ?_
  refine g_iload_n h 0 t_J6_bitCount_0f7a4_41 rfl ?_
  refine g_iload_n h 0 t_J6_bitCount_0f7a4_42 rfl ?_
  refine g_bipush (v := 16) h t_J6_bitCount_0f7a4_43 (by decide) ?_
  refine g_iushr h t_J6_bitCount_0f7a4_45 ?_
  refine g_iadd h t_J6_bitCount_0f7a4_46 ?_
  refine g_bdI hD (fun x5 hD => ?_)
  refine g_istore_n (L' := [(0, .int x5)]) h hn t_J6_bitCount_0f7a4_47 rfl (by decide) rfl ?_
  refine g_iload_n h 0 t_J6_bitCount_0f7a4_48 rfl ?_
  refine g_bipush (v := 63) h t_J6_bitCount_0f7a4_49 (by decide) ?_
  refine g_iand h t_J6_bitCount_0f7a4_51 ?_
  obtain rfl := Option.some.inj hD
  exact hR _ _ t_J6_bitCount_0f7a4_52 rfl
def D_J13_bitCount_95d88 (p0 : Int64) : Wd → Option (Int32 × Wd) := fun w =>
  bd (p0 - (((p0.toUInt64 >>> ((1 : Int32).toInt64.toUInt64 &&& Int64.toUInt64 63)).toInt64) &&& (6148914691236517205 : Int64))) fun x1 => bd ((x1 &&& (3689348814741910323 : Int64)) + (((x1.toUInt64 >>> ((2 : Int32).toInt64.toUInt64 &&& Int64.toUInt64 63)).toInt64) &&& (3689348814741910323 : Int64))) fun x2 => bd ((x2 + ((x2.toUInt64 >>> ((4 : Int32).toInt64.toUInt64 &&& Int64.toUInt64 63)).toInt64)) &&& (1085102592571150095 : Int64)) fun x3 => bd (x3 + ((x3.toUInt64 >>> ((8 : Int32).toInt64.toUInt64 &&& Int64.toUInt64 63)).toInt64)) fun x4 => bd (x4 + ((x4.toUInt64 >>> ((16 : Int32).toInt64.toUInt64 &&& Int64.toUInt64 63)).toInt64)) fun x5 => bd (x5 + ((x5.toUInt64 >>> ((32 : Int32).toInt64.toUInt64 &&& Int64.toUInt64 63)).toInt64)) fun x6 => some (x6.toInt32 &&& 127, w)
set_option maxRecDepth 20000 in
theorem S_J13_bitCount_95d88 {l0 : Launch} {ρ : Nat → Nat} {cs : Nat → ClassId} {G : va_G} (hρ : injN ρ) {p0 : Int64} {w : Wd} {rr : (Int32 × Wd)} (hD : D_J13_bitCount_95d88 p0 w = some rr) : CtI l0 ρ cs G y_J13_bitCount_95d88 prog_21_method_50_code 2 .int 0 [.long p0] w rr.1 rr.2 := by
  refine ctI_of hρ (by decide) (Nat.le_of_ble_eq_true rfl) (fun X hn h hR => ?_)
  unfold D_J13_bitCount_95d88 at hD
  show gG ρ cs G X 0 [(0, .long p0)] [] w
  refine g_lload_n h 0 t_J13_bitCount_95d88_0 rfl ?_
  refine g_lload_n h 0 t_J13_bitCount_95d88_1 rfl ?_
  refine g_iconst (v := 1) h t_J13_bitCount_95d88_2 (by decide) ?_
  refine g_lushr h t_J13_bitCount_95d88_3 ?_
  refine g_ldc2 (v := 6148914691236517205) h t_J13_bitCount_95d88_4 cc_j3_314 ?_
  refine g_land h t_J13_bitCount_95d88_7 ?_
  refine g_lsub h t_J13_bitCount_95d88_8 ?_
  refine g_bdJ hD (fun x1 hD => ?_)
  refine g_lstore_n (L' := [(0, .long x1)]) h hn t_J13_bitCount_95d88_9 rfl (by decide) rfl ?_
  refine g_lload_n h 0 t_J13_bitCount_95d88_10 rfl ?_
  refine g_ldc2 (v := 3689348814741910323) h t_J13_bitCount_95d88_11 cc_j3_316 ?_
  refine g_land h t_J13_bitCount_95d88_14 ?_
  refine g_lload_n h 0 t_J13_bitCount_95d88_15 rfl ?_
  refine g_iconst (v := 2) h t_J13_bitCount_95d88_16 (by decide) ?_
  refine g_lushr h t_J13_bitCount_95d88_17 ?_
  refine g_ldc2 (v := 3689348814741910323) h t_J13_bitCount_95d88_18 cc_j3_316 ?_
  refine g_land h t_J13_bitCount_95d88_21 ?_
  refine g_ladd h t_J13_bitCount_95d88_22 ?_
  refine g_bdJ hD (fun x2 hD => ?_)
  refine g_lstore_n (L' := [(0, .long x2)]) h hn t_J13_bitCount_95d88_23 rfl (by decide) rfl ?_
  refine g_lload_n h 0 t_J13_bitCount_95d88_24 rfl ?_
  refine g_lload_n h 0 t_J13_bitCount_95d88_25 rfl ?_
  refine g_iconst (v := 4) h t_J13_bitCount_95d88_26 (by decide) ?_
  refine g_lushr h t_J13_bitCount_95d88_27 ?_
  refine g_ladd h t_J13_bitCount_95d88_28 ?_
  refine g_ldc2 (v := 1085102592571150095) h t_J13_bitCount_95d88_29 cc_j3_318 ?_
  refine g_land h t_J13_bitCount_95d88_32 ?_
  refine g_bdJ hD (fun x3 hD => ?_)
  refine g_lstore_n (L' := [(0, .long x3)]) h hn t_J13_bitCount_95d88_33 rfl (by decide) rfl ?_
  refine g_lload_n h 0 t_J13_bitCount_95d88_34 rfl ?_
  refine g_lload_n h 0 t_J13_bitCount_95d88_35 rfl ?_
  refine g_bipush (v := 8) h t_J13_bitCount_95d88_36 (by decide) ?_
  refine g_lushr h t_J13_bitCount_95d88_38 ?_
  refine g_ladd h t_J13_bitCount_95d88_39 ?_
  refine g_bdJ hD (fun x4 hD => ?_)
  refine g_lstore_n (L' := [(0, .long x4)]) h hn t_J13_bitCount_95d88_40 rfl (by decide) rfl ?_
  refine g_lload_n h 0 t_J13_bitCount_95d88_41 rfl ?_
  refine g_lload_n h 0 t_J13_bitCount_95d88_42 rfl ?_
  refine g_bipush (v := 16) h t_J13_bitCount_95d88_43 (by decide) ?_
  refine g_lushr h t_J13_bitCount_95d88_45 ?_
  refine g_ladd h t_J13_bitCount_95d88_46 ?_
  refine g_bdJ hD (fun x5 hD => ?_)
  refine g_lstore_n (L' := [(0, .long x5)]) h hn t_J13_bitCount_95d88_47 rfl (by decide) rfl ?_
  refine g_lload_n h 0 t_J13_bitCount_95d88_48 rfl ?_
  refine g_lload_n h 0 t_J13_bitCount_95d88_49 rfl ?_
  refine g_bipush (v := 32) h t_J13_bitCount_95d88_50 (by decide) ?_
  refine g_lushr h t_J13_bitCount_95d88_52 ?_
  refine g_ladd h t_J13_bitCount_95d88_53 ?_
  refine g_bdJ hD (fun x6 hD => ?_)
  refine g_lstore_n (L' := [(0, .long x6)]) h hn t_J13_bitCount_95d88_54 rfl (by decide) rfl ?_
  refine g_lload_n h 0 t_J13_bitCount_95d88_55 rfl ?_
  refine g_l2i h t_J13_bitCount_95d88_56 ?_
  refine g_bipush (v := 127) h t_J13_bitCount_95d88_57 (by decide) ?_
  refine g_iand h t_J13_bitCount_95d88_59 ?_
  obtain rfl := Option.some.inj hD
  exact hR _ _ t_J13_bitCount_95d88_60 rfl
def J_J6_numberOfTrailingZeros_0f7a4_j62_1  : Int32 → Int32 → Wd → Option (Int32 × Wd) := fun x10 x11 w12 =>
  if x10 ≤ 4 then (some (x11 + ((x10.toUInt32 >>> ((1 : Int32).toUInt32 &&& Int32.toUInt32 31)).toInt32), w12)) else (bd (x11 + 2) fun x14 => bd ((x10.toUInt32 >>> ((2 : Int32).toUInt32 &&& Int32.toUInt32 31)).toInt32) fun x15 => some (x14 + ((x15.toUInt32 >>> ((1 : Int32).toUInt32 &&& Int32.toUInt32 31)).toInt32), w12))
def J_J6_numberOfTrailingZeros_0f7a4_j49_2  : Int32 → Int32 → Wd → Option (Int32 × Wd) := fun x6 x7 w8 =>
  bd J_J6_numberOfTrailingZeros_0f7a4_j62_1 fun k13 => if x6 ≤ 16 then (k13 x6 x7 w8) else (bd (x7 + 4) fun x16 => bd ((x6.toUInt32 >>> ((4 : Int32).toUInt32 &&& Int32.toUInt32 31)).toInt32) fun x17 => k13 x17 x16 w8)
def J_J6_numberOfTrailingZeros_0f7a4_j34_3  : Int32 → Int32 → Wd → Option (Int32 × Wd) := fun x2 x3 w4 =>
  bd J_J6_numberOfTrailingZeros_0f7a4_j49_2 fun k9 => if x2 ≤ 256 then (k9 x2 x3 w4) else (bd (x3 + 8) fun x18 => bd ((x2.toUInt32 >>> ((8 : Int32).toUInt32 &&& Int32.toUInt32 31)).toInt32) fun x19 => k9 x19 x18 w4)
def D_J6_numberOfTrailingZeros_0f7a4 (p0 : Int32) : Wd → Option (Int32 × Wd) := fun w =>
  bd ((p0 ^^^ (-1)) &&& (p0 - 1)) fun x1 => if 0 < x1 then (bd J_J6_numberOfTrailingZeros_0f7a4_j34_3 fun k5 => if x1 ≤ 65536 then (k5 x1 1 w) else (bd (1 + 16) fun x20 => bd ((x1.toUInt32 >>> ((16 : Int32).toUInt32 &&& Int32.toUInt32 31)).toInt32) fun x21 => k5 x21 x20 w)) else (some (x1 &&& 32, w))
set_option maxRecDepth 20000 in
theorem S_J6_numberOfTrailingZeros_0f7a4 {l0 : Launch} {ρ : Nat → Nat} {cs : Nat → ClassId} {G : va_G} (hρ : injN ρ) {p0 : Int32} {w : Wd} {rr : (Int32 × Wd)} (hD : D_J6_numberOfTrailingZeros_0f7a4 p0 w = some rr) : CtI l0 ρ cs G y_J6_numberOfTrailingZeros_0f7a4 prog_20_method_48_code 2 .int 0 [.int p0] w rr.1 rr.2 := by
  refine ctI_of hρ (by decide) (Nat.le_of_ble_eq_true rfl) (fun X hn h hR => ?_)
  unfold D_J6_numberOfTrailingZeros_0f7a4 at hD
  show gG ρ cs G X 0 [(0, .int p0)] [] w
  refine g_iload_n h 0 t_J6_numberOfTrailingZeros_0f7a4_0 rfl ?_
  refine g_iconst (v := (-1)) h t_J6_numberOfTrailingZeros_0f7a4_1 (by decide) ?_
  refine g_ixor h t_J6_numberOfTrailingZeros_0f7a4_2 ?_
  refine g_iload_n h 0 t_J6_numberOfTrailingZeros_0f7a4_3 rfl ?_
  refine g_iconst (v := 1) h t_J6_numberOfTrailingZeros_0f7a4_4 (by decide) ?_
  refine g_isub h t_J6_numberOfTrailingZeros_0f7a4_5 ?_
  refine g_iand h t_J6_numberOfTrailingZeros_0f7a4_6 ?_
  refine g_bdI hD (fun x1 hD => ?_)
  refine g_istore_n (L' := [(0, .int x1)]) h hn t_J6_numberOfTrailingZeros_0f7a4_7 rfl (by decide) rfl ?_
  refine g_iload_n h 0 t_J6_numberOfTrailingZeros_0f7a4_8 rfl ?_
  refine g_if_gt (tgt := 17) h t_J6_numberOfTrailingZeros_0f7a4_9 (by decide) hD (fun hD => ?_) (fun hD => ?_)
  · refine g_iconst (v := 1) h t_J6_numberOfTrailingZeros_0f7a4_17 (by decide) ?_
    refine g_istore_n (L' := [(1, .int 1), (0, .int x1)]) h hn t_J6_numberOfTrailingZeros_0f7a4_18 rfl (by decide) rfl ?_
    refine g_iload_n h 1 t_J6_numberOfTrailingZeros_0f7a4_19 rfl ?_
    refine g_ldcw (v := 65536) h t_J6_numberOfTrailingZeros_0f7a4_20 cc_j2_264 ?_
    refine g_join (P := fun k5 => ∀ (x2 : Int32) (x3 : Int32) (w4 : Wd), k5 x2 x3 w4 = some rr → gG ρ cs G X 34 [(0, .int x2), (1, .int x3)] [] w4) hD ?_ (fun k5 hk5 hD => ?_)
    · intro x2 x3 w4 hD
      unfold J_J6_numberOfTrailingZeros_0f7a4_j34_3 at hD
      refine g_iload_n h 0 t_J6_numberOfTrailingZeros_0f7a4_34 rfl ?_
      refine g_sipush (v := 256) h t_J6_numberOfTrailingZeros_0f7a4_35 (by decide) ?_
      refine g_join (P := fun k9 => ∀ (x6 : Int32) (x7 : Int32) (w8 : Wd), k9 x6 x7 w8 = some rr → gG ρ cs G X 49 [(0, .int x6), (1, .int x7)] [] w8) hD ?_ (fun k9 hk9 hD => ?_)
      · intro x6 x7 w8 hD
        unfold J_J6_numberOfTrailingZeros_0f7a4_j49_2 at hD
        refine g_iload_n h 0 t_J6_numberOfTrailingZeros_0f7a4_49 rfl ?_
        refine g_bipush (v := 16) h t_J6_numberOfTrailingZeros_0f7a4_50 (by decide) ?_
        refine g_join (P := fun k13 => ∀ (x10 : Int32) (x11 : Int32) (w12 : Wd), k13 x10 x11 w12 = some rr → gG ρ cs G X 62 [(0, .int x10), (1, .int x11)] [] w12) hD ?_ (fun k13 hk13 hD => ?_)
        · intro x10 x11 w12 hD
          unfold J_J6_numberOfTrailingZeros_0f7a4_j62_1 at hD
          refine g_iload_n h 0 t_J6_numberOfTrailingZeros_0f7a4_62 rfl ?_
          refine g_iconst (v := 4) h t_J6_numberOfTrailingZeros_0f7a4_63 (by decide) ?_
          refine g_icmp_le (tgt := 74) h t_J6_numberOfTrailingZeros_0f7a4_64 (by decide) hD (fun hD => ?_) (fun hD => ?_)
          · refine g_iload_n h 1 t_J6_numberOfTrailingZeros_0f7a4_74 rfl ?_
            refine g_iload_n h 0 t_J6_numberOfTrailingZeros_0f7a4_75 rfl ?_
            refine g_iconst (v := 1) h t_J6_numberOfTrailingZeros_0f7a4_76 (by decide) ?_
            refine g_iushr h t_J6_numberOfTrailingZeros_0f7a4_77 ?_
            refine g_iadd h t_J6_numberOfTrailingZeros_0f7a4_78 ?_
            obtain rfl := Option.some.inj hD
            exact hR _ _ t_J6_numberOfTrailingZeros_0f7a4_79 rfl
          · obtain ⟨x14, ex14, hD⟩ := bd_ex hD
            refine g_iinc (v := x14) (L' := [(1, .int x14), (0, .int x10)]) h hn t_J6_numberOfTrailingZeros_0f7a4_67 (k := 1) rfl (by rw [ex14]; rfl) (by decide) rfl ?_
            refine g_iload_n h 1 t_J6_numberOfTrailingZeros_0f7a4_70 rfl ?_
            refine g_iconst (v := 2) h t_J6_numberOfTrailingZeros_0f7a4_71 (by decide) ?_
            refine g_iushr h t_J6_numberOfTrailingZeros_0f7a4_72 ?_
            refine g_bdI hD (fun x15 hD => ?_)
            refine g_istore_n (L' := [(0, .int x15), (1, .int x14)]) h hn t_J6_numberOfTrailingZeros_0f7a4_73 rfl (by decide) rfl ?_
            refine g_iload_n h 1 t_J6_numberOfTrailingZeros_0f7a4_74 rfl ?_
            refine g_iload_n h 0 t_J6_numberOfTrailingZeros_0f7a4_75 rfl ?_
            refine g_iconst (v := 1) h t_J6_numberOfTrailingZeros_0f7a4_76 (by decide) ?_
            refine g_iushr h t_J6_numberOfTrailingZeros_0f7a4_77 ?_
            refine g_iadd h t_J6_numberOfTrailingZeros_0f7a4_78 ?_
            obtain rfl := Option.some.inj hD
            exact hR _ _ t_J6_numberOfTrailingZeros_0f7a4_79 rfl
        · refine g_icmp_le (tgt := 62) h t_J6_numberOfTrailingZeros_0f7a4_52 (by decide) hD (fun hD => ?_) (fun hD => ?_)
          · refine g_loc (L' := [(0, .int x6), (1, .int x7)]) h [0, 1] rfl ?_
            exact hk13 x6 x7 _ hD
          · obtain ⟨x16, ex16, hD⟩ := bd_ex hD
            refine g_iinc (v := x16) (L' := [(1, .int x16), (0, .int x6)]) h hn t_J6_numberOfTrailingZeros_0f7a4_55 (k := 1) rfl (by rw [ex16]; rfl) (by decide) rfl ?_
            refine g_iload_n h 1 t_J6_numberOfTrailingZeros_0f7a4_58 rfl ?_
            refine g_iconst (v := 4) h t_J6_numberOfTrailingZeros_0f7a4_59 (by decide) ?_
            refine g_iushr h t_J6_numberOfTrailingZeros_0f7a4_60 ?_
            refine g_bdI hD (fun x17 hD => ?_)
            refine g_istore_n (L' := [(0, .int x17), (1, .int x16)]) h hn t_J6_numberOfTrailingZeros_0f7a4_61 rfl (by decide) rfl ?_
            refine g_loc (L' := [(0, .int x17), (1, .int x16)]) h [0, 1] rfl ?_
            exact hk13 x17 x16 _ hD
      · refine g_icmp_le (tgt := 49) h t_J6_numberOfTrailingZeros_0f7a4_38 (by decide) hD (fun hD => ?_) (fun hD => ?_)
        · refine g_loc (L' := [(0, .int x2), (1, .int x3)]) h [0, 1] rfl ?_
          exact hk9 x2 x3 _ hD
        · obtain ⟨x18, ex18, hD⟩ := bd_ex hD
          refine g_iinc (v := x18) (L' := [(1, .int x18), (0, .int x2)]) h hn t_J6_numberOfTrailingZeros_0f7a4_41 (k := 1) rfl (by rw [ex18]; rfl) (by decide) rfl ?_
          refine g_iload_n h 1 t_J6_numberOfTrailingZeros_0f7a4_44 rfl ?_
          refine g_bipush (v := 8) h t_J6_numberOfTrailingZeros_0f7a4_45 (by decide) ?_
          refine g_iushr h t_J6_numberOfTrailingZeros_0f7a4_47 ?_
          refine g_bdI hD (fun x19 hD => ?_)
          refine g_istore_n (L' := [(0, .int x19), (1, .int x18)]) h hn t_J6_numberOfTrailingZeros_0f7a4_48 rfl (by decide) rfl ?_
          refine g_loc (L' := [(0, .int x19), (1, .int x18)]) h [0, 1] rfl ?_
          exact hk9 x19 x18 _ hD
    · refine g_icmp_le (tgt := 34) h t_J6_numberOfTrailingZeros_0f7a4_23 (by decide) hD (fun hD => ?_) (fun hD => ?_)
      · refine g_loc (L' := [(0, .int x1), (1, .int 1)]) h [1, 0] rfl ?_
        exact hk5 x1 1 _ hD
      · obtain ⟨x20, ex20, hD⟩ := bd_ex hD
        refine g_iinc (v := x20) (L' := [(1, .int x20), (0, .int x1)]) h hn t_J6_numberOfTrailingZeros_0f7a4_26 (k := 0) rfl (by rw [ex20]; rfl) (by decide) rfl ?_
        refine g_iload_n h 1 t_J6_numberOfTrailingZeros_0f7a4_29 rfl ?_
        refine g_bipush (v := 16) h t_J6_numberOfTrailingZeros_0f7a4_30 (by decide) ?_
        refine g_iushr h t_J6_numberOfTrailingZeros_0f7a4_32 ?_
        refine g_bdI hD (fun x21 hD => ?_)
        refine g_istore_n (L' := [(0, .int x21), (1, .int x20)]) h hn t_J6_numberOfTrailingZeros_0f7a4_33 rfl (by decide) rfl ?_
        refine g_loc (L' := [(0, .int x21), (1, .int x20)]) h [0, 1] rfl ?_
        exact hk5 x21 x20 _ hD
  · refine g_iload_n h 0 t_J6_numberOfTrailingZeros_0f7a4_12 rfl ?_
    refine g_bipush (v := 32) h t_J6_numberOfTrailingZeros_0f7a4_13 (by decide) ?_
    refine g_iand h t_J6_numberOfTrailingZeros_0f7a4_15 ?_
    obtain rfl := Option.some.inj hD
    exact hR _ _ t_J6_numberOfTrailingZeros_0f7a4_16 rfl
def D_J13_numberOfTrailingZeros_95d88 (p0 : Int64) : Wd → Option (Int32 × Wd) := fun w =>
  bd (p0.toInt32) fun x1 => if x1 = 0 then (bc (D_J6_numberOfTrailingZeros_0f7a4 (((p0.toUInt64 >>> ((32 : Int32).toInt64.toUInt64 &&& Int64.toUInt64 63)).toInt64).toInt32) w) fun x5 w4 => some (32 + x5, w4)) else (bc (D_J6_numberOfTrailingZeros_0f7a4 x1 w) fun x3 w2 => some (x3, w2))
set_option maxRecDepth 20000 in
theorem S_J13_numberOfTrailingZeros_95d88 {l0 : Launch} {ρ : Nat → Nat} {cs : Nat → ClassId} {G : va_G} (hρ : injN ρ) {p0 : Int64} {w : Wd} {rr : (Int32 × Wd)} (hD : D_J13_numberOfTrailingZeros_95d88 p0 w = some rr) : CtI l0 ρ cs G y_J13_numberOfTrailingZeros_95d88 prog_21_method_49_code 3 .int 1 [.long p0] w rr.1 rr.2 := by
  refine ctI_of hρ (by decide) (Nat.le_of_ble_eq_true rfl) (fun X hn h hR => ?_)
  unfold D_J13_numberOfTrailingZeros_95d88 at hD
  show gG ρ cs G X 0 [(0, .long p0)] [] w
  refine g_lload_n h 0 t_J13_numberOfTrailingZeros_95d88_0 rfl ?_
  refine g_l2i h t_J13_numberOfTrailingZeros_95d88_1 ?_
  refine g_bdI hD (fun x1 hD => ?_)
  refine g_istore_n (L' := [(2, .int x1), (0, .long p0)]) h hn t_J13_numberOfTrailingZeros_95d88_2 rfl (by decide) rfl ?_
  refine g_iload_n h 0 t_J13_numberOfTrailingZeros_95d88_3 rfl ?_
  refine g_if_ne (tgt := 21) h t_J13_numberOfTrailingZeros_95d88_4 (by decide) hD (fun hD => ?_) (fun hD => ?_)
  · refine g_iload_n h 0 t_J13_numberOfTrailingZeros_95d88_21 rfl ?_
    refine g_callSI h (As := [.int x1]) (st := []) my_J6_numberOfTrailingZeros_0f7a4 ms_J6_numberOfTrailingZeros_0f7a4 ml_j3_311 rfl rfl (Nat.le_of_ble_eq_true rfl) (by decide) t_J13_numberOfTrailingZeros_95d88_22 hD (fun _ _ e => S_J6_numberOfTrailingZeros_0f7a4 hρ  e) (fun x3 w2 hD => ?_)
    obtain rfl := Option.some.inj hD
    exact hR _ _ t_J13_numberOfTrailingZeros_95d88_25 rfl
  · refine g_bipush (v := 32) h t_J13_numberOfTrailingZeros_95d88_7 (by decide) ?_
    refine g_lload_n h 1 t_J13_numberOfTrailingZeros_95d88_9 rfl ?_
    refine g_bipush (v := 32) h t_J13_numberOfTrailingZeros_95d88_10 (by decide) ?_
    refine g_lushr h t_J13_numberOfTrailingZeros_95d88_12 ?_
    refine g_l2i h t_J13_numberOfTrailingZeros_95d88_13 ?_
    refine g_callSI h (As := [.int (((p0.toUInt64 >>> ((32 : Int32).toInt64.toUInt64 &&& Int64.toUInt64 63)).toInt64).toInt32)]) (st := [.int 32]) my_J6_numberOfTrailingZeros_0f7a4 ms_J6_numberOfTrailingZeros_0f7a4 ml_j3_311 rfl rfl (Nat.le_of_ble_eq_true rfl) (by decide) t_J13_numberOfTrailingZeros_95d88_14 hD (fun _ _ e => S_J6_numberOfTrailingZeros_0f7a4 hρ  e) (fun x5 w4 hD => ?_)
    refine g_iadd h t_J13_numberOfTrailingZeros_95d88_17 ?_
    refine g_goto (tgt := 25) h t_J13_numberOfTrailingZeros_95d88_18 (by decide) ?_
    obtain rfl := Option.some.inj hD
    exact hR _ _ t_J13_numberOfTrailingZeros_95d88_25 rfl
