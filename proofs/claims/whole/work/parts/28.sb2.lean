def y_X11_pitsOfClue : MethodName := ⟨"SowingBoards", "pitsOfClue", "(II)I"⟩
theorem t_X11_pitsOfClue_0 : decode prog_1_method_55_code 0 = .ok (.iconst 0, 1) := by decide +kernel
theorem t_X11_pitsOfClue_1 : decode prog_1_method_55_code 1 = .ok (.istore_n 3, 1) := by decide +kernel
theorem t_X11_pitsOfClue_2 : decode prog_1_method_55_code 2 = .ok (.iconst 0, 1) := by decide +kernel
theorem t_X11_pitsOfClue_3 : decode prog_1_method_55_code 3 = .ok (.istore 4, 2) := by decide +kernel
theorem t_X11_pitsOfClue_5 : decode prog_1_method_55_code 5 = .ok (.iload 4, 2) := by decide +kernel
theorem t_X11_pitsOfClue_7 : decode prog_1_method_55_code 7 = .ok (.aload_n 0, 1) := by decide +kernel
theorem t_X11_pitsOfClue_8 : decode prog_1_method_55_code 8 = .ok (.getfield 10, 3) := by decide +kernel
theorem t_X11_pitsOfClue_11 : decode prog_1_method_55_code 11 = .ok (.invokevirtual 116, 3) := by decide +kernel
theorem t_X11_pitsOfClue_14 : decode prog_1_method_55_code 14 = .ok (.if_icmp .ge 27, 3) := by decide +kernel
theorem t_X11_pitsOfClue_17 : decode prog_1_method_55_code 17 = .ok (.aload_n 0, 1) := by decide +kernel
theorem t_X11_pitsOfClue_18 : decode prog_1_method_55_code 18 = .ok (.iload 4, 2) := by decide +kernel
theorem t_X11_pitsOfClue_20 : decode prog_1_method_55_code 20 = .ok (.iload_n 1, 1) := by decide +kernel
theorem t_X11_pitsOfClue_21 : decode prog_1_method_55_code 21 = .ok (.iload_n 2, 1) := by decide +kernel
theorem t_X11_pitsOfClue_22 : decode prog_1_method_55_code 22 = .ok (.invokevirtual 398, 3) := by decide +kernel
theorem t_X11_pitsOfClue_25 : decode prog_1_method_55_code 25 = .ok (.ifCond .eq 10, 3) := by decide +kernel
theorem t_X11_pitsOfClue_28 : decode prog_1_method_55_code 28 = .ok (.iload_n 3, 1) := by decide +kernel
theorem t_X11_pitsOfClue_29 : decode prog_1_method_55_code 29 = .ok (.iconst 1, 1) := by decide +kernel
theorem t_X11_pitsOfClue_30 : decode prog_1_method_55_code 30 = .ok (.iload 4, 2) := by decide +kernel
theorem t_X11_pitsOfClue_32 : decode prog_1_method_55_code 32 = .ok (.ishl, 1) := by decide +kernel
theorem t_X11_pitsOfClue_33 : decode prog_1_method_55_code 33 = .ok (.ior, 1) := by decide +kernel
theorem t_X11_pitsOfClue_34 : decode prog_1_method_55_code 34 = .ok (.istore_n 3, 1) := by decide +kernel
theorem t_X11_pitsOfClue_35 : decode prog_1_method_55_code 35 = .ok (.iinc 4 1, 3) := by decide +kernel
theorem t_X11_pitsOfClue_38 : decode prog_1_method_55_code 38 = .ok (.goto (-33), 3) := by decide +kernel
theorem t_X11_pitsOfClue_41 : decode prog_1_method_55_code 41 = .ok (.iload_n 3, 1) := by decide +kernel
theorem t_X11_pitsOfClue_42 : decode prog_1_method_55_code 42 = .ok (.ireturn, 1) := by decide +kernel
def y_X11_fittingPits : MethodName := ⟨"SowingBoards", "fittingPits", "()I"⟩
theorem t_X11_fittingPits_0 : decode prog_1_method_54_code 0 = .ok (.iconst 1, 1) := by decide +kernel
theorem t_X11_fittingPits_1 : decode prog_1_method_54_code 1 = .ok (.aload_n 0, 1) := by decide +kernel
theorem t_X11_fittingPits_2 : decode prog_1_method_54_code 2 = .ok (.getfield 10, 3) := by decide +kernel
theorem t_X11_fittingPits_5 : decode prog_1_method_54_code 5 = .ok (.invokevirtual 116, 3) := by decide +kernel
theorem t_X11_fittingPits_8 : decode prog_1_method_54_code 8 = .ok (.ishl, 1) := by decide +kernel
theorem t_X11_fittingPits_9 : decode prog_1_method_54_code 9 = .ok (.iconst 1, 1) := by decide +kernel
theorem t_X11_fittingPits_10 : decode prog_1_method_54_code 10 = .ok (.isub, 1) := by decide +kernel
theorem t_X11_fittingPits_11 : decode prog_1_method_54_code 11 = .ok (.istore_n 1, 1) := by decide +kernel
theorem t_X11_fittingPits_12 : decode prog_1_method_54_code 12 = .ok (.iconst 0, 1) := by decide +kernel
theorem t_X11_fittingPits_13 : decode prog_1_method_54_code 13 = .ok (.istore_n 2, 1) := by decide +kernel
theorem t_X11_fittingPits_14 : decode prog_1_method_54_code 14 = .ok (.iload_n 2, 1) := by decide +kernel
theorem t_X11_fittingPits_15 : decode prog_1_method_54_code 15 = .ok (.aload_n 0, 1) := by decide +kernel
theorem t_X11_fittingPits_16 : decode prog_1_method_54_code 16 = .ok (.getfield 101, 3) := by decide +kernel
theorem t_X11_fittingPits_19 : decode prog_1_method_54_code 19 = .ok (.getfield 383, 3) := by decide +kernel
theorem t_X11_fittingPits_22 : decode prog_1_method_54_code 22 = .ok (.if_icmp .ge 34, 3) := by decide +kernel
theorem t_X11_fittingPits_25 : decode prog_1_method_54_code 25 = .ok (.iload_n 1, 1) := by decide +kernel
theorem t_X11_fittingPits_26 : decode prog_1_method_54_code 26 = .ok (.aload_n 0, 1) := by decide +kernel
theorem t_X11_fittingPits_27 : decode prog_1_method_54_code 27 = .ok (.aload_n 0, 1) := by decide +kernel
theorem t_X11_fittingPits_28 : decode prog_1_method_54_code 28 = .ok (.getfield 101, 3) := by decide +kernel
theorem t_X11_fittingPits_31 : decode prog_1_method_54_code 31 = .ok (.getfield 389, 3) := by decide +kernel
theorem t_X11_fittingPits_34 : decode prog_1_method_54_code 34 = .ok (.iload_n 2, 1) := by decide +kernel
theorem t_X11_fittingPits_35 : decode prog_1_method_54_code 35 = .ok (.iaload, 1) := by decide +kernel
theorem t_X11_fittingPits_36 : decode prog_1_method_54_code 36 = .ok (.aload_n 0, 1) := by decide +kernel
theorem t_X11_fittingPits_37 : decode prog_1_method_54_code 37 = .ok (.getfield 101, 3) := by decide +kernel
theorem t_X11_fittingPits_40 : decode prog_1_method_54_code 40 = .ok (.getfield 392, 3) := by decide +kernel
theorem t_X11_fittingPits_43 : decode prog_1_method_54_code 43 = .ok (.iload_n 2, 1) := by decide +kernel
theorem t_X11_fittingPits_44 : decode prog_1_method_54_code 44 = .ok (.iaload, 1) := by decide +kernel
theorem t_X11_fittingPits_45 : decode prog_1_method_54_code 45 = .ok (.invokevirtual 395, 3) := by decide +kernel
theorem t_X11_fittingPits_48 : decode prog_1_method_54_code 48 = .ok (.iand, 1) := by decide +kernel
theorem t_X11_fittingPits_49 : decode prog_1_method_54_code 49 = .ok (.istore_n 1, 1) := by decide +kernel
theorem t_X11_fittingPits_50 : decode prog_1_method_54_code 50 = .ok (.iinc 2 1, 3) := by decide +kernel
theorem t_X11_fittingPits_53 : decode prog_1_method_54_code 53 = .ok (.goto (-39), 3) := by decide +kernel
theorem t_X11_fittingPits_56 : decode prog_1_method_54_code 56 = .ok (.iload_n 1, 1) := by decide +kernel
theorem t_X11_fittingPits_57 : decode prog_1_method_54_code 57 = .ok (.ireturn, 1) := by decide +kernel
def y_X11_fits : MethodName := ⟨"SowingBoards", "fits", "()I"⟩
theorem t_X11_fits_0 : decode prog_1_method_53_code 0 = .ok (.aload_n 0, 1) := by decide +kernel
theorem t_X11_fits_1 : decode prog_1_method_53_code 1 = .ok (.invokevirtual 386, 3) := by decide +kernel
theorem t_X11_fits_4 : decode prog_1_method_53_code 4 = .ok (.istore_n 1, 1) := by decide +kernel
theorem t_X11_fits_5 : decode prog_1_method_53_code 5 = .ok (.aload_n 0, 1) := by decide +kernel
theorem t_X11_fits_6 : decode prog_1_method_53_code 6 = .ok (.getfield 47, 3) := by decide +kernel
theorem t_X11_fits_9 : decode prog_1_method_53_code 9 = .ok (.iload_n 1, 1) := by decide +kernel
theorem t_X11_fits_10 : decode prog_1_method_53_code 10 = .ok (.invokestatic 168, 3) := by decide +kernel
theorem t_X11_fits_13 : decode prog_1_method_53_code 13 = .ok (.i2l, 1) := by decide +kernel
theorem t_X11_fits_14 : decode prog_1_method_53_code 14 = .ok (.invokevirtual 292, 3) := by decide +kernel
theorem t_X11_fits_17 : decode prog_1_method_53_code 17 = .ok (.iload_n 1, 1) := by decide +kernel
theorem t_X11_fits_18 : decode prog_1_method_53_code 18 = .ok (.ireturn, 1) := by decide +kernel
def y_X11_asks : MethodName := ⟨"SowingBoards", "asks", "()I"⟩
theorem t_X11_asks_0 : decode prog_1_method_57_code 0 = .ok (.aload_n 0, 1) := by decide +kernel
theorem t_X11_asks_1 : decode prog_1_method_57_code 1 = .ok (.invokevirtual 386, 3) := by decide +kernel
theorem t_X11_asks_4 : decode prog_1_method_57_code 4 = .ok (.istore_n 1, 1) := by decide +kernel
theorem t_X11_asks_5 : decode prog_1_method_57_code 5 = .ok (.iload_n 1, 1) := by decide +kernel
theorem t_X11_asks_6 : decode prog_1_method_57_code 6 = .ok (.ifCond .ne 6, 3) := by decide +kernel
theorem t_X11_asks_9 : decode prog_1_method_57_code 9 = .ok (.bipush (-2), 2) := by decide +kernel
theorem t_X11_asks_11 : decode prog_1_method_57_code 11 = .ok (.ireturn, 1) := by decide +kernel
theorem t_X11_asks_12 : decode prog_1_method_57_code 12 = .ok (.aload_n 0, 1) := by decide +kernel
theorem t_X11_asks_13 : decode prog_1_method_57_code 13 = .ok (.getfield 10, 3) := by decide +kernel
theorem t_X11_asks_16 : decode prog_1_method_57_code 16 = .ok (.invokevirtual 116, 3) := by decide +kernel
theorem t_X11_asks_19 : decode prog_1_method_57_code 19 = .ok (.iconst 1, 1) := by decide +kernel
theorem t_X11_asks_20 : decode prog_1_method_57_code 20 = .ok (.iadd, 1) := by decide +kernel
theorem t_X11_asks_21 : decode prog_1_method_57_code 21 = .ok (.istore_n 2, 1) := by decide +kernel
theorem t_X11_asks_22 : decode prog_1_method_57_code 22 = .ok (.iconst 0, 1) := by decide +kernel
theorem t_X11_asks_23 : decode prog_1_method_57_code 23 = .ok (.istore_n 3, 1) := by decide +kernel
theorem t_X11_asks_24 : decode prog_1_method_57_code 24 = .ok (.iconst 0, 1) := by decide +kernel
theorem t_X11_asks_25 : decode prog_1_method_57_code 25 = .ok (.istore 4, 2) := by decide +kernel
theorem t_X11_asks_27 : decode prog_1_method_57_code 27 = .ok (.iload 4, 2) := by decide +kernel
theorem t_X11_asks_29 : decode prog_1_method_57_code 29 = .ok (.getstatic 378, 3) := by decide +kernel
theorem t_X11_asks_32 : decode prog_1_method_57_code 32 = .ok (.arraylength, 1) := by decide +kernel
theorem t_X11_asks_33 : decode prog_1_method_57_code 33 = .ok (.if_icmp .ge 78, 3) := by decide +kernel
theorem t_X11_asks_36 : decode prog_1_method_57_code 36 = .ok (.iconst 0, 1) := by decide +kernel
theorem t_X11_asks_37 : decode prog_1_method_57_code 37 = .ok (.istore 5, 2) := by decide +kernel
theorem t_X11_asks_39 : decode prog_1_method_57_code 39 = .ok (.iload 5, 2) := by decide +kernel
theorem t_X11_asks_41 : decode prog_1_method_57_code 41 = .ok (.getstatic 378, 3) := by decide +kernel
theorem t_X11_asks_44 : decode prog_1_method_57_code 44 = .ok (.iload 4, 2) := by decide +kernel
theorem t_X11_asks_46 : decode prog_1_method_57_code 46 = .ok (.iaload, 1) := by decide +kernel
theorem t_X11_asks_47 : decode prog_1_method_57_code 47 = .ok (.if_icmp .gt 58, 3) := by decide +kernel
theorem t_X11_asks_50 : decode prog_1_method_57_code 50 = .ok (.aload_n 0, 1) := by decide +kernel
theorem t_X11_asks_51 : decode prog_1_method_57_code 51 = .ok (.iload 4, 2) := by decide +kernel
theorem t_X11_asks_53 : decode prog_1_method_57_code 53 = .ok (.iload 5, 2) := by decide +kernel
theorem t_X11_asks_55 : decode prog_1_method_57_code 55 = .ok (.invokevirtual 395, 3) := by decide +kernel
theorem t_X11_asks_58 : decode prog_1_method_57_code 58 = .ok (.istore 6, 2) := by decide +kernel
theorem t_X11_asks_60 : decode prog_1_method_57_code 60 = .ok (.iload_n 1, 1) := by decide +kernel
theorem t_X11_asks_61 : decode prog_1_method_57_code 61 = .ok (.iload 6, 2) := by decide +kernel
theorem t_X11_asks_63 : decode prog_1_method_57_code 63 = .ok (.iand, 1) := by decide +kernel
theorem t_X11_asks_64 : decode prog_1_method_57_code 64 = .ok (.invokestatic 168, 3) := by decide +kernel
theorem t_X11_asks_67 : decode prog_1_method_57_code 67 = .ok (.iload_n 1, 1) := by decide +kernel
theorem t_X11_asks_68 : decode prog_1_method_57_code 68 = .ok (.iload 6, 2) := by decide +kernel
theorem t_X11_asks_70 : decode prog_1_method_57_code 70 = .ok (.iconst (-1), 1) := by decide +kernel
theorem t_X11_asks_71 : decode prog_1_method_57_code 71 = .ok (.ixor, 1) := by decide +kernel
theorem t_X11_asks_72 : decode prog_1_method_57_code 72 = .ok (.iand, 1) := by decide +kernel
theorem t_X11_asks_73 : decode prog_1_method_57_code 73 = .ok (.invokestatic 168, 3) := by decide +kernel
theorem t_X11_asks_76 : decode prog_1_method_57_code 76 = .ok (.invokestatic 215, 3) := by decide +kernel
theorem t_X11_asks_79 : decode prog_1_method_57_code 79 = .ok (.istore 7, 2) := by decide +kernel
theorem t_X11_asks_81 : decode prog_1_method_57_code 81 = .ok (.iload 7, 2) := by decide +kernel
theorem t_X11_asks_83 : decode prog_1_method_57_code 83 = .ok (.iload_n 2, 1) := by decide +kernel
theorem t_X11_asks_84 : decode prog_1_method_57_code 84 = .ok (.if_icmp .ge 15, 3) := by decide +kernel
theorem t_X11_asks_87 : decode prog_1_method_57_code 87 = .ok (.iload 7, 2) := by decide +kernel
theorem t_X11_asks_89 : decode prog_1_method_57_code 89 = .ok (.istore_n 2, 1) := by decide +kernel
theorem t_X11_asks_90 : decode prog_1_method_57_code 90 = .ok (.bipush 10, 2) := by decide +kernel
theorem t_X11_asks_92 : decode prog_1_method_57_code 92 = .ok (.iload 4, 2) := by decide +kernel
theorem t_X11_asks_94 : decode prog_1_method_57_code 94 = .ok (.imul, 1) := by decide +kernel
theorem t_X11_asks_95 : decode prog_1_method_57_code 95 = .ok (.iload 5, 2) := by decide +kernel
theorem t_X11_asks_97 : decode prog_1_method_57_code 97 = .ok (.iadd, 1) := by decide +kernel
theorem t_X11_asks_98 : decode prog_1_method_57_code 98 = .ok (.istore_n 3, 1) := by decide +kernel
theorem t_X11_asks_99 : decode prog_1_method_57_code 99 = .ok (.iinc 5 1, 3) := by decide +kernel
theorem t_X11_asks_102 : decode prog_1_method_57_code 102 = .ok (.goto (-63), 3) := by decide +kernel
theorem t_X11_asks_105 : decode prog_1_method_57_code 105 = .ok (.iinc 4 1, 3) := by decide +kernel
theorem t_X11_asks_108 : decode prog_1_method_57_code 108 = .ok (.goto (-81), 3) := by decide +kernel
theorem t_X11_asks_111 : decode prog_1_method_57_code 111 = .ok (.aload_n 0, 1) := by decide +kernel
theorem t_X11_asks_112 : decode prog_1_method_57_code 112 = .ok (.getfield 47, 3) := by decide +kernel
theorem t_X11_asks_115 : decode prog_1_method_57_code 115 = .ok (.iload_n 2, 1) := by decide +kernel
theorem t_X11_asks_116 : decode prog_1_method_57_code 116 = .ok (.i2l, 1) := by decide +kernel
theorem t_X11_asks_117 : decode prog_1_method_57_code 117 = .ok (.invokevirtual 292, 3) := by decide +kernel
theorem t_X11_asks_120 : decode prog_1_method_57_code 120 = .ok (.iload_n 3, 1) := by decide +kernel
theorem t_X11_asks_121 : decode prog_1_method_57_code 121 = .ok (.ireturn, 1) := by decide +kernel
def y_X11_saw : MethodName := ⟨"SowingBoards", "saw", "(II)I"⟩
theorem t_X11_saw_0 : decode prog_1_method_58_code 0 = .ok (.iload_n 2, 1) := by decide +kernel
theorem t_X11_saw_1 : decode prog_1_method_58_code 1 = .ok (.ifCond .lt 9, 3) := by decide +kernel
theorem t_X11_saw_4 : decode prog_1_method_58_code 4 = .ok (.iload_n 2, 1) := by decide +kernel
theorem t_X11_saw_5 : decode prog_1_method_58_code 5 = .ok (.bipush 12, 2) := by decide +kernel
theorem t_X11_saw_7 : decode prog_1_method_58_code 7 = .ok (.if_icmp .lt 9, 3) := by decide +kernel
theorem t_X11_saw_10 : decode prog_1_method_58_code 10 = .ok (.iload_n 2, 1) := by decide +kernel
theorem t_X11_saw_11 : decode prog_1_method_58_code 11 = .ok (.bipush 50, 2) := by decide +kernel
theorem t_X11_saw_13 : decode prog_1_method_58_code 13 = .ok (.if_icmp .ne 7, 3) := by decide +kernel
theorem t_X11_saw_16 : decode prog_1_method_58_code 16 = .ok (.iconst 1, 1) := by decide +kernel
theorem t_X11_saw_17 : decode prog_1_method_58_code 17 = .ok (.goto 4, 3) := by decide +kernel
theorem t_X11_saw_20 : decode prog_1_method_58_code 20 = .ok (.iconst 0, 1) := by decide +kernel
theorem t_X11_saw_21 : decode prog_1_method_58_code 21 = .ok (.istore_n 3, 1) := by decide +kernel
theorem t_X11_saw_22 : decode prog_1_method_58_code 22 = .ok (.iload_n 1, 1) := by decide +kernel
theorem t_X11_saw_23 : decode prog_1_method_58_code 23 = .ok (.ifCond .lt 13, 3) := by decide +kernel
theorem t_X11_saw_26 : decode prog_1_method_58_code 26 = .ok (.iload_n 1, 1) := by decide +kernel
theorem t_X11_saw_27 : decode prog_1_method_58_code 27 = .ok (.bipush 6, 2) := by decide +kernel
theorem t_X11_saw_29 : decode prog_1_method_58_code 29 = .ok (.if_icmp .ge 7, 3) := by decide +kernel
theorem t_X11_saw_32 : decode prog_1_method_58_code 32 = .ok (.iload_n 3, 1) := by decide +kernel
theorem t_X11_saw_33 : decode prog_1_method_58_code 33 = .ok (.ifCond .ne 5, 3) := by decide +kernel
theorem t_X11_saw_36 : decode prog_1_method_58_code 36 = .ok (.iconst (-1), 1) := by decide +kernel
theorem t_X11_saw_37 : decode prog_1_method_58_code 37 = .ok (.ireturn, 1) := by decide +kernel
theorem t_X11_saw_38 : decode prog_1_method_58_code 38 = .ok (.aload_n 0, 1) := by decide +kernel
theorem t_X11_saw_39 : decode prog_1_method_58_code 39 = .ok (.getfield 105, 3) := by decide +kernel
theorem t_X11_saw_42 : decode prog_1_method_58_code 42 = .ok (.iload_n 1, 1) := by decide +kernel
theorem t_X11_saw_43 : decode prog_1_method_58_code 43 = .ok (.iload_n 2, 1) := by decide +kernel
theorem t_X11_saw_44 : decode prog_1_method_58_code 44 = .ok (.invokevirtual 381, 3) := by decide +kernel
theorem t_X11_saw_47 : decode prog_1_method_58_code 47 = .ok (.ifCond .eq 13, 3) := by decide +kernel
theorem t_X11_saw_50 : decode prog_1_method_58_code 50 = .ok (.aload_n 0, 1) := by decide +kernel
theorem t_X11_saw_51 : decode prog_1_method_58_code 51 = .ok (.getfield 105, 3) := by decide +kernel
theorem t_X11_saw_54 : decode prog_1_method_58_code 54 = .ok (.getfield 383, 3) := by decide +kernel
theorem t_X11_saw_57 : decode prog_1_method_58_code 57 = .ok (.goto 4, 3) := by decide +kernel
theorem t_X11_saw_60 : decode prog_1_method_58_code 60 = .ok (.iconst (-1), 1) := by decide +kernel
theorem t_X11_saw_61 : decode prog_1_method_58_code 61 = .ok (.ireturn, 1) := by decide +kernel
def y_X11_denies : MethodName := ⟨"SowingBoards", "denies", "()I"⟩
theorem t_X11_denies_0 : decode prog_1_method_59_code 0 = .ok (.aload_n 0, 1) := by decide +kernel
theorem t_X11_denies_1 : decode prog_1_method_59_code 1 = .ok (.getfield 105, 3) := by decide +kernel
theorem t_X11_denies_4 : decode prog_1_method_59_code 4 = .ok (.invokevirtual 384, 3) := by decide +kernel
theorem t_X11_denies_7 : decode prog_1_method_59_code 7 = .ok (.ireturn, 1) := by decide +kernel
def y_X11_explains : MethodName := ⟨"SowingBoards", "explains", "(I)Z"⟩
theorem t_X11_explains_0 : decode prog_1_method_62_code 0 = .ok (.iconst 0, 1) := by decide +kernel
theorem t_X11_explains_1 : decode prog_1_method_62_code 1 = .ok (.istore_n 2, 1) := by decide +kernel
theorem t_X11_explains_2 : decode prog_1_method_62_code 2 = .ok (.iload_n 2, 1) := by decide +kernel
theorem t_X11_explains_3 : decode prog_1_method_62_code 3 = .ok (.aload_n 0, 1) := by decide +kernel
theorem t_X11_explains_4 : decode prog_1_method_62_code 4 = .ok (.getfield 105, 3) := by decide +kernel
theorem t_X11_explains_7 : decode prog_1_method_62_code 7 = .ok (.getfield 383, 3) := by decide +kernel
theorem t_X11_explains_10 : decode prog_1_method_62_code 10 = .ok (.if_icmp .ge 49, 3) := by decide +kernel
theorem t_X11_explains_13 : decode prog_1_method_62_code 13 = .ok (.aload_n 0, 1) := by decide +kernel
theorem t_X11_explains_14 : decode prog_1_method_62_code 14 = .ok (.aload_n 0, 1) := by decide +kernel
theorem t_X11_explains_15 : decode prog_1_method_62_code 15 = .ok (.getfield 105, 3) := by decide +kernel
theorem t_X11_explains_18 : decode prog_1_method_62_code 18 = .ok (.getfield 389, 3) := by decide +kernel
theorem t_X11_explains_21 : decode prog_1_method_62_code 21 = .ok (.iload_n 2, 1) := by decide +kernel
theorem t_X11_explains_22 : decode prog_1_method_62_code 22 = .ok (.iaload, 1) := by decide +kernel
theorem t_X11_explains_23 : decode prog_1_method_62_code 23 = .ok (.iload_n 1, 1) := by decide +kernel
theorem t_X11_explains_24 : decode prog_1_method_62_code 24 = .ok (.invokevirtual 284, 3) := by decide +kernel
theorem t_X11_explains_27 : decode prog_1_method_62_code 27 = .ok (.istore_n 3, 1) := by decide +kernel
theorem t_X11_explains_28 : decode prog_1_method_62_code 28 = .ok (.iload_n 3, 1) := by decide +kernel
theorem t_X11_explains_29 : decode prog_1_method_62_code 29 = .ok (.ifCond .eq 22, 3) := by decide +kernel
theorem t_X11_explains_32 : decode prog_1_method_62_code 32 = .ok (.aload_n 0, 1) := by decide +kernel
theorem t_X11_explains_33 : decode prog_1_method_62_code 33 = .ok (.getfield 54, 3) := by decide +kernel
theorem t_X11_explains_36 : decode prog_1_method_62_code 36 = .ok (.getfield 232, 3) := by decide +kernel
theorem t_X11_explains_39 : decode prog_1_method_62_code 39 = .ok (.aload_n 0, 1) := by decide +kernel
theorem t_X11_explains_40 : decode prog_1_method_62_code 40 = .ok (.getfield 105, 3) := by decide +kernel
theorem t_X11_explains_43 : decode prog_1_method_62_code 43 = .ok (.getfield 392, 3) := by decide +kernel
theorem t_X11_explains_46 : decode prog_1_method_62_code 46 = .ok (.iload_n 2, 1) := by decide +kernel
theorem t_X11_explains_47 : decode prog_1_method_62_code 47 = .ok (.iaload, 1) := by decide +kernel
theorem t_X11_explains_48 : decode prog_1_method_62_code 48 = .ok (.if_icmp .eq 5, 3) := by decide +kernel
theorem t_X11_explains_51 : decode prog_1_method_62_code 51 = .ok (.iconst 0, 1) := by decide +kernel
theorem t_X11_explains_52 : decode prog_1_method_62_code 52 = .ok (.ireturn, 1) := by decide +kernel
theorem t_X11_explains_53 : decode prog_1_method_62_code 53 = .ok (.iinc 2 1, 3) := by decide +kernel
theorem t_X11_explains_56 : decode prog_1_method_62_code 56 = .ok (.goto (-54), 3) := by decide +kernel
theorem t_X11_explains_59 : decode prog_1_method_62_code 59 = .ok (.iconst 1, 1) := by decide +kernel
theorem t_X11_explains_60 : decode prog_1_method_62_code 60 = .ok (.ireturn, 1) := by decide +kernel
def y_X11_setsLeft : MethodName := ⟨"SowingBoards", "setsLeft", "()J"⟩
theorem t_X11_setsLeft_0 : decode prog_1_method_61_code 0 = .ok (.lconst 0, 1) := by decide +kernel
theorem t_X11_setsLeft_1 : decode prog_1_method_61_code 1 = .ok (.lstore_n 1, 1) := by decide +kernel
theorem t_X11_setsLeft_2 : decode prog_1_method_61_code 2 = .ok (.iconst 0, 1) := by decide +kernel
theorem t_X11_setsLeft_3 : decode prog_1_method_61_code 3 = .ok (.istore_n 3, 1) := by decide +kernel
theorem t_X11_setsLeft_4 : decode prog_1_method_61_code 4 = .ok (.iload_n 3, 1) := by decide +kernel
theorem t_X11_setsLeft_5 : decode prog_1_method_61_code 5 = .ok (.bipush 64, 2) := by decide +kernel
theorem t_X11_setsLeft_7 : decode prog_1_method_61_code 7 = .ok (.if_icmp .ge 23, 3) := by decide +kernel
theorem t_X11_setsLeft_10 : decode prog_1_method_61_code 10 = .ok (.aload_n 0, 1) := by decide +kernel
theorem t_X11_setsLeft_11 : decode prog_1_method_61_code 11 = .ok (.iload_n 3, 1) := by decide +kernel
theorem t_X11_setsLeft_12 : decode prog_1_method_61_code 12 = .ok (.invokevirtual 419, 3) := by decide +kernel
theorem t_X11_setsLeft_15 : decode prog_1_method_61_code 15 = .ok (.ifCond .eq 9, 3) := by decide +kernel
theorem t_X11_setsLeft_18 : decode prog_1_method_61_code 18 = .ok (.lload_n 1, 1) := by decide +kernel
theorem t_X11_setsLeft_19 : decode prog_1_method_61_code 19 = .ok (.lconst 1, 1) := by decide +kernel
theorem t_X11_setsLeft_20 : decode prog_1_method_61_code 20 = .ok (.iload_n 3, 1) := by decide +kernel
theorem t_X11_setsLeft_21 : decode prog_1_method_61_code 21 = .ok (.lshl, 1) := by decide +kernel
theorem t_X11_setsLeft_22 : decode prog_1_method_61_code 22 = .ok (.lor, 1) := by decide +kernel
theorem t_X11_setsLeft_23 : decode prog_1_method_61_code 23 = .ok (.lstore_n 1, 1) := by decide +kernel
theorem t_X11_setsLeft_24 : decode prog_1_method_61_code 24 = .ok (.iinc 3 1, 3) := by decide +kernel
theorem t_X11_setsLeft_27 : decode prog_1_method_61_code 27 = .ok (.goto (-23), 3) := by decide +kernel
theorem t_X11_setsLeft_30 : decode prog_1_method_61_code 30 = .ok (.lload_n 1, 1) := by decide +kernel
theorem t_X11_setsLeft_31 : decode prog_1_method_61_code 31 = .ok (.lreturn, 1) := by decide +kernel
def y_X11_guess : MethodName := ⟨"SowingBoards", "guess", "()I"⟩
theorem t_X11_guess_0 : decode prog_1_method_60_code 0 = .ok (.aload_n 0, 1) := by decide +kernel
theorem t_X11_guess_1 : decode prog_1_method_60_code 1 = .ok (.invokevirtual 408, 3) := by decide +kernel
theorem t_X11_guess_4 : decode prog_1_method_60_code 4 = .ok (.lstore_n 1, 1) := by decide +kernel
theorem t_X11_guess_5 : decode prog_1_method_60_code 5 = .ok (.aload_n 0, 1) := by decide +kernel
theorem t_X11_guess_6 : decode prog_1_method_60_code 6 = .ok (.getfield 47, 3) := by decide +kernel
theorem t_X11_guess_9 : decode prog_1_method_60_code 9 = .ok (.invokevirtual 321, 3) := by decide +kernel
theorem t_X11_guess_12 : decode prog_1_method_60_code 12 = .ok (.lload_n 1, 1) := by decide +kernel
theorem t_X11_guess_13 : decode prog_1_method_60_code 13 = .ok (.lconst 0, 1) := by decide +kernel
theorem t_X11_guess_14 : decode prog_1_method_60_code 14 = .ok (.lcmp, 1) := by decide +kernel
theorem t_X11_guess_15 : decode prog_1_method_60_code 15 = .ok (.ifCond .ne 5, 3) := by decide +kernel
theorem t_X11_guess_18 : decode prog_1_method_60_code 18 = .ok (.iconst 0, 1) := by decide +kernel
theorem t_X11_guess_19 : decode prog_1_method_60_code 19 = .ok (.ireturn, 1) := by decide +kernel
theorem t_X11_guess_20 : decode prog_1_method_60_code 20 = .ok (.bipush 63, 2) := by decide +kernel
theorem t_X11_guess_22 : decode prog_1_method_60_code 22 = .ok (.istore_n 3, 1) := by decide +kernel
theorem t_X11_guess_23 : decode prog_1_method_60_code 23 = .ok (.iconst 0, 1) := by decide +kernel
theorem t_X11_guess_24 : decode prog_1_method_60_code 24 = .ok (.istore 4, 2) := by decide +kernel
theorem t_X11_guess_26 : decode prog_1_method_60_code 26 = .ok (.iload 4, 2) := by decide +kernel
theorem t_X11_guess_28 : decode prog_1_method_60_code 28 = .ok (.bipush 64, 2) := by decide +kernel
theorem t_X11_guess_30 : decode prog_1_method_60_code 30 = .ok (.if_icmp .ge 25, 3) := by decide +kernel
theorem t_X11_guess_33 : decode prog_1_method_60_code 33 = .ok (.lload_n 1, 1) := by decide +kernel
theorem t_X11_guess_34 : decode prog_1_method_60_code 34 = .ok (.iload 4, 2) := by decide +kernel
theorem t_X11_guess_36 : decode prog_1_method_60_code 36 = .ok (.lshr, 1) := by decide +kernel
theorem t_X11_guess_37 : decode prog_1_method_60_code 37 = .ok (.lconst 1, 1) := by decide +kernel
theorem t_X11_guess_38 : decode prog_1_method_60_code 38 = .ok (.land, 1) := by decide +kernel
theorem t_X11_guess_39 : decode prog_1_method_60_code 39 = .ok (.lconst 0, 1) := by decide +kernel
theorem t_X11_guess_40 : decode prog_1_method_60_code 40 = .ok (.lcmp, 1) := by decide +kernel
theorem t_X11_guess_41 : decode prog_1_method_60_code 41 = .ok (.ifCond .eq 8, 3) := by decide +kernel
theorem t_X11_guess_44 : decode prog_1_method_60_code 44 = .ok (.iload_n 3, 1) := by decide +kernel
theorem t_X11_guess_45 : decode prog_1_method_60_code 45 = .ok (.iload 4, 2) := by decide +kernel
theorem t_X11_guess_47 : decode prog_1_method_60_code 47 = .ok (.iand, 1) := by decide +kernel
theorem t_X11_guess_48 : decode prog_1_method_60_code 48 = .ok (.istore_n 3, 1) := by decide +kernel
theorem t_X11_guess_49 : decode prog_1_method_60_code 49 = .ok (.iinc 4 1, 3) := by decide +kernel
theorem t_X11_guess_52 : decode prog_1_method_60_code 52 = .ok (.goto (-26), 3) := by decide +kernel
theorem t_X11_guess_55 : decode prog_1_method_60_code 55 = .ok (.aload_n 0, 1) := by decide +kernel
theorem t_X11_guess_56 : decode prog_1_method_60_code 56 = .ok (.getfield 47, 3) := by decide +kernel
theorem t_X11_guess_59 : decode prog_1_method_60_code 59 = .ok (.lload_n 1, 1) := by decide +kernel
theorem t_X11_guess_60 : decode prog_1_method_60_code 60 = .ok (.invokestatic 411, 3) := by decide +kernel
theorem t_X11_guess_63 : decode prog_1_method_60_code 63 = .ok (.i2l, 1) := by decide +kernel
theorem t_X11_guess_64 : decode prog_1_method_60_code 64 = .ok (.iload_n 3, 1) := by decide +kernel
theorem t_X11_guess_65 : decode prog_1_method_60_code 65 = .ok (.i2l, 1) := by decide +kernel
theorem t_X11_guess_66 : decode prog_1_method_60_code 66 = .ok (.invokevirtual 253, 3) := by decide +kernel
theorem t_X11_guess_69 : decode prog_1_method_60_code 69 = .ok (.lload_n 1, 1) := by decide +kernel
theorem t_X11_guess_70 : decode prog_1_method_60_code 70 = .ok (.invokestatic 417, 3) := by decide +kernel
theorem t_X11_guess_73 : decode prog_1_method_60_code 73 = .ok (.ireturn, 1) := by decide +kernel
def y_X11_mostLeftBy : MethodName := ⟨"SowingBoards", "mostLeftBy", "(IJ)I"⟩
theorem t_X11_mostLeftBy_0 : decode prog_1_method_64_code 0 = .ok (.aload_n 0, 1) := by decide +kernel
theorem t_X11_mostLeftBy_1 : decode prog_1_method_64_code 1 = .ok (.invokevirtual 363, 3) := by decide +kernel
theorem t_X11_mostLeftBy_4 : decode prog_1_method_64_code 4 = .ok (.iconst 0, 1) := by decide +kernel
theorem t_X11_mostLeftBy_5 : decode prog_1_method_64_code 5 = .ok (.istore 4, 2) := by decide +kernel
theorem t_X11_mostLeftBy_7 : decode prog_1_method_64_code 7 = .ok (.iconst 0, 1) := by decide +kernel
theorem t_X11_mostLeftBy_8 : decode prog_1_method_64_code 8 = .ok (.istore 5, 2) := by decide +kernel
theorem t_X11_mostLeftBy_10 : decode prog_1_method_64_code 10 = .ok (.iload 5, 2) := by decide +kernel
theorem t_X11_mostLeftBy_12 : decode prog_1_method_64_code 12 = .ok (.bipush 64, 2) := by decide +kernel
theorem t_X11_mostLeftBy_14 : decode prog_1_method_64_code 14 = .ok (.if_icmp .ge 69, 3) := by decide +kernel
theorem t_X11_mostLeftBy_17 : decode prog_1_method_64_code 17 = .ok (.lload_n 2, 1) := by decide +kernel
theorem t_X11_mostLeftBy_18 : decode prog_1_method_64_code 18 = .ok (.iload 5, 2) := by decide +kernel
theorem t_X11_mostLeftBy_20 : decode prog_1_method_64_code 20 = .ok (.lshr, 1) := by decide +kernel
theorem t_X11_mostLeftBy_21 : decode prog_1_method_64_code 21 = .ok (.lconst 1, 1) := by decide +kernel
theorem t_X11_mostLeftBy_22 : decode prog_1_method_64_code 22 = .ok (.land, 1) := by decide +kernel
theorem t_X11_mostLeftBy_23 : decode prog_1_method_64_code 23 = .ok (.lconst 0, 1) := by decide +kernel
theorem t_X11_mostLeftBy_24 : decode prog_1_method_64_code 24 = .ok (.lcmp, 1) := by decide +kernel
theorem t_X11_mostLeftBy_25 : decode prog_1_method_64_code 25 = .ok (.ifCond .eq 52, 3) := by decide +kernel
theorem t_X11_mostLeftBy_28 : decode prog_1_method_64_code 28 = .ok (.aload_n 0, 1) := by decide +kernel
theorem t_X11_mostLeftBy_29 : decode prog_1_method_64_code 29 = .ok (.iload_n 1, 1) := by decide +kernel
theorem t_X11_mostLeftBy_30 : decode prog_1_method_64_code 30 = .ok (.iload 5, 2) := by decide +kernel
theorem t_X11_mostLeftBy_32 : decode prog_1_method_64_code 32 = .ok (.invokevirtual 284, 3) := by decide +kernel
theorem t_X11_mostLeftBy_35 : decode prog_1_method_64_code 35 = .ok (.ifCond .eq 42, 3) := by decide +kernel
theorem t_X11_mostLeftBy_38 : decode prog_1_method_64_code 38 = .ok (.aload_n 0, 1) := by decide +kernel
theorem t_X11_mostLeftBy_39 : decode prog_1_method_64_code 39 = .ok (.getfield 54, 3) := by decide +kernel
theorem t_X11_mostLeftBy_42 : decode prog_1_method_64_code 42 = .ok (.getfield 232, 3) := by decide +kernel
theorem t_X11_mostLeftBy_45 : decode prog_1_method_64_code 45 = .ok (.bipush 12, 2) := by decide +kernel
theorem t_X11_mostLeftBy_47 : decode prog_1_method_64_code 47 = .ok (.invokestatic 210, 3) := by decide +kernel
theorem t_X11_mostLeftBy_50 : decode prog_1_method_64_code 50 = .ok (.istore 6, 2) := by decide +kernel
theorem t_X11_mostLeftBy_52 : decode prog_1_method_64_code 52 = .ok (.aload_n 0, 1) := by decide +kernel
theorem t_X11_mostLeftBy_53 : decode prog_1_method_64_code 53 = .ok (.getfield 108, 3) := by decide +kernel
theorem t_X11_mostLeftBy_56 : decode prog_1_method_64_code 56 = .ok (.iload 6, 2) := by decide +kernel
theorem t_X11_mostLeftBy_58 : decode prog_1_method_64_code 58 = .ok (.dup2, 1) := by decide +kernel
theorem t_X11_mostLeftBy_59 : decode prog_1_method_64_code 59 = .ok (.iaload, 1) := by decide +kernel
theorem t_X11_mostLeftBy_60 : decode prog_1_method_64_code 60 = .ok (.iconst 1, 1) := by decide +kernel
theorem t_X11_mostLeftBy_61 : decode prog_1_method_64_code 61 = .ok (.iadd, 1) := by decide +kernel
theorem t_X11_mostLeftBy_62 : decode prog_1_method_64_code 62 = .ok (.iastore, 1) := by decide +kernel
theorem t_X11_mostLeftBy_63 : decode prog_1_method_64_code 63 = .ok (.iload 4, 2) := by decide +kernel
theorem t_X11_mostLeftBy_65 : decode prog_1_method_64_code 65 = .ok (.aload_n 0, 1) := by decide +kernel
theorem t_X11_mostLeftBy_66 : decode prog_1_method_64_code 66 = .ok (.getfield 108, 3) := by decide +kernel
theorem t_X11_mostLeftBy_69 : decode prog_1_method_64_code 69 = .ok (.iload 6, 2) := by decide +kernel
theorem t_X11_mostLeftBy_71 : decode prog_1_method_64_code 71 = .ok (.iaload, 1) := by decide +kernel
theorem t_X11_mostLeftBy_72 : decode prog_1_method_64_code 72 = .ok (.invokestatic 215, 3) := by decide +kernel
theorem t_X11_mostLeftBy_75 : decode prog_1_method_64_code 75 = .ok (.istore 4, 2) := by decide +kernel
theorem t_X11_mostLeftBy_77 : decode prog_1_method_64_code 77 = .ok (.iinc 5 1, 3) := by decide +kernel
theorem t_X11_mostLeftBy_80 : decode prog_1_method_64_code 80 = .ok (.goto (-70), 3) := by decide +kernel
theorem t_X11_mostLeftBy_83 : decode prog_1_method_64_code 83 = .ok (.iload 4, 2) := by decide +kernel
theorem t_X11_mostLeftBy_85 : decode prog_1_method_64_code 85 = .ok (.ireturn, 1) := by decide +kernel
def y_X11_tries : MethodName := ⟨"SowingBoards", "tries", "()I"⟩
theorem t_X11_tries_0 : decode prog_1_method_63_code 0 = .ok (.aload_n 0, 1) := by decide +kernel
theorem t_X11_tries_1 : decode prog_1_method_63_code 1 = .ok (.invokevirtual 408, 3) := by decide +kernel
theorem t_X11_tries_4 : decode prog_1_method_63_code 4 = .ok (.lstore_n 1, 1) := by decide +kernel
theorem t_X11_tries_5 : decode prog_1_method_63_code 5 = .ok (.lload_n 1, 1) := by decide +kernel
theorem t_X11_tries_6 : decode prog_1_method_63_code 6 = .ok (.lconst 0, 1) := by decide +kernel
theorem t_X11_tries_7 : decode prog_1_method_63_code 7 = .ok (.lcmp, 1) := by decide +kernel
theorem t_X11_tries_8 : decode prog_1_method_63_code 8 = .ok (.ifCond .eq 13, 3) := by decide +kernel
theorem t_X11_tries_11 : decode prog_1_method_63_code 11 = .ok (.aload_n 0, 1) := by decide +kernel
theorem t_X11_tries_12 : decode prog_1_method_63_code 12 = .ok (.getfield 10, 3) := by decide +kernel
theorem t_X11_tries_15 : decode prog_1_method_63_code 15 = .ok (.invokevirtual 245, 3) := by decide +kernel
theorem t_X11_tries_18 : decode prog_1_method_63_code 18 = .ok (.ifCond .eq 6, 3) := by decide +kernel
theorem t_X11_tries_21 : decode prog_1_method_63_code 21 = .ok (.bipush (-2), 2) := by decide +kernel
theorem t_X11_tries_23 : decode prog_1_method_63_code 23 = .ok (.ireturn, 1) := by decide +kernel
theorem t_X11_tries_24 : decode prog_1_method_63_code 24 = .ok (.bipush 65, 2) := by decide +kernel
theorem t_X11_tries_26 : decode prog_1_method_63_code 26 = .ok (.istore_n 3, 1) := by decide +kernel
theorem t_X11_tries_27 : decode prog_1_method_63_code 27 = .ok (.iconst 0, 1) := by decide +kernel
theorem t_X11_tries_28 : decode prog_1_method_63_code 28 = .ok (.istore 4, 2) := by decide +kernel
theorem t_X11_tries_30 : decode prog_1_method_63_code 30 = .ok (.iconst 0, 1) := by decide +kernel
theorem t_X11_tries_31 : decode prog_1_method_63_code 31 = .ok (.istore 5, 2) := by decide +kernel
theorem t_X11_tries_33 : decode prog_1_method_63_code 33 = .ok (.iload 5, 2) := by decide +kernel
theorem t_X11_tries_35 : decode prog_1_method_63_code 35 = .ok (.aload_n 0, 1) := by decide +kernel
theorem t_X11_tries_36 : decode prog_1_method_63_code 36 = .ok (.getfield 10, 3) := by decide +kernel
theorem t_X11_tries_39 : decode prog_1_method_63_code 39 = .ok (.getfield 152, 3) := by decide +kernel
theorem t_X11_tries_42 : decode prog_1_method_63_code 42 = .ok (.if_icmp .ge 52, 3) := by decide +kernel
theorem t_X11_tries_45 : decode prog_1_method_63_code 45 = .ok (.aload_n 0, 1) := by decide +kernel
theorem t_X11_tries_46 : decode prog_1_method_63_code 46 = .ok (.getfield 10, 3) := by decide +kernel
theorem t_X11_tries_49 : decode prog_1_method_63_code 49 = .ok (.iload 5, 2) := by decide +kernel
theorem t_X11_tries_51 : decode prog_1_method_63_code 51 = .ok (.invokevirtual 242, 3) := by decide +kernel
theorem t_X11_tries_54 : decode prog_1_method_63_code 54 = .ok (.ifCond .eq 34, 3) := by decide +kernel
theorem t_X11_tries_57 : decode prog_1_method_63_code 57 = .ok (.aload_n 0, 1) := by decide +kernel
theorem t_X11_tries_58 : decode prog_1_method_63_code 58 = .ok (.iload 5, 2) := by decide +kernel
theorem t_X11_tries_60 : decode prog_1_method_63_code 60 = .ok (.lload_n 1, 1) := by decide +kernel
theorem t_X11_tries_61 : decode prog_1_method_63_code 61 = .ok (.invokevirtual 422, 3) := by decide +kernel
theorem t_X11_tries_64 : decode prog_1_method_63_code 64 = .ok (.istore 6, 2) := by decide +kernel
theorem t_X11_tries_66 : decode prog_1_method_63_code 66 = .ok (.iload 6, 2) := by decide +kernel
theorem t_X11_tries_68 : decode prog_1_method_63_code 68 = .ok (.iload_n 3, 1) := by decide +kernel
theorem t_X11_tries_69 : decode prog_1_method_63_code 69 = .ok (.if_icmp .ge 8, 3) := by decide +kernel
theorem t_X11_tries_72 : decode prog_1_method_63_code 72 = .ok (.iload 5, 2) := by decide +kernel
theorem t_X11_tries_74 : decode prog_1_method_63_code 74 = .ok (.goto 5, 3) := by decide +kernel
theorem t_X11_tries_77 : decode prog_1_method_63_code 77 = .ok (.iload 4, 2) := by decide +kernel
theorem t_X11_tries_79 : decode prog_1_method_63_code 79 = .ok (.istore 4, 2) := by decide +kernel
theorem t_X11_tries_81 : decode prog_1_method_63_code 81 = .ok (.iload 6, 2) := by decide +kernel
theorem t_X11_tries_83 : decode prog_1_method_63_code 83 = .ok (.iload_n 3, 1) := by decide +kernel
theorem t_X11_tries_84 : decode prog_1_method_63_code 84 = .ok (.invokestatic 210, 3) := by decide +kernel
theorem t_X11_tries_87 : decode prog_1_method_63_code 87 = .ok (.istore_n 3, 1) := by decide +kernel
theorem t_X11_tries_88 : decode prog_1_method_63_code 88 = .ok (.iinc 5 1, 3) := by decide +kernel
theorem t_X11_tries_91 : decode prog_1_method_63_code 91 = .ok (.goto (-58), 3) := by decide +kernel
theorem t_X11_tries_94 : decode prog_1_method_63_code 94 = .ok (.aload_n 0, 1) := by decide +kernel
theorem t_X11_tries_95 : decode prog_1_method_63_code 95 = .ok (.getfield 47, 3) := by decide +kernel
theorem t_X11_tries_98 : decode prog_1_method_63_code 98 = .ok (.iload_n 3, 1) := by decide +kernel
theorem t_X11_tries_99 : decode prog_1_method_63_code 99 = .ok (.i2l, 1) := by decide +kernel
theorem t_X11_tries_100 : decode prog_1_method_63_code 100 = .ok (.invokevirtual 292, 3) := by decide +kernel
theorem t_X11_tries_103 : decode prog_1_method_63_code 103 = .ok (.iload 4, 2) := by decide +kernel
theorem t_X11_tries_105 : decode prog_1_method_63_code 105 = .ok (.ireturn, 1) := by decide +kernel
def y_X11_profit : MethodName := ⟨"SowingBoards", "profit", "(III)I"⟩
theorem t_X11_profit_0 : decode prog_1_method_67_code 0 = .ok (.iload_n 0, 1) := by decide +kernel
theorem t_X11_profit_1 : decode prog_1_method_67_code 1 = .ok (.iload_n 1, 1) := by decide +kernel
theorem t_X11_profit_2 : decode prog_1_method_67_code 2 = .ok (.if_icmp .ne 9, 3) := by decide +kernel
theorem t_X11_profit_5 : decode prog_1_method_67_code 5 = .ok (.iload_n 2, 1) := by decide +kernel
theorem t_X11_profit_6 : decode prog_1_method_67_code 6 = .ok (.iconst 3, 1) := by decide +kernel
theorem t_X11_profit_7 : decode prog_1_method_67_code 7 = .ok (.idiv, 1) := by decide +kernel
theorem t_X11_profit_8 : decode prog_1_method_67_code 8 = .ok (.iconst 1, 1) := by decide +kernel
theorem t_X11_profit_9 : decode prog_1_method_67_code 9 = .ok (.isub, 1) := by decide +kernel
theorem t_X11_profit_10 : decode prog_1_method_67_code 10 = .ok (.ireturn, 1) := by decide +kernel
theorem t_X11_profit_11 : decode prog_1_method_67_code 11 = .ok (.iload_n 0, 1) := by decide +kernel
theorem t_X11_profit_12 : decode prog_1_method_67_code 12 = .ok (.iload_n 1, 1) := by decide +kernel
theorem t_X11_profit_13 : decode prog_1_method_67_code 13 = .ok (.if_icmp .le 9, 3) := by decide +kernel
theorem t_X11_profit_16 : decode prog_1_method_67_code 16 = .ok (.iload_n 2, 1) := by decide +kernel
theorem t_X11_profit_17 : decode prog_1_method_67_code 17 = .ok (.iload_n 0, 1) := by decide +kernel
theorem t_X11_profit_18 : decode prog_1_method_67_code 18 = .ok (.isub, 1) := by decide +kernel
theorem t_X11_profit_19 : decode prog_1_method_67_code 19 = .ok (.goto 6, 3) := by decide +kernel
theorem t_X11_profit_22 : decode prog_1_method_67_code 22 = .ok (.iload_n 0, 1) := by decide +kernel
theorem t_X11_profit_23 : decode prog_1_method_67_code 23 = .ok (.iconst 2, 1) := by decide +kernel
theorem t_X11_profit_24 : decode prog_1_method_67_code 24 = .ok (.idiv, 1) := by decide +kernel
theorem t_X11_profit_25 : decode prog_1_method_67_code 25 = .ok (.ireturn, 1) := by decide +kernel
def y_X11_isContent : MethodName := ⟨"SowingBoards", "isContent", "(III)Z"⟩
theorem t_X11_isContent_0 : decode prog_1_method_66_code 0 = .ok (.iload_n 0, 1) := by decide +kernel
theorem t_X11_isContent_1 : decode prog_1_method_66_code 1 = .ok (.iload_n 1, 1) := by decide +kernel
theorem t_X11_isContent_2 : decode prog_1_method_66_code 2 = .ok (.iload_n 2, 1) := by decide +kernel
theorem t_X11_isContent_3 : decode prog_1_method_66_code 3 = .ok (.invokestatic 429, 3) := by decide +kernel
theorem t_X11_isContent_6 : decode prog_1_method_66_code 6 = .ok (.istore_n 3, 1) := by decide +kernel
theorem t_X11_isContent_7 : decode prog_1_method_66_code 7 = .ok (.iconst 0, 1) := by decide +kernel
theorem t_X11_isContent_8 : decode prog_1_method_66_code 8 = .ok (.istore 4, 2) := by decide +kernel
theorem t_X11_isContent_10 : decode prog_1_method_66_code 10 = .ok (.iload 4, 2) := by decide +kernel
theorem t_X11_isContent_12 : decode prog_1_method_66_code 12 = .ok (.bipush 9, 2) := by decide +kernel
theorem t_X11_isContent_14 : decode prog_1_method_66_code 14 = .ok (.if_icmp .gt 22, 3) := by decide +kernel
theorem t_X11_isContent_17 : decode prog_1_method_66_code 17 = .ok (.iload 4, 2) := by decide +kernel
theorem t_X11_isContent_19 : decode prog_1_method_66_code 19 = .ok (.iload_n 1, 1) := by decide +kernel
theorem t_X11_isContent_20 : decode prog_1_method_66_code 20 = .ok (.iload_n 2, 1) := by decide +kernel
theorem t_X11_isContent_21 : decode prog_1_method_66_code 21 = .ok (.invokestatic 429, 3) := by decide +kernel
theorem t_X11_isContent_24 : decode prog_1_method_66_code 24 = .ok (.iload_n 3, 1) := by decide +kernel
theorem t_X11_isContent_25 : decode prog_1_method_66_code 25 = .ok (.if_icmp .le 5, 3) := by decide +kernel
theorem t_X11_isContent_28 : decode prog_1_method_66_code 28 = .ok (.iconst 0, 1) := by decide +kernel
theorem t_X11_isContent_29 : decode prog_1_method_66_code 29 = .ok (.ireturn, 1) := by decide +kernel
theorem t_X11_isContent_30 : decode prog_1_method_66_code 30 = .ok (.iinc 4 1, 3) := by decide +kernel
theorem t_X11_isContent_33 : decode prog_1_method_66_code 33 = .ok (.goto (-23), 3) := by decide +kernel
theorem t_X11_isContent_36 : decode prog_1_method_66_code 36 = .ok (.iconst 1, 1) := by decide +kernel
theorem t_X11_isContent_37 : decode prog_1_method_66_code 37 = .ok (.ireturn, 1) := by decide +kernel
def y_X11_bids : MethodName := ⟨"SowingBoards", "bids", "(I)I"⟩
theorem t_X11_bids_0 : decode prog_1_method_65_code 0 = .ok (.iload_n 1, 1) := by decide +kernel
theorem t_X11_bids_1 : decode prog_1_method_65_code 1 = .ok (.ifCond .lt 9, 3) := by decide +kernel
theorem t_X11_bids_4 : decode prog_1_method_65_code 4 = .ok (.iload_n 1, 1) := by decide +kernel
theorem t_X11_bids_5 : decode prog_1_method_65_code 5 = .ok (.bipush 20, 2) := by decide +kernel
theorem t_X11_bids_7 : decode prog_1_method_65_code 7 = .ok (.if_icmp .le 5, 3) := by decide +kernel
theorem t_X11_bids_10 : decode prog_1_method_65_code 10 = .ok (.iconst (-1), 1) := by decide +kernel
theorem t_X11_bids_11 : decode prog_1_method_65_code 11 = .ok (.ireturn, 1) := by decide +kernel
theorem t_X11_bids_12 : decode prog_1_method_65_code 12 = .ok (.iconst 0, 1) := by decide +kernel
theorem t_X11_bids_13 : decode prog_1_method_65_code 13 = .ok (.istore_n 2, 1) := by decide +kernel
theorem t_X11_bids_14 : decode prog_1_method_65_code 14 = .ok (.aload_n 0, 1) := by decide +kernel
theorem t_X11_bids_15 : decode prog_1_method_65_code 15 = .ok (.getfield 47, 3) := by decide +kernel
theorem t_X11_bids_18 : decode prog_1_method_65_code 18 = .ok (.invokevirtual 321, 3) := by decide +kernel
theorem t_X11_bids_21 : decode prog_1_method_65_code 21 = .ok (.iconst 0, 1) := by decide +kernel
theorem t_X11_bids_22 : decode prog_1_method_65_code 22 = .ok (.istore_n 3, 1) := by decide +kernel
theorem t_X11_bids_23 : decode prog_1_method_65_code 23 = .ok (.iload_n 3, 1) := by decide +kernel
theorem t_X11_bids_24 : decode prog_1_method_65_code 24 = .ok (.bipush 9, 2) := by decide +kernel
theorem t_X11_bids_26 : decode prog_1_method_65_code 26 = .ok (.if_icmp .gt 64, 3) := by decide +kernel
theorem t_X11_bids_29 : decode prog_1_method_65_code 29 = .ok (.iconst 0, 1) := by decide +kernel
theorem t_X11_bids_30 : decode prog_1_method_65_code 30 = .ok (.istore 4, 2) := by decide +kernel
theorem t_X11_bids_32 : decode prog_1_method_65_code 32 = .ok (.iload 4, 2) := by decide +kernel
theorem t_X11_bids_34 : decode prog_1_method_65_code 34 = .ok (.bipush 9, 2) := by decide +kernel
theorem t_X11_bids_36 : decode prog_1_method_65_code 36 = .ok (.if_icmp .gt 48, 3) := by decide +kernel
theorem t_X11_bids_39 : decode prog_1_method_65_code 39 = .ok (.iload_n 3, 1) := by decide +kernel
theorem t_X11_bids_40 : decode prog_1_method_65_code 40 = .ok (.iload 4, 2) := by decide +kernel
theorem t_X11_bids_42 : decode prog_1_method_65_code 42 = .ok (.iload_n 1, 1) := by decide +kernel
theorem t_X11_bids_43 : decode prog_1_method_65_code 43 = .ok (.invokestatic 426, 3) := by decide +kernel
theorem t_X11_bids_46 : decode prog_1_method_65_code 46 = .ok (.ifCond .eq 32, 3) := by decide +kernel
theorem t_X11_bids_49 : decode prog_1_method_65_code 49 = .ok (.iload 4, 2) := by decide +kernel
theorem t_X11_bids_51 : decode prog_1_method_65_code 51 = .ok (.iload_n 3, 1) := by decide +kernel
theorem t_X11_bids_52 : decode prog_1_method_65_code 52 = .ok (.iload_n 1, 1) := by decide +kernel
theorem t_X11_bids_53 : decode prog_1_method_65_code 53 = .ok (.invokestatic 426, 3) := by decide +kernel
theorem t_X11_bids_56 : decode prog_1_method_65_code 56 = .ok (.ifCond .eq 22, 3) := by decide +kernel
theorem t_X11_bids_59 : decode prog_1_method_65_code 59 = .ok (.iload_n 2, 1) := by decide +kernel
theorem t_X11_bids_60 : decode prog_1_method_65_code 60 = .ok (.ifCond .ne 15, 3) := by decide +kernel
theorem t_X11_bids_63 : decode prog_1_method_65_code 63 = .ok (.aload_n 0, 1) := by decide +kernel
theorem t_X11_bids_64 : decode prog_1_method_65_code 64 = .ok (.getfield 47, 3) := by decide +kernel
theorem t_X11_bids_67 : decode prog_1_method_65_code 67 = .ok (.iload_n 3, 1) := by decide +kernel
theorem t_X11_bids_68 : decode prog_1_method_65_code 68 = .ok (.i2l, 1) := by decide +kernel
theorem t_X11_bids_69 : decode prog_1_method_65_code 69 = .ok (.iload 4, 2) := by decide +kernel
theorem t_X11_bids_71 : decode prog_1_method_65_code 71 = .ok (.i2l, 1) := by decide +kernel
theorem t_X11_bids_72 : decode prog_1_method_65_code 72 = .ok (.invokevirtual 253, 3) := by decide +kernel
theorem t_X11_bids_75 : decode prog_1_method_65_code 75 = .ok (.iinc 2 1, 3) := by decide +kernel
theorem t_X11_bids_78 : decode prog_1_method_65_code 78 = .ok (.iinc 4 1, 3) := by decide +kernel
theorem t_X11_bids_81 : decode prog_1_method_65_code 81 = .ok (.goto (-49), 3) := by decide +kernel
theorem t_X11_bids_84 : decode prog_1_method_65_code 84 = .ok (.iinc 3 1, 3) := by decide +kernel
theorem t_X11_bids_87 : decode prog_1_method_65_code 87 = .ok (.goto (-64), 3) := by decide +kernel
theorem t_X11_bids_90 : decode prog_1_method_65_code 90 = .ok (.iload_n 2, 1) := by decide +kernel
theorem t_X11_bids_91 : decode prog_1_method_65_code 91 = .ok (.ireturn, 1) := by decide +kernel
def y_X11_leadBy : MethodName := ⟨"SowingBoards", "leadBy", "(LSowingBoards$Rule;)I"⟩
theorem t_X11_leadBy_0 : decode prog_1_method_69_code 0 = .ok (.aload_n 0, 1) := by decide +kernel
theorem t_X11_leadBy_1 : decode prog_1_method_69_code 1 = .ok (.getfield 19, 3) := by decide +kernel
theorem t_X11_leadBy_4 : decode prog_1_method_69_code 4 = .ok (.aload_n 0, 1) := by decide +kernel
theorem t_X11_leadBy_5 : decode prog_1_method_69_code 5 = .ok (.getfield 10, 3) := by decide +kernel
theorem t_X11_leadBy_8 : decode prog_1_method_69_code 8 = .ok (.invokevirtual 269, 3) := by decide +kernel
theorem t_X11_leadBy_11 : decode prog_1_method_69_code 11 = .ok (.iconst 0, 1) := by decide +kernel
theorem t_X11_leadBy_12 : decode prog_1_method_69_code 12 = .ok (.istore_n 2, 1) := by decide +kernel
theorem t_X11_leadBy_13 : decode prog_1_method_69_code 13 = .ok (.iload_n 2, 1) := by decide +kernel
theorem t_X11_leadBy_14 : decode prog_1_method_69_code 14 = .ok (.bipush 20, 2) := by decide +kernel
theorem t_X11_leadBy_16 : decode prog_1_method_69_code 16 = .ok (.if_icmp .ge 43, 3) := by decide +kernel
theorem t_X11_leadBy_19 : decode prog_1_method_69_code 19 = .ok (.aload_n 0, 1) := by decide +kernel
theorem t_X11_leadBy_20 : decode prog_1_method_69_code 20 = .ok (.getfield 61, 3) := by decide +kernel
theorem t_X11_leadBy_23 : decode prog_1_method_69_code 23 = .ok (.aload_n 0, 1) := by decide +kernel
theorem t_X11_leadBy_24 : decode prog_1_method_69_code 24 = .ok (.getfield 19, 3) := by decide +kernel
theorem t_X11_leadBy_27 : decode prog_1_method_69_code 27 = .ok (.aload_n 0, 1) := by decide +kernel
theorem t_X11_leadBy_28 : decode prog_1_method_69_code 28 = .ok (.getfield 19, 3) := by decide +kernel
theorem t_X11_leadBy_31 : decode prog_1_method_69_code 31 = .ok (.getfield 158, 3) := by decide +kernel
theorem t_X11_leadBy_34 : decode prog_1_method_69_code 34 = .ok (.ifCond .ne 7, 3) := by decide +kernel
theorem t_X11_leadBy_37 : decode prog_1_method_69_code 37 = .ok (.aload_n 1, 1) := by decide +kernel
theorem t_X11_leadBy_38 : decode prog_1_method_69_code 38 = .ok (.goto 7, 3) := by decide +kernel
theorem t_X11_leadBy_41 : decode prog_1_method_69_code 41 = .ok (.aload_n 0, 1) := by decide +kernel
theorem t_X11_leadBy_42 : decode prog_1_method_69_code 42 = .ok (.getfield 89, 3) := by decide +kernel
theorem t_X11_leadBy_45 : decode prog_1_method_69_code 45 = .ok (.aload_n 0, 1) := by decide +kernel
theorem t_X11_leadBy_46 : decode prog_1_method_69_code 46 = .ok (.getfield 112, 3) := by decide +kernel
theorem t_X11_leadBy_49 : decode prog_1_method_69_code 49 = .ok (.invokevirtual 256, 3) := by decide +kernel
theorem t_X11_leadBy_52 : decode prog_1_method_69_code 52 = .ok (.pop, 1) := by decide +kernel
theorem t_X11_leadBy_53 : decode prog_1_method_69_code 53 = .ok (.iinc 2 1, 3) := by decide +kernel
theorem t_X11_leadBy_56 : decode prog_1_method_69_code 56 = .ok (.goto (-43), 3) := by decide +kernel
theorem t_X11_leadBy_59 : decode prog_1_method_69_code 59 = .ok (.aload_n 0, 1) := by decide +kernel
theorem t_X11_leadBy_60 : decode prog_1_method_69_code 60 = .ok (.getfield 19, 3) := by decide +kernel
theorem t_X11_leadBy_63 : decode prog_1_method_69_code 63 = .ok (.getfield 155, 3) := by decide +kernel
theorem t_X11_leadBy_66 : decode prog_1_method_69_code 66 = .ok (.iconst 0, 1) := by decide +kernel
theorem t_X11_leadBy_67 : decode prog_1_method_69_code 67 = .ok (.iaload, 1) := by decide +kernel
theorem t_X11_leadBy_68 : decode prog_1_method_69_code 68 = .ok (.aload_n 0, 1) := by decide +kernel
theorem t_X11_leadBy_69 : decode prog_1_method_69_code 69 = .ok (.getfield 19, 3) := by decide +kernel
theorem t_X11_leadBy_72 : decode prog_1_method_69_code 72 = .ok (.getfield 155, 3) := by decide +kernel
theorem t_X11_leadBy_75 : decode prog_1_method_69_code 75 = .ok (.iconst 1, 1) := by decide +kernel
theorem t_X11_leadBy_76 : decode prog_1_method_69_code 76 = .ok (.iaload, 1) := by decide +kernel
theorem t_X11_leadBy_77 : decode prog_1_method_69_code 77 = .ok (.isub, 1) := by decide +kernel
theorem t_X11_leadBy_78 : decode prog_1_method_69_code 78 = .ok (.ireturn, 1) := by decide +kernel
def y_X11_other : MethodName := ⟨"SowingBoards", "other", "()I"⟩
theorem t_X11_other_0 : decode prog_1_method_68_code 0 = .ok (.aload_n 0, 1) := by decide +kernel
theorem t_X11_other_1 : decode prog_1_method_68_code 1 = .ok (.getfield 82, 3) := by decide +kernel
theorem t_X11_other_4 : decode prog_1_method_68_code 4 = .ok (.aload_n 0, 1) := by decide +kernel
theorem t_X11_other_5 : decode prog_1_method_68_code 5 = .ok (.getfield 40, 3) := by decide +kernel
theorem t_X11_other_8 : decode prog_1_method_68_code 8 = .ok (.invokevirtual 183, 3) := by decide +kernel
theorem t_X11_other_11 : decode prog_1_method_68_code 11 = .ok (.istore_n 1, 1) := by decide +kernel
theorem t_X11_other_12 : decode prog_1_method_68_code 12 = .ok (.aload_n 0, 1) := by decide +kernel
theorem t_X11_other_13 : decode prog_1_method_68_code 13 = .ok (.getfield 40, 3) := by decide +kernel
theorem t_X11_other_16 : decode prog_1_method_68_code 16 = .ok (.invokevirtual 142, 3) := by decide +kernel
theorem t_X11_other_19 : decode prog_1_method_68_code 19 = .ok (.iload_n 1, 1) := by decide +kernel
theorem t_X11_other_20 : decode prog_1_method_68_code 20 = .ok (.iconst (-1), 1) := by decide +kernel
theorem t_X11_other_21 : decode prog_1_method_68_code 21 = .ok (.if_icmp .eq 7, 3) := by decide +kernel
theorem t_X11_other_24 : decode prog_1_method_68_code 24 = .ok (.iconst (-1), 1) := by decide +kernel
theorem t_X11_other_25 : decode prog_1_method_68_code 25 = .ok (.iload_n 1, 1) := by decide +kernel
theorem t_X11_other_26 : decode prog_1_method_68_code 26 = .ok (.isub, 1) := by decide +kernel
theorem t_X11_other_27 : decode prog_1_method_68_code 27 = .ok (.ireturn, 1) := by decide +kernel
theorem t_X11_other_28 : decode prog_1_method_68_code 28 = .ok (.aload_n 0, 1) := by decide +kernel
theorem t_X11_other_29 : decode prog_1_method_68_code 29 = .ok (.aload_n 0, 1) := by decide +kernel
theorem t_X11_other_30 : decode prog_1_method_68_code 30 = .ok (.getfield 82, 3) := by decide +kernel
theorem t_X11_other_33 : decode prog_1_method_68_code 33 = .ok (.getfield 187, 3) := by decide +kernel
theorem t_X11_other_36 : decode prog_1_method_68_code 36 = .ok (.invokevirtual 433, 3) := by decide +kernel
theorem t_X11_other_39 : decode prog_1_method_68_code 39 = .ok (.istore_n 2, 1) := by decide +kernel
theorem t_X11_other_40 : decode prog_1_method_68_code 40 = .ok (.aload_n 0, 1) := by decide +kernel
theorem t_X11_other_41 : decode prog_1_method_68_code 41 = .ok (.aload_n 0, 1) := by decide +kernel
theorem t_X11_other_42 : decode prog_1_method_68_code 42 = .ok (.getfield 89, 3) := by decide +kernel
theorem t_X11_other_45 : decode prog_1_method_68_code 45 = .ok (.invokevirtual 433, 3) := by decide +kernel
theorem t_X11_other_48 : decode prog_1_method_68_code 48 = .ok (.istore_n 3, 1) := by decide +kernel
theorem t_X11_other_49 : decode prog_1_method_68_code 49 = .ok (.aload_n 0, 1) := by decide +kernel
theorem t_X11_other_50 : decode prog_1_method_68_code 50 = .ok (.getfield 47, 3) := by decide +kernel
theorem t_X11_other_53 : decode prog_1_method_68_code 53 = .ok (.sipush 300, 3) := by decide +kernel
theorem t_X11_other_56 : decode prog_1_method_68_code 56 = .ok (.iload_n 2, 1) := by decide +kernel
theorem t_X11_other_57 : decode prog_1_method_68_code 57 = .ok (.iadd, 1) := by decide +kernel
theorem t_X11_other_58 : decode prog_1_method_68_code 58 = .ok (.i2l, 1) := by decide +kernel
theorem t_X11_other_59 : decode prog_1_method_68_code 59 = .ok (.sipush 300, 3) := by decide +kernel
theorem t_X11_other_62 : decode prog_1_method_68_code 62 = .ok (.iload_n 3, 1) := by decide +kernel
theorem t_X11_other_63 : decode prog_1_method_68_code 63 = .ok (.iadd, 1) := by decide +kernel
theorem t_X11_other_64 : decode prog_1_method_68_code 64 = .ok (.i2l, 1) := by decide +kernel
theorem t_X11_other_65 : decode prog_1_method_68_code 65 = .ok (.invokevirtual 253, 3) := by decide +kernel
theorem t_X11_other_68 : decode prog_1_method_68_code 68 = .ok (.sipush 600, 3) := by decide +kernel
theorem t_X11_other_71 : decode prog_1_method_68_code 71 = .ok (.iload_n 2, 1) := by decide +kernel
theorem t_X11_other_72 : decode prog_1_method_68_code 72 = .ok (.iadd, 1) := by decide +kernel
theorem t_X11_other_73 : decode prog_1_method_68_code 73 = .ok (.iload_n 3, 1) := by decide +kernel
theorem t_X11_other_74 : decode prog_1_method_68_code 74 = .ok (.isub, 1) := by decide +kernel
theorem t_X11_other_75 : decode prog_1_method_68_code 75 = .ok (.ireturn, 1) := by decide +kernel
def y_X11_draw : MethodName := ⟨"SowingBoards", "draw", "(II)I"⟩
theorem t_X11_draw_0 : decode prog_1_method_72_code 0 = .ok (.iload_n 1, 1) := by decide +kernel
theorem t_X11_draw_1 : decode prog_1_method_72_code 1 = .ok (.ifCond .le 12, 3) := by decide +kernel
theorem t_X11_draw_4 : decode prog_1_method_72_code 4 = .ok (.iload_n 0, 1) := by decide +kernel
theorem t_X11_draw_5 : decode prog_1_method_72_code 5 = .ok (.bipush 16, 2) := by decide +kernel
theorem t_X11_draw_7 : decode prog_1_method_72_code 7 = .ok (.iushr, 1) := by decide +kernel
theorem t_X11_draw_8 : decode prog_1_method_72_code 8 = .ok (.iload_n 1, 1) := by decide +kernel
theorem t_X11_draw_9 : decode prog_1_method_72_code 9 = .ok (.irem, 1) := by decide +kernel
theorem t_X11_draw_10 : decode prog_1_method_72_code 10 = .ok (.goto 4, 3) := by decide +kernel
theorem t_X11_draw_13 : decode prog_1_method_72_code 13 = .ok (.iconst 0, 1) := by decide +kernel
theorem t_X11_draw_14 : decode prog_1_method_72_code 14 = .ok (.ireturn, 1) := by decide +kernel
def y_X11_drawAgain : MethodName := ⟨"SowingBoards", "drawAgain", "(I)I"⟩
theorem t_X11_drawAgain_0 : decode prog_1_method_71_code 0 = .ok (.iload_n 0, 1) := by decide +kernel
theorem t_X11_drawAgain_1 : decode prog_1_method_71_code 1 = .ok (.ldc_w 449, 3) := by decide +kernel
theorem t_X11_drawAgain_4 : decode prog_1_method_71_code 4 = .ok (.imul, 1) := by decide +kernel
theorem t_X11_drawAgain_5 : decode prog_1_method_71_code 5 = .ok (.sipush 12345, 3) := by decide +kernel
theorem t_X11_drawAgain_8 : decode prog_1_method_71_code 8 = .ok (.iadd, 1) := by decide +kernel
theorem t_X11_drawAgain_9 : decode prog_1_method_71_code 9 = .ok (.ireturn, 1) := by decide +kernel
def y_X11_years : MethodName := ⟨"SowingBoards", "years", "(II)I"⟩
theorem t_X11_years_0 : decode prog_1_method_70_code 0 = .ok (.iload_n 2, 1) := by decide +kernel
theorem t_X11_years_1 : decode prog_1_method_70_code 1 = .ok (.iconst 1, 1) := by decide +kernel
theorem t_X11_years_2 : decode prog_1_method_70_code 2 = .ok (.if_icmp .lt 9, 3) := by decide +kernel
theorem t_X11_years_5 : decode prog_1_method_70_code 5 = .ok (.iload_n 2, 1) := by decide +kernel
theorem t_X11_years_6 : decode prog_1_method_70_code 6 = .ok (.bipush 60, 2) := by decide +kernel
theorem t_X11_years_8 : decode prog_1_method_70_code 8 = .ok (.if_icmp .le 5, 3) := by decide +kernel
theorem t_X11_years_11 : decode prog_1_method_70_code 11 = .ok (.iconst (-1), 1) := by decide +kernel
theorem t_X11_years_12 : decode prog_1_method_70_code 12 = .ok (.ireturn, 1) := by decide +kernel
theorem t_X11_years_13 : decode prog_1_method_70_code 13 = .ok (.aload_n 0, 1) := by decide +kernel
theorem t_X11_years_14 : decode prog_1_method_70_code 14 = .ok (.getfield 19, 3) := by decide +kernel
theorem t_X11_years_17 : decode prog_1_method_70_code 17 = .ok (.aload_n 0, 1) := by decide +kernel
theorem t_X11_years_18 : decode prog_1_method_70_code 18 = .ok (.getfield 10, 3) := by decide +kernel
theorem t_X11_years_21 : decode prog_1_method_70_code 21 = .ok (.invokevirtual 269, 3) := by decide +kernel
theorem t_X11_years_24 : decode prog_1_method_70_code 24 = .ok (.iload_n 1, 1) := by decide +kernel
theorem t_X11_years_25 : decode prog_1_method_70_code 25 = .ok (.istore_n 3, 1) := by decide +kernel
theorem t_X11_years_26 : decode prog_1_method_70_code 26 = .ok (.iconst 0, 1) := by decide +kernel
theorem t_X11_years_27 : decode prog_1_method_70_code 27 = .ok (.istore 4, 2) := by decide +kernel
theorem t_X11_years_29 : decode prog_1_method_70_code 29 = .ok (.iload 4, 2) := by decide +kernel
theorem t_X11_years_31 : decode prog_1_method_70_code 31 = .ok (.iload_n 2, 1) := by decide +kernel
theorem t_X11_years_32 : decode prog_1_method_70_code 32 = .ok (.if_icmp .ge 95, 3) := by decide +kernel
theorem t_X11_years_35 : decode prog_1_method_70_code 35 = .ok (.aload_n 0, 1) := by decide +kernel
theorem t_X11_years_36 : decode prog_1_method_70_code 36 = .ok (.getfield 19, 3) := by decide +kernel
theorem t_X11_years_39 : decode prog_1_method_70_code 39 = .ok (.invokevirtual 245, 3) := by decide +kernel
theorem t_X11_years_42 : decode prog_1_method_70_code 42 = .ok (.ifCond .ne 85, 3) := by decide +kernel
theorem t_X11_years_45 : decode prog_1_method_70_code 45 = .ok (.iload_n 3, 1) := by decide +kernel
theorem t_X11_years_46 : decode prog_1_method_70_code 46 = .ok (.invokestatic 437, 3) := by decide +kernel
theorem t_X11_years_49 : decode prog_1_method_70_code 49 = .ok (.istore_n 3, 1) := by decide +kernel
theorem t_X11_years_50 : decode prog_1_method_70_code 50 = .ok (.iload_n 3, 1) := by decide +kernel
theorem t_X11_years_51 : decode prog_1_method_70_code 51 = .ok (.iconst 3, 1) := by decide +kernel
theorem t_X11_years_52 : decode prog_1_method_70_code 52 = .ok (.invokestatic 440, 3) := by decide +kernel
theorem t_X11_years_55 : decode prog_1_method_70_code 55 = .ok (.iconst 2, 1) := by decide +kernel
theorem t_X11_years_56 : decode prog_1_method_70_code 56 = .ok (.if_icmp .ne 26, 3) := by decide +kernel
theorem t_X11_years_59 : decode prog_1_method_70_code 59 = .ok (.aload_n 0, 1) := by decide +kernel
theorem t_X11_years_60 : decode prog_1_method_70_code 60 = .ok (.getfield 61, 3) := by decide +kernel
theorem t_X11_years_63 : decode prog_1_method_70_code 63 = .ok (.aload_n 0, 1) := by decide +kernel
theorem t_X11_years_64 : decode prog_1_method_70_code 64 = .ok (.getfield 19, 3) := by decide +kernel
theorem t_X11_years_67 : decode prog_1_method_70_code 67 = .ok (.aload_n 0, 1) := by decide +kernel
theorem t_X11_years_68 : decode prog_1_method_70_code 68 = .ok (.getfield 89, 3) := by decide +kernel
theorem t_X11_years_71 : decode prog_1_method_70_code 71 = .ok (.aload_n 0, 1) := by decide +kernel
theorem t_X11_years_72 : decode prog_1_method_70_code 72 = .ok (.getfield 112, 3) := by decide +kernel
theorem t_X11_years_75 : decode prog_1_method_70_code 75 = .ok (.invokevirtual 256, 3) := by decide +kernel
theorem t_X11_years_78 : decode prog_1_method_70_code 78 = .ok (.pop, 1) := by decide +kernel
theorem t_X11_years_79 : decode prog_1_method_70_code 79 = .ok (.goto 42, 3) := by decide +kernel
theorem t_X11_years_82 : decode prog_1_method_70_code 82 = .ok (.iload_n 3, 1) := by decide +kernel
theorem t_X11_years_83 : decode prog_1_method_70_code 83 = .ok (.invokestatic 437, 3) := by decide +kernel
theorem t_X11_years_86 : decode prog_1_method_70_code 86 = .ok (.istore_n 3, 1) := by decide +kernel
theorem t_X11_years_87 : decode prog_1_method_70_code 87 = .ok (.aload_n 0, 1) := by decide +kernel
theorem t_X11_years_88 : decode prog_1_method_70_code 88 = .ok (.getfield 54, 3) := by decide +kernel
theorem t_X11_years_91 : decode prog_1_method_70_code 91 = .ok (.aload_n 0, 1) := by decide +kernel
theorem t_X11_years_92 : decode prog_1_method_70_code 92 = .ok (.getfield 19, 3) := by decide +kernel
theorem t_X11_years_95 : decode prog_1_method_70_code 95 = .ok (.aload_n 0, 1) := by decide +kernel
theorem t_X11_years_96 : decode prog_1_method_70_code 96 = .ok (.getfield 19, 3) := by decide +kernel
theorem t_X11_years_99 : decode prog_1_method_70_code 99 = .ok (.iload_n 3, 1) := by decide +kernel
theorem t_X11_years_100 : decode prog_1_method_70_code 100 = .ok (.aload_n 0, 1) := by decide +kernel
theorem t_X11_years_101 : decode prog_1_method_70_code 101 = .ok (.getfield 19, 3) := by decide +kernel
theorem t_X11_years_104 : decode prog_1_method_70_code 104 = .ok (.invokevirtual 443, 3) := by decide +kernel
theorem t_X11_years_107 : decode prog_1_method_70_code 107 = .ok (.invokestatic 440, 3) := by decide +kernel
theorem t_X11_years_110 : decode prog_1_method_70_code 110 = .ok (.invokevirtual 446, 3) := by decide +kernel
theorem t_X11_years_113 : decode prog_1_method_70_code 113 = .ok (.aload_n 0, 1) := by decide +kernel
theorem t_X11_years_114 : decode prog_1_method_70_code 114 = .ok (.getfield 112, 3) := by decide +kernel
theorem t_X11_years_117 : decode prog_1_method_70_code 117 = .ok (.invokevirtual 225, 3) := by decide +kernel
theorem t_X11_years_120 : decode prog_1_method_70_code 120 = .ok (.pop, 1) := by decide +kernel
theorem t_X11_years_121 : decode prog_1_method_70_code 121 = .ok (.iinc 4 1, 3) := by decide +kernel
theorem t_X11_years_124 : decode prog_1_method_70_code 124 = .ok (.goto (-95), 3) := by decide +kernel
theorem t_X11_years_127 : decode prog_1_method_70_code 127 = .ok (.aload_n 0, 1) := by decide +kernel
theorem t_X11_years_128 : decode prog_1_method_70_code 128 = .ok (.getfield 47, 3) := by decide +kernel
theorem t_X11_years_131 : decode prog_1_method_70_code 131 = .ok (.iload 4, 2) := by decide +kernel
theorem t_X11_years_133 : decode prog_1_method_70_code 133 = .ok (.i2l, 1) := by decide +kernel
theorem t_X11_years_134 : decode prog_1_method_70_code 134 = .ok (.aload_n 0, 1) := by decide +kernel
theorem t_X11_years_135 : decode prog_1_method_70_code 135 = .ok (.getfield 19, 3) := by decide +kernel
theorem t_X11_years_138 : decode prog_1_method_70_code 138 = .ok (.getfield 158, 3) := by decide +kernel
theorem t_X11_years_141 : decode prog_1_method_70_code 141 = .ok (.i2l, 1) := by decide +kernel
theorem t_X11_years_142 : decode prog_1_method_70_code 142 = .ok (.invokevirtual 253, 3) := by decide +kernel
theorem t_X11_years_145 : decode prog_1_method_70_code 145 = .ok (.sipush 300, 3) := by decide +kernel
theorem t_X11_years_148 : decode prog_1_method_70_code 148 = .ok (.aload_n 0, 1) := by decide +kernel
theorem t_X11_years_149 : decode prog_1_method_70_code 149 = .ok (.getfield 19, 3) := by decide +kernel
theorem t_X11_years_152 : decode prog_1_method_70_code 152 = .ok (.getfield 155, 3) := by decide +kernel
theorem t_X11_years_155 : decode prog_1_method_70_code 155 = .ok (.iconst 0, 1) := by decide +kernel
theorem t_X11_years_156 : decode prog_1_method_70_code 156 = .ok (.iaload, 1) := by decide +kernel
theorem t_X11_years_157 : decode prog_1_method_70_code 157 = .ok (.iadd, 1) := by decide +kernel
theorem t_X11_years_158 : decode prog_1_method_70_code 158 = .ok (.aload_n 0, 1) := by decide +kernel
theorem t_X11_years_159 : decode prog_1_method_70_code 159 = .ok (.getfield 19, 3) := by decide +kernel
theorem t_X11_years_162 : decode prog_1_method_70_code 162 = .ok (.getfield 155, 3) := by decide +kernel
theorem t_X11_years_165 : decode prog_1_method_70_code 165 = .ok (.iconst 1, 1) := by decide +kernel
theorem t_X11_years_166 : decode prog_1_method_70_code 166 = .ok (.iaload, 1) := by decide +kernel
theorem t_X11_years_167 : decode prog_1_method_70_code 167 = .ok (.isub, 1) := by decide +kernel
theorem t_X11_years_168 : decode prog_1_method_70_code 168 = .ok (.ireturn, 1) := by decide +kernel
def y_X11_keep : MethodName := ⟨"SowingBoards", "keep", "(I)Z"⟩
theorem t_X11_keep_0 : decode prog_1_method_73_code 0 = .ok (.iload_n 1, 1) := by decide +kernel
theorem t_X11_keep_1 : decode prog_1_method_73_code 1 = .ok (.ifCond .lt 8, 3) := by decide +kernel
theorem t_X11_keep_4 : decode prog_1_method_73_code 4 = .ok (.iload_n 1, 1) := by decide +kernel
theorem t_X11_keep_5 : decode prog_1_method_73_code 5 = .ok (.iconst 2, 1) := by decide +kernel
theorem t_X11_keep_6 : decode prog_1_method_73_code 6 = .ok (.if_icmp .lt 5, 3) := by decide +kernel
theorem t_X11_keep_9 : decode prog_1_method_73_code 9 = .ok (.iconst 0, 1) := by decide +kernel
theorem t_X11_keep_10 : decode prog_1_method_73_code 10 = .ok (.ireturn, 1) := by decide +kernel
theorem t_X11_keep_11 : decode prog_1_method_73_code 11 = .ok (.aload_n 0, 1) := by decide +kernel
theorem t_X11_keep_12 : decode prog_1_method_73_code 12 = .ok (.getfield 22, 3) := by decide +kernel
theorem t_X11_keep_15 : decode prog_1_method_73_code 15 = .ok (.iload_n 1, 1) := by decide +kernel
theorem t_X11_keep_16 : decode prog_1_method_73_code 16 = .ok (.aaload, 1) := by decide +kernel
theorem t_X11_keep_17 : decode prog_1_method_73_code 17 = .ok (.aload_n 0, 1) := by decide +kernel
theorem t_X11_keep_18 : decode prog_1_method_73_code 18 = .ok (.getfield 10, 3) := by decide +kernel
theorem t_X11_keep_21 : decode prog_1_method_73_code 21 = .ok (.invokevirtual 269, 3) := by decide +kernel
theorem t_X11_keep_24 : decode prog_1_method_73_code 24 = .ok (.aload_n 0, 1) := by decide +kernel
theorem t_X11_keep_25 : decode prog_1_method_73_code 25 = .ok (.getfield 26, 3) := by decide +kernel
theorem t_X11_keep_28 : decode prog_1_method_73_code 28 = .ok (.iload_n 1, 1) := by decide +kernel
theorem t_X11_keep_29 : decode prog_1_method_73_code 29 = .ok (.iconst 1, 1) := by decide +kernel
theorem t_X11_keep_30 : decode prog_1_method_73_code 30 = .ok (.bastore, 1) := by decide +kernel
theorem t_X11_keep_31 : decode prog_1_method_73_code 31 = .ok (.iconst 1, 1) := by decide +kernel
theorem t_X11_keep_32 : decode prog_1_method_73_code 32 = .ok (.ireturn, 1) := by decide +kernel
def y_X11_again : MethodName := ⟨"SowingBoards", "again", "(I)Z"⟩
theorem t_X11_again_0 : decode prog_1_method_74_code 0 = .ok (.iload_n 1, 1) := by decide +kernel
theorem t_X11_again_1 : decode prog_1_method_74_code 1 = .ok (.ifCond .lt 17, 3) := by decide +kernel
theorem t_X11_again_4 : decode prog_1_method_74_code 4 = .ok (.iload_n 1, 1) := by decide +kernel
theorem t_X11_again_5 : decode prog_1_method_74_code 5 = .ok (.iconst 2, 1) := by decide +kernel
theorem t_X11_again_6 : decode prog_1_method_74_code 6 = .ok (.if_icmp .ge 12, 3) := by decide +kernel
theorem t_X11_again_9 : decode prog_1_method_74_code 9 = .ok (.aload_n 0, 1) := by decide +kernel
theorem t_X11_again_10 : decode prog_1_method_74_code 10 = .ok (.getfield 26, 3) := by decide +kernel
theorem t_X11_again_13 : decode prog_1_method_74_code 13 = .ok (.iload_n 1, 1) := by decide +kernel
theorem t_X11_again_14 : decode prog_1_method_74_code 14 = .ok (.baload, 1) := by decide +kernel
theorem t_X11_again_15 : decode prog_1_method_74_code 15 = .ok (.ifCond .ne 5, 3) := by decide +kernel
theorem t_X11_again_18 : decode prog_1_method_74_code 18 = .ok (.iconst 0, 1) := by decide +kernel
theorem t_X11_again_19 : decode prog_1_method_74_code 19 = .ok (.ireturn, 1) := by decide +kernel
theorem t_X11_again_20 : decode prog_1_method_74_code 20 = .ok (.aload_n 0, 1) := by decide +kernel
theorem t_X11_again_21 : decode prog_1_method_74_code 21 = .ok (.getfield 10, 3) := by decide +kernel
theorem t_X11_again_24 : decode prog_1_method_74_code 24 = .ok (.aload_n 0, 1) := by decide +kernel
theorem t_X11_again_25 : decode prog_1_method_74_code 25 = .ok (.getfield 22, 3) := by decide +kernel
theorem t_X11_again_28 : decode prog_1_method_74_code 28 = .ok (.iload_n 1, 1) := by decide +kernel
theorem t_X11_again_29 : decode prog_1_method_74_code 29 = .ok (.aaload, 1) := by decide +kernel
theorem t_X11_again_30 : decode prog_1_method_74_code 30 = .ok (.invokevirtual 269, 3) := by decide +kernel
theorem t_X11_again_33 : decode prog_1_method_74_code 33 = .ok (.aload_n 0, 1) := by decide +kernel
theorem t_X11_again_34 : decode prog_1_method_74_code 34 = .ok (.getfield 33, 3) := by decide +kernel
theorem t_X11_again_37 : decode prog_1_method_74_code 37 = .ok (.invokevirtual 164, 3) := by decide +kernel
theorem t_X11_again_40 : decode prog_1_method_74_code 40 = .ok (.iconst 1, 1) := by decide +kernel
theorem t_X11_again_41 : decode prog_1_method_74_code 41 = .ok (.ireturn, 1) := by decide +kernel
def y_X11_count : MethodName := ⟨"SowingBoards", "count", "(I)I"⟩
theorem t_X11_count_0 : decode prog_1_method_75_code 0 = .ok (.iload_n 1, 1) := by decide +kernel
theorem t_X11_count_1 : decode prog_1_method_75_code 1 = .ok (.tableswitch 152 0 10 #[59, 67, 75, 83, 91, 107, 112, 120, 128, 136, 144], 59) := by decide +kernel
theorem t_X11_count_60 : decode prog_1_method_75_code 60 = .ok (.aload_n 0, 1) := by decide +kernel
theorem t_X11_count_61 : decode prog_1_method_75_code 61 = .ok (.getfield 10, 3) := by decide +kernel
theorem t_X11_count_64 : decode prog_1_method_75_code 64 = .ok (.getfield 152, 3) := by decide +kernel
theorem t_X11_count_67 : decode prog_1_method_75_code 67 = .ok (.ireturn, 1) := by decide +kernel
theorem t_X11_count_68 : decode prog_1_method_75_code 68 = .ok (.aload_n 0, 1) := by decide +kernel
theorem t_X11_count_69 : decode prog_1_method_75_code 69 = .ok (.getfield 10, 3) := by decide +kernel
theorem t_X11_count_72 : decode prog_1_method_75_code 72 = .ok (.getfield 158, 3) := by decide +kernel
theorem t_X11_count_75 : decode prog_1_method_75_code 75 = .ok (.ireturn, 1) := by decide +kernel
theorem t_X11_count_76 : decode prog_1_method_75_code 76 = .ok (.aload_n 0, 1) := by decide +kernel
theorem t_X11_count_77 : decode prog_1_method_75_code 77 = .ok (.getfield 10, 3) := by decide +kernel
theorem t_X11_count_80 : decode prog_1_method_75_code 80 = .ok (.getfield 161, 3) := by decide +kernel
theorem t_X11_count_83 : decode prog_1_method_75_code 83 = .ok (.ireturn, 1) := by decide +kernel
theorem t_X11_count_84 : decode prog_1_method_75_code 84 = .ok (.aload_n 0, 1) := by decide +kernel
theorem t_X11_count_85 : decode prog_1_method_75_code 85 = .ok (.getfield 10, 3) := by decide +kernel
theorem t_X11_count_88 : decode prog_1_method_75_code 88 = .ok (.invokevirtual 145, 3) := by decide +kernel
theorem t_X11_count_91 : decode prog_1_method_75_code 91 = .ok (.ireturn, 1) := by decide +kernel
theorem t_X11_count_92 : decode prog_1_method_75_code 92 = .ok (.aload_n 0, 1) := by decide +kernel
theorem t_X11_count_93 : decode prog_1_method_75_code 93 = .ok (.getfield 10, 3) := by decide +kernel
theorem t_X11_count_96 : decode prog_1_method_75_code 96 = .ok (.invokevirtual 245, 3) := by decide +kernel
theorem t_X11_count_99 : decode prog_1_method_75_code 99 = .ok (.ifCond .eq 7, 3) := by decide +kernel
theorem t_X11_count_102 : decode prog_1_method_75_code 102 = .ok (.iconst 1, 1) := by decide +kernel
theorem t_X11_count_103 : decode prog_1_method_75_code 103 = .ok (.goto 4, 3) := by decide +kernel
theorem t_X11_count_106 : decode prog_1_method_75_code 106 = .ok (.iconst 0, 1) := by decide +kernel
theorem t_X11_count_107 : decode prog_1_method_75_code 107 = .ok (.ireturn, 1) := by decide +kernel
theorem t_X11_count_108 : decode prog_1_method_75_code 108 = .ok (.aload_n 0, 1) := by decide +kernel
theorem t_X11_count_109 : decode prog_1_method_75_code 109 = .ok (.getfield 112, 3) := by decide +kernel
theorem t_X11_count_112 : decode prog_1_method_75_code 112 = .ok (.ireturn, 1) := by decide +kernel
theorem t_X11_count_113 : decode prog_1_method_75_code 113 = .ok (.aload_n 0, 1) := by decide +kernel
theorem t_X11_count_114 : decode prog_1_method_75_code 114 = .ok (.getfield 101, 3) := by decide +kernel
theorem t_X11_count_117 : decode prog_1_method_75_code 117 = .ok (.getfield 383, 3) := by decide +kernel
theorem t_X11_count_120 : decode prog_1_method_75_code 120 = .ok (.ireturn, 1) := by decide +kernel
theorem t_X11_count_121 : decode prog_1_method_75_code 121 = .ok (.aload_n 0, 1) := by decide +kernel
theorem t_X11_count_122 : decode prog_1_method_75_code 122 = .ok (.getfield 105, 3) := by decide +kernel
theorem t_X11_count_125 : decode prog_1_method_75_code 125 = .ok (.getfield 383, 3) := by decide +kernel
theorem t_X11_count_128 : decode prog_1_method_75_code 128 = .ok (.ireturn, 1) := by decide +kernel
theorem t_X11_count_129 : decode prog_1_method_75_code 129 = .ok (.aload_n 0, 1) := by decide +kernel
theorem t_X11_count_130 : decode prog_1_method_75_code 130 = .ok (.getfield 33, 3) := by decide +kernel
theorem t_X11_count_133 : decode prog_1_method_75_code 133 = .ok (.getfield 281, 3) := by decide +kernel
theorem t_X11_count_136 : decode prog_1_method_75_code 136 = .ok (.ireturn, 1) := by decide +kernel
theorem t_X11_count_137 : decode prog_1_method_75_code 137 = .ok (.aload_n 0, 1) := by decide +kernel
theorem t_X11_count_138 : decode prog_1_method_75_code 138 = .ok (.getfield 47, 3) := by decide +kernel
theorem t_X11_count_141 : decode prog_1_method_75_code 141 = .ok (.getfield 450, 3) := by decide +kernel
theorem t_X11_count_144 : decode prog_1_method_75_code 144 = .ok (.ireturn, 1) := by decide +kernel
theorem t_X11_count_145 : decode prog_1_method_75_code 145 = .ok (.aload_n 0, 1) := by decide +kernel
theorem t_X11_count_146 : decode prog_1_method_75_code 146 = .ok (.getfield 40, 3) := by decide +kernel
theorem t_X11_count_149 : decode prog_1_method_75_code 149 = .ok (.getfield 130, 3) := by decide +kernel
theorem t_X11_count_152 : decode prog_1_method_75_code 152 = .ok (.ireturn, 1) := by decide +kernel
theorem t_X11_count_153 : decode prog_1_method_75_code 153 = .ok (.iconst (-1), 1) := by decide +kernel
theorem t_X11_count_154 : decode prog_1_method_75_code 154 = .ok (.ireturn, 1) := by decide +kernel
theorem fl_11_22 : FLk "SowingBoards" 22 11 3 := ⟨_, rfl, by decide, Or.inl (vtb_at 478 (by decide +kernel) rfl)⟩
theorem fl_11_105 : FLk "SowingBoards" 105 11 16 := ⟨_, rfl, by decide, Or.inl (vtb_at 491 (by decide +kernel) rfl)⟩
theorem fl_11_389 : FLk "SowingBoards" 389 2 0 := ⟨_, rfl, by decide, Or.inr ⟨"SowingBoards", vnl_at 448 (by decide +kernel) rfl⟩⟩
theorem fl_11_392 : FLk "SowingBoards" 392 2 1 := ⟨_, rfl, by decide, Or.inr ⟨"SowingBoards", vnl_at 450 (by decide +kernel) rfl⟩⟩
theorem fl_11_450 : FLk "SowingBoards" 450 3 1 := ⟨_, rfl, by decide, Or.inr ⟨"SowingBoards", vnl_at 259 (by decide +kernel) rfl⟩⟩
theorem cc_11_449 : Cond.constant "SowingBoards" 449 1103515245 ∈ vtb := vtb_at 1220 (by decide +kernel) rfl
theorem my_X11_isSo : MY y_X11_isSo prog_1_method_56_code 5 (some .boolean) 3 := ⟨vtb_at 1147 (by decide +kernel) rfl, vtb_at 139 (by decide +kernel) rfl, ⟨by decide, by decide, by decide +kernel⟩, by decide⟩
theorem mi_X11_isSo : MI y_X11_isSo := ⟨vtb_at 1146 (by decide +kernel) rfl, vtb_at 82 (by decide +kernel) rfl⟩
theorem my_X11_pitsOfClue : MY y_X11_pitsOfClue prog_1_method_55_code 5 (some .int) 2 := ⟨vtb_at 1143 (by decide +kernel) rfl, vtb_at 139 (by decide +kernel) rfl, ⟨by decide, by decide, by decide +kernel⟩, by decide⟩
theorem mi_X11_pitsOfClue : MI y_X11_pitsOfClue := ⟨vtb_at 1142 (by decide +kernel) rfl, vtb_at 81 (by decide +kernel) rfl⟩
theorem my_X11_fittingPits : MY y_X11_fittingPits prog_1_method_54_code 3 (some .int) 0 := ⟨vtb_at 1139 (by decide +kernel) rfl, vtb_at 139 (by decide +kernel) rfl, ⟨by decide, by decide, by decide +kernel⟩, by decide⟩
theorem mi_X11_fittingPits : MI y_X11_fittingPits := ⟨vtb_at 1138 (by decide +kernel) rfl, vtb_at 80 (by decide +kernel) rfl⟩
theorem my_X11_explains : MY y_X11_explains prog_1_method_62_code 4 (some .boolean) 1 := ⟨vtb_at 1173 (by decide +kernel) rfl, vtb_at 139 (by decide +kernel) rfl, ⟨by decide, by decide, by decide +kernel⟩, by decide⟩
theorem mi_X11_explains : MI y_X11_explains := ⟨vtb_at 1172 (by decide +kernel) rfl, vtb_at 84 (by decide +kernel) rfl⟩
theorem my_X11_setsLeft : MY y_X11_setsLeft prog_1_method_61_code 4 (some .long) 0 := ⟨vtb_at 1169 (by decide +kernel) rfl, vtb_at 139 (by decide +kernel) rfl, ⟨by decide, by decide, by decide +kernel⟩, by decide⟩
theorem mi_X11_setsLeft : MI y_X11_setsLeft := ⟨vtb_at 1168 (by decide +kernel) rfl, vtb_at 83 (by decide +kernel) rfl⟩
theorem my_J13_numberOfTrailingZeros_95d88 : MY y_J13_numberOfTrailingZeros_95d88 prog_21_method_49_code 3 (some .int) 1 := ⟨vtb_at 1176 (by decide +kernel) rfl, vtb_at 165 (by decide +kernel) rfl, ⟨by decide, by decide, by decide +kernel⟩, by decide⟩
theorem ms_J13_numberOfTrailingZeros_95d88 : Cond.static y_J13_numberOfTrailingZeros_95d88 ∈ vtb := vtb_at 1175 (by decide +kernel) rfl
theorem my_J13_bitCount_95d88 : MY y_J13_bitCount_95d88 prog_21_method_50_code 2 (some .int) 1 := ⟨vtb_at 1183 (by decide +kernel) rfl, vtb_at 165 (by decide +kernel) rfl, ⟨by decide, by decide, by decide +kernel⟩, by decide⟩
theorem ms_J13_bitCount_95d88 : Cond.static y_J13_bitCount_95d88 ∈ vtb := vtb_at 1182 (by decide +kernel) rfl
theorem my_X11_mostLeftBy : MY y_X11_mostLeftBy prog_1_method_64_code 7 (some .int) 2 := ⟨vtb_at 1194 (by decide +kernel) rfl, vtb_at 139 (by decide +kernel) rfl, ⟨by decide, by decide, by decide +kernel⟩, by decide⟩
theorem mi_X11_mostLeftBy : MI y_X11_mostLeftBy := ⟨vtb_at 1193 (by decide +kernel) rfl, vtb_at 85 (by decide +kernel) rfl⟩
theorem my_X11_profit : MY y_X11_profit prog_1_method_67_code 3 (some .int) 3 := ⟨vtb_at 1204 (by decide +kernel) rfl, vtb_at 139 (by decide +kernel) rfl, ⟨by decide, by decide, by decide +kernel⟩, by decide⟩
theorem ms_X11_profit : Cond.static y_X11_profit ∈ vtb := vtb_at 1203 (by decide +kernel) rfl
theorem my_X11_isContent : MY y_X11_isContent prog_1_method_66_code 5 (some .boolean) 3 := ⟨vtb_at 1201 (by decide +kernel) rfl, vtb_at 139 (by decide +kernel) rfl, ⟨by decide, by decide, by decide +kernel⟩, by decide⟩
theorem ms_X11_isContent : Cond.static y_X11_isContent ∈ vtb := vtb_at 1200 (by decide +kernel) rfl
theorem my_X11_leadBy : MY y_X11_leadBy prog_1_method_69_code 3 (some .int) 1 := ⟨vtb_at 1212 (by decide +kernel) rfl, vtb_at 139 (by decide +kernel) rfl, ⟨by decide, by decide, by decide +kernel⟩, by decide⟩
theorem mi_X11_leadBy : MI y_X11_leadBy := ⟨vtb_at 1211 (by decide +kernel) rfl, vtb_at 86 (by decide +kernel) rfl⟩
theorem my_X11_drawAgain : MY y_X11_drawAgain prog_1_method_71_code 1 (some .int) 1 := ⟨vtb_at 1219 (by decide +kernel) rfl, vtb_at 139 (by decide +kernel) rfl, ⟨by decide, by decide, by decide +kernel⟩, by decide⟩
theorem ms_X11_drawAgain : Cond.static y_X11_drawAgain ∈ vtb := vtb_at 1218 (by decide +kernel) rfl
theorem my_X11_draw : MY y_X11_draw prog_1_method_72_code 2 (some .int) 2 := ⟨vtb_at 1223 (by decide +kernel) rfl, vtb_at 139 (by decide +kernel) rfl, ⟨by decide, by decide, by decide +kernel⟩, by decide⟩
theorem ms_X11_draw : Cond.static y_X11_draw ∈ vtb := vtb_at 1222 (by decide +kernel) rfl
theorem my_X5_fullPit : MY y_X5_fullPit prog_7_method_13_code 4 (some .int) 1 := ⟨vtb_at 1228 (by decide +kernel) rfl, vtb_at 140 (by decide +kernel) rfl, ⟨by decide, by decide, by decide +kernel⟩, by decide⟩
theorem mi_X5_fullPit : MI y_X5_fullPit := ⟨vtb_at 1227 (by decide +kernel) rfl, vtb_at 87 (by decide +kernel) rfl⟩
theorem ml_11_386 : ML "SowingBoards" 386 y_X11_fittingPits := Or.inl (vtb_at 1136 (by decide +kernel) rfl)
theorem ml_11_395 : ML "SowingBoards" 395 y_X11_pitsOfClue := Or.inl (vtb_at 1140 (by decide +kernel) rfl)
theorem ml_11_398 : ML "SowingBoards" 398 y_X11_isSo := Or.inl (vtb_at 1144 (by decide +kernel) rfl)
theorem ml_11_408 : ML "SowingBoards" 408 y_X11_setsLeft := Or.inl (vtb_at 1166 (by decide +kernel) rfl)
theorem ml_11_411 : ML "SowingBoards" 411 y_J13_numberOfTrailingZeros_95d88 := Or.inl (vtb_at 1174 (by decide +kernel) rfl)
theorem ml_11_417 : ML "SowingBoards" 417 y_J13_bitCount_95d88 := Or.inl (vtb_at 1181 (by decide +kernel) rfl)
theorem ml_11_419 : ML "SowingBoards" 419 y_X11_explains := Or.inl (vtb_at 1170 (by decide +kernel) rfl)
theorem ml_11_422 : ML "SowingBoards" 422 y_X11_mostLeftBy := Or.inl (vtb_at 1191 (by decide +kernel) rfl)
theorem ml_11_426 : ML "SowingBoards" 426 y_X11_isContent := Or.inl (vtb_at 1199 (by decide +kernel) rfl)
theorem ml_11_429 : ML "SowingBoards" 429 y_X11_profit := Or.inl (vtb_at 1202 (by decide +kernel) rfl)
theorem ml_11_433 : ML "SowingBoards" 433 y_X11_leadBy := Or.inl (vtb_at 1209 (by decide +kernel) rfl)
theorem ml_11_437 : ML "SowingBoards" 437 y_X11_drawAgain := Or.inl (vtb_at 1217 (by decide +kernel) rfl)
theorem ml_11_440 : ML "SowingBoards" 440 y_X11_draw := Or.inl (vtb_at 1221 (by decide +kernel) rfl)
theorem ml_11_443 : ML "SowingBoards" 443 y_X5_fullPits := Or.inr ⟨"SowingBoards", vnl_at 1224 (by decide +kernel) rfl⟩
theorem ml_11_446 : ML "SowingBoards" 446 y_X5_fullPit := Or.inr ⟨"SowingBoards", vnl_at 1225 (by decide +kernel) rfl⟩
def J_X11_pitsOfClue_j35_1 (r5 : Int32 → Int32 → Wd → Option (Int32 × Wd)) (x6 : Int32) : Int32 → Wd → Option (Int32 × Wd) := fun x12 w13 =>
  bd (x6 + 1) fun x15 => r5 x12 x15 w13
def L_X11_pitsOfClue_5 (x1 : Int32) (x2 : Int32) (k3 : Int32 → Wd → Option (Int32 × Wd)) : Nat → Int32 → Int32 → Wd → Option (Int32 × Wd)
  | 0, _, _, _ => none
  | n4 + 1, x5, x6, w7 =>
    bc (D_X5_pits 0 w7) fun x9 w8 => if x9 ≤ x6 then (k3 x5 w8) else (bc (D_X11_isSo x6 x1 x2 w8) fun x11 w10 => bd (J_X11_pitsOfClue_j35_1 (L_X11_pitsOfClue_5 x1 x2 k3 n4) x6) fun k14 => if x11 = 0 then (k14 x5 w10) else (bd (x5 ||| (1 <<< (x6 &&& 31))) fun x16 => k14 x16 w10))
def J_X11_pitsOfClue_x41_2  : Int32 → Wd → Option (Int32 × Wd) := fun x17 w18 =>
  some (x17, w18)
def D_X11_pitsOfClue (p1 : Int32) (p2 : Int32) : Wd → Option (Int32 × Wd) := fun w =>
  L_X11_pitsOfClue_5 p1 p2 J_X11_pitsOfClue_x41_2 FU 0 0 w
set_option maxRecDepth 20000 in
theorem Q_X11_pitsOfClue_5 {l0 : Launch} {ρ : Nat → Nat} {cs : Nat → ClassId} {G : va_G} {X : Cx} (hρ : injN ρ) (hn : X.2.2.2.2.2.2.2.2.2.2.1 = 5) (h : Okx l0 ρ cs G X prog_1_method_55_code "SowingBoards" 2) {rr : (Int32 × Wd)} (hR : ∀ pc L, decode prog_1_method_55_code pc = .ok (.ireturn, 1) → narrow .int (.int rr.1) = .int rr.1 → gG ρ cs G X pc L [.int rr.1] rr.2) {x1 : Int32} {x2 : Int32} {k3 : Int32 → Wd → Option (Int32 × Wd)} (hk3 : ∀ (z3 : Int32) (w1 : Wd), k3 z3 w1 = some rr → gG ρ cs G X 41 [(3, .int z3)] [] w1) : ∀ (n : Nat) (x5 : Int32) (x6 : Int32) (w : Wd), L_X11_pitsOfClue_5 x1 x2 k3 n x5 x6 w = some rr → gG ρ cs G X 5 [(0, .ref (ρ 75)), (1, .int x1), (2, .int x2), (3, .int x5), (4, .int x6)] [] w := by
  intro n
  induction n with
  | zero =>
    intro x5 x6 w hD
    cases hD
  | succ n4 ih =>
    intro x5 x6 w7 hD
    unfold L_X11_pitsOfClue_5 at hD
    refine g_iload h 4 t_X11_pitsOfClue_5 rfl ?_
    refine g_aload_n h 0 t_X11_pitsOfClue_7 rfl ?_
    refine g_getR h 75 0 0 fl_11_10 rfl (by decide) rfl t_X11_pitsOfClue_8 ?_
    refine g_callVI h 0 (As := []) (st := [.int x6]) my_X5_pits mi_X5_pits ml_11_116 rfl (by decide) rfl rfl rfl (Nat.le_of_ble_eq_true rfl) (by decide) t_X11_pitsOfClue_11 hD (fun _ _ e => S_X5_pits hρ (by decide) e) (fun x9 w8 hD => ?_)
    refine g_icmp_ge (tgt := 41) h t_X11_pitsOfClue_14 (by decide) hD (fun hD => ?_) (fun hD => ?_)
    · refine g_loc (L' := [(3, .int x5)]) h [3] rfl ?_
      exact hk3 x5 _ hD
    · refine g_aload_n h 0 t_X11_pitsOfClue_17 rfl ?_
      refine g_iload h 4 t_X11_pitsOfClue_18 rfl ?_
      refine g_iload_n h 1 t_X11_pitsOfClue_20 rfl ?_
      refine g_iload_n h 2 t_X11_pitsOfClue_21 rfl ?_
      refine g_callVI h 75 (As := [.int x6, .int x1, .int x2]) (st := []) my_X11_isSo mi_X11_isSo ml_11_398 rfl (by decide) rfl rfl rfl (Nat.le_of_ble_eq_true rfl) (by decide) t_X11_pitsOfClue_22 hD (fun _ _ e => S_X11_isSo hρ  e) (fun x11 w10 hD => ?_)
      refine g_join (P := fun k14 => ∀ (x12 : Int32) (w13 : Wd), k14 x12 w13 = some rr → gG ρ cs G X 35 [(0, .ref (ρ 75)), (1, .int x1), (2, .int x2), (3, .int x12), (4, .int x6)] [] w13) hD ?_ (fun k14 hk14 hD => ?_)
      · intro x12 w13 hD
        unfold J_X11_pitsOfClue_j35_1 at hD
        obtain ⟨x15, ex15, hD⟩ := bd_ex hD
        refine g_iinc (v := x15) (L' := [(4, .int x15), (0, .ref (ρ 75)), (1, .int x1), (2, .int x2), (3, .int x12)]) h hn t_X11_pitsOfClue_35 (k := 4) rfl (by rw [ex15]; rfl) (by decide) rfl ?_
        refine g_goto (tgt := 5) h t_X11_pitsOfClue_38 (by decide) ?_
        refine g_loc (L' := [(0, .ref (ρ 75)), (1, .int x1), (2, .int x2), (3, .int x12), (4, .int x15)]) h [1, 2, 3, 4, 0] rfl ?_
        exact ih x12 x15 _ hD
      · refine g_if_eq (tgt := 35) h t_X11_pitsOfClue_25 (by decide) hD (fun hD => ?_) (fun hD => ?_)
        · refine g_loc (L' := [(0, .ref (ρ 75)), (1, .int x1), (2, .int x2), (3, .int x5), (4, .int x6)]) h [0, 1, 2, 3, 4] rfl ?_
          exact hk14 x5 _ hD
        · refine g_iload_n h 3 t_X11_pitsOfClue_28 rfl ?_
          refine g_iconst (v := 1) h t_X11_pitsOfClue_29 (by decide) ?_
          refine g_iload h 4 t_X11_pitsOfClue_30 rfl ?_
          refine g_ishl h t_X11_pitsOfClue_32 ?_
          refine g_ior h t_X11_pitsOfClue_33 ?_
          refine g_bdI hD (fun x16 hD => ?_)
          refine g_istore_n (L' := [(3, .int x16), (0, .ref (ρ 75)), (1, .int x1), (2, .int x2), (4, .int x6)]) h hn t_X11_pitsOfClue_34 rfl (by decide) rfl ?_
          refine g_loc (L' := [(0, .ref (ρ 75)), (1, .int x1), (2, .int x2), (3, .int x16), (4, .int x6)]) h [1, 2, 3, 0, 4] rfl ?_
          exact hk14 x16 _ hD
set_option maxRecDepth 20000 in
theorem S_X11_pitsOfClue {l0 : Launch} {ρ : Nat → Nat} {cs : Nat → ClassId} {G : va_G} (hρ : injN ρ) {p1 : Int32} {p2 : Int32} {w : Wd} {rr : (Int32 × Wd)} (hD : D_X11_pitsOfClue p1 p2 w = some rr) : CtI l0 ρ cs G y_X11_pitsOfClue prog_1_method_55_code 5 .int 2 [.ref (ρ 75), .int p1, .int p2] w rr.1 rr.2 := by
  refine ctI_of hρ (by decide) (Nat.le_of_ble_eq_true rfl) (fun X hn h hR => ?_)
  unfold D_X11_pitsOfClue at hD
  show gG ρ cs G X 0 [(0, .ref (ρ 75)), (1, .int p1), (2, .int p2)] [] w
  refine g_iconst (v := 0) h t_X11_pitsOfClue_0 (by decide) ?_
  refine g_istore_n (L' := [(3, .int 0), (0, .ref (ρ 75)), (1, .int p1), (2, .int p2)]) h hn t_X11_pitsOfClue_1 rfl (by decide) rfl ?_
  refine g_iconst (v := 0) h t_X11_pitsOfClue_2 (by decide) ?_
  refine g_istore (L' := [(4, .int 0), (3, .int 0), (0, .ref (ρ 75)), (1, .int p1), (2, .int p2)]) h hn t_X11_pitsOfClue_3 (by decide) rfl ?_
  refine g_loc (L' := [(0, .ref (ρ 75)), (1, .int p1), (2, .int p2), (3, .int 0), (4, .int 0)]) h [2, 3, 4, 1, 0] rfl ?_
  refine Q_X11_pitsOfClue_5 hρ hn h hR  ?_ _ _ _ _ hD
  · intro x17 w18 hD
    unfold J_X11_pitsOfClue_x41_2 at hD
    refine g_iload_n h 0 t_X11_pitsOfClue_41 rfl ?_
    obtain rfl := Option.some.inj hD
    exact hR _ _ t_X11_pitsOfClue_42 rfl
def L_X11_fittingPits_14 (k4 : Int32 → Wd → Option (Int32 × Wd)) : Nat → Int32 → Int32 → Wd → Option (Int32 × Wd)
  | 0, _, _, _ => none
  | n5 + 1, x6, x7, w8 =>
    if (w8.1 112 3) ≤ x7 then (k4 x6 w8) else (if ib x7 12 then (if ib x7 12 then (bc (D_X11_pitsOfClue (w8.1 113 x7.toNatClampNeg) (w8.1 114 x7.toNatClampNeg) w8) fun x10 w9 => bd (x6 &&& x10) fun x11 => bd (x7 + 1) fun x12 => L_X11_fittingPits_14 k4 n5 x11 x12 w9) else none) else none)
def J_X11_fittingPits_x56_1  : Int32 → Wd → Option (Int32 × Wd) := fun x13 w14 =>
  some (x13, w14)
def D_X11_fittingPits  : Wd → Option (Int32 × Wd) := fun w =>
  bc (D_X5_pits 0 w) fun x2 w1 => bd ((1 <<< (x2 &&& 31)) - 1) fun x3 => L_X11_fittingPits_14 J_X11_fittingPits_x56_1 FU x3 0 w1
set_option maxRecDepth 20000 in
theorem Q_X11_fittingPits_14 {l0 : Launch} {ρ : Nat → Nat} {cs : Nat → ClassId} {G : va_G} {X : Cx} (hρ : injN ρ) (hn : X.2.2.2.2.2.2.2.2.2.2.1 = 3) (h : Okx l0 ρ cs G X prog_1_method_54_code "SowingBoards" 3) {rr : (Int32 × Wd)} (hR : ∀ pc L, decode prog_1_method_54_code pc = .ok (.ireturn, 1) → narrow .int (.int rr.1) = .int rr.1 → gG ρ cs G X pc L [.int rr.1] rr.2)  {k4 : Int32 → Wd → Option (Int32 × Wd)} (hk4 : ∀ (z1 : Int32) (w1 : Wd), k4 z1 w1 = some rr → gG ρ cs G X 56 [(1, .int z1)] [] w1) : ∀ (n : Nat) (x6 : Int32) (x7 : Int32) (w : Wd), L_X11_fittingPits_14 k4 n x6 x7 w = some rr → gG ρ cs G X 14 [(0, .ref (ρ 75)), (1, .int x6), (2, .int x7)] [] w := by
  intro n
  induction n with
  | zero =>
    intro x6 x7 w hD
    cases hD
  | succ n5 ih =>
    intro x6 x7 w8 hD
    unfold L_X11_fittingPits_14 at hD
    refine g_iload_n h 2 t_X11_fittingPits_14 rfl ?_
    refine g_aload_n h 0 t_X11_fittingPits_15 rfl ?_
    refine g_getR h 75 15 112 fl_11_101 rfl (by decide) rfl t_X11_fittingPits_16 ?_
    refine g_getI h 112 3 fl_11_383 rfl (by decide) rfl t_X11_fittingPits_19 ?_
    refine g_icmp_ge (tgt := 56) h t_X11_fittingPits_22 (by decide) hD (fun hD => ?_) (fun hD => ?_)
    · refine g_loc (L' := [(1, .int x6)]) h [1] rfl ?_
      exact hk4 x6 _ hD
    · refine g_iload_n h 1 t_X11_fittingPits_25 rfl ?_
      refine g_aload_n h 0 t_X11_fittingPits_26 rfl ?_
      refine g_aload_n h 0 t_X11_fittingPits_27 rfl ?_
      refine g_getR h 75 15 112 fl_11_101 rfl (by decide) rfl t_X11_fittingPits_28 ?_
      refine g_getQ h 112 0 113 1 (by decide) rfl fl_11_389 rfl (by decide) rfl t_X11_fittingPits_31 ?_
      refine g_iload_n h 2 t_X11_fittingPits_34 rfl ?_
      refine g_iald h 113 rfl (by decide) t_X11_fittingPits_35 hD (fun hD => ?_)
      refine g_aload_n h 0 t_X11_fittingPits_36 rfl ?_
      refine g_getR h 75 15 112 fl_11_101 rfl (by decide) rfl t_X11_fittingPits_37 ?_
      refine g_getQ h 112 1 114 2 (by decide) rfl fl_11_392 rfl (by decide) rfl t_X11_fittingPits_40 ?_
      refine g_iload_n h 2 t_X11_fittingPits_43 rfl ?_
      refine g_iald h 114 rfl (by decide) t_X11_fittingPits_44 hD (fun hD => ?_)
      refine g_callVI h 75 (As := [.int (w8.1 113 x7.toNatClampNeg), .int (w8.1 114 x7.toNatClampNeg)]) (st := [.int x6]) my_X11_pitsOfClue mi_X11_pitsOfClue ml_11_395 rfl (by decide) rfl rfl rfl (Nat.le_of_ble_eq_true rfl) (by decide) t_X11_fittingPits_45 hD (fun _ _ e => S_X11_pitsOfClue hρ  e) (fun x10 w9 hD => ?_)
      refine g_iand h t_X11_fittingPits_48 ?_
      refine g_bdI hD (fun x11 hD => ?_)
      refine g_istore_n (L' := [(1, .int x11), (0, .ref (ρ 75)), (2, .int x7)]) h hn t_X11_fittingPits_49 rfl (by decide) rfl ?_
      obtain ⟨x12, ex12, hD⟩ := bd_ex hD
      refine g_iinc (v := x12) (L' := [(2, .int x12), (1, .int x11), (0, .ref (ρ 75))]) h hn t_X11_fittingPits_50 (k := 2) rfl (by rw [ex12]; rfl) (by decide) rfl ?_
      refine g_goto (tgt := 14) h t_X11_fittingPits_53 (by decide) ?_
      refine g_loc (L' := [(0, .ref (ρ 75)), (1, .int x11), (2, .int x12)]) h [2, 1, 0] rfl ?_
      exact ih x11 x12 _ hD
set_option maxRecDepth 20000 in
theorem S_X11_fittingPits {l0 : Launch} {ρ : Nat → Nat} {cs : Nat → ClassId} {G : va_G} (hρ : injN ρ)  {w : Wd} {rr : (Int32 × Wd)} (hD : D_X11_fittingPits w = some rr) : CtI l0 ρ cs G y_X11_fittingPits prog_1_method_54_code 3 .int 3 [.ref (ρ 75)] w rr.1 rr.2 := by
  refine ctI_of hρ (by decide) (Nat.le_of_ble_eq_true rfl) (fun X hn h hR => ?_)
  unfold D_X11_fittingPits at hD
  show gG ρ cs G X 0 [(0, .ref (ρ 75))] [] w
  refine g_iconst (v := 1) h t_X11_fittingPits_0 (by decide) ?_
  refine g_aload_n h 0 t_X11_fittingPits_1 rfl ?_
  refine g_getR h 75 0 0 fl_11_10 rfl (by decide) rfl t_X11_fittingPits_2 ?_
  refine g_callVI h 0 (As := []) (st := [.int 1]) my_X5_pits mi_X5_pits ml_11_116 rfl (by decide) rfl rfl rfl (Nat.le_of_ble_eq_true rfl) (by decide) t_X11_fittingPits_5 hD (fun _ _ e => S_X5_pits hρ (by decide) e) (fun x2 w1 hD => ?_)
  refine g_ishl h t_X11_fittingPits_8 ?_
  refine g_iconst (v := 1) h t_X11_fittingPits_9 (by decide) ?_
  refine g_isub h t_X11_fittingPits_10 ?_
  refine g_bdI hD (fun x3 hD => ?_)
  refine g_istore_n (L' := [(1, .int x3), (0, .ref (ρ 75))]) h hn t_X11_fittingPits_11 rfl (by decide) rfl ?_
  refine g_iconst (v := 0) h t_X11_fittingPits_12 (by decide) ?_
  refine g_istore_n (L' := [(2, .int 0), (1, .int x3), (0, .ref (ρ 75))]) h hn t_X11_fittingPits_13 rfl (by decide) rfl ?_
  refine g_loc (L' := [(0, .ref (ρ 75)), (1, .int x3), (2, .int 0)]) h [2, 1, 0] rfl ?_
  refine Q_X11_fittingPits_14 hρ hn h hR  ?_ _ _ _ _ hD
  · intro x13 w14 hD
    unfold J_X11_fittingPits_x56_1 at hD
    refine g_iload_n h 0 t_X11_fittingPits_56 rfl ?_
    obtain rfl := Option.some.inj hD
    exact hR _ _ t_X11_fittingPits_57 rfl
def D_X11_fits  : Wd → Option (Int32 × Wd) := fun w =>
  bc (D_X11_fittingPits w) fun x2 w1 => bc (D_J6_bitCount_0f7a4 x2 w1) fun x4 w3 => bv (D_X3_tell x4.toInt64 w3) fun w5 => some (x2, w5)
set_option maxRecDepth 20000 in
theorem S_X11_fits {l0 : Launch} {ρ : Nat → Nat} {cs : Nat → ClassId} {G : va_G} (hρ : injN ρ)  {w : Wd} {rr : (Int32 × Wd)} (hD : D_X11_fits w = some rr) : CtI l0 ρ cs G y_X11_fits prog_1_method_53_code 2 .int 4 [.ref (ρ 75)] w rr.1 rr.2 := by
  refine ctI_of hρ (by decide) (Nat.le_of_ble_eq_true rfl) (fun X hn h hR => ?_)
  unfold D_X11_fits at hD
  show gG ρ cs G X 0 [(0, .ref (ρ 75))] [] w
  refine g_aload_n h 0 t_X11_fits_0 rfl ?_
  refine g_callVI h 75 (As := []) (st := []) my_X11_fittingPits mi_X11_fittingPits ml_11_386 rfl (by decide) rfl rfl rfl (Nat.le_of_ble_eq_true rfl) (by decide) t_X11_fits_1 hD (fun _ _ e => S_X11_fittingPits hρ  e) (fun x2 w1 hD => ?_)
  refine g_istore_n (L' := [(1, .int x2), (0, .ref (ρ 75))]) h hn t_X11_fits_4 rfl (by decide) rfl ?_
  refine g_aload_n h 1 t_X11_fits_5 rfl ?_
  refine g_getR h 75 7 82 fl_11_47 rfl (by decide) rfl t_X11_fits_6 ?_
  refine g_iload_n h 0 t_X11_fits_9 rfl ?_
  refine g_callSI h (As := [.int x2]) (st := [.ref (ρ 82)]) my_J6_bitCount_0f7a4 ms_J6_bitCount_0f7a4 ml_11_168 rfl rfl (Nat.le_of_ble_eq_true rfl) (by decide) t_X11_fits_10 hD (fun _ _ e => S_J6_bitCount_0f7a4 hρ  e) (fun x4 w3 hD => ?_)
  refine g_i2l h t_X11_fits_13 ?_
  refine g_callVV h 82 (As := [.long x4.toInt64]) (st := []) my_X3_tell mi_X3_tell ml_11_292 rfl (by decide) rfl rfl rfl (Nat.le_of_ble_eq_true rfl) (by decide) t_X11_fits_14 hD (fun _ e => S_X3_tell hρ  e) (fun w5 hD => ?_)
  refine g_iload_n h 0 t_X11_fits_17 rfl ?_
  obtain rfl := Option.some.inj hD
  exact hR _ _ t_X11_fits_18 rfl
def J_X11_asks_j99_1 (r39 : Int32 → Int32 → Int32 → Wd → Option (Int32 × Wd)) (x19 : Int32) : Int32 → Int32 → Wd → Option (Int32 × Wd) := fun x28 x29 w30 =>
  bd (x19 + 1) fun x32 => r39 x28 x29 x32 w30
def L_X11_asks_39 (x13 : Int32) (x14 : Int32) (k15 : Int32 → Int32 → Wd → Option (Int32 × Wd)) : Nat → Int32 → Int32 → Int32 → Wd → Option (Int32 × Wd)
  | 0, _, _, _, _ => none
  | n16 + 1, x17, x18, x19, w20 =>
    if ib x14 5 then (if (told5 x14.toNatClampNeg) < x19 then (k15 x17 x18 w20) else (bc (D_X11_pitsOfClue x14 x19 w20) fun x22 w21 => bc (D_J6_bitCount_0f7a4 (x13 &&& x22) w21) fun x24 w23 => bc (D_J6_bitCount_0f7a4 (x13 &&& (x22 ^^^ (-1))) w23) fun x26 w25 => bd (imax x24 x26) fun x27 => bd (J_X11_asks_j99_1 (L_X11_asks_39 x13 x14 k15 n16) x19) fun k31 => if x17 ≤ x27 then (k31 x17 x18 w25) else (bd ((10 * x14) + x19) fun x33 => k31 x27 x33 w25))) else none
def J_X11_asks_x105_2 (r27 : Int32 → Int32 → Int32 → Wd → Option (Int32 × Wd)) (x11 : Int32) : Int32 → Int32 → Wd → Option (Int32 × Wd) := fun x34 x35 w36 =>
  bd (x11 + 1) fun x37 => r27 x34 x35 x37 w36
def L_X11_asks_27 (x6 : Int32) (k7 : Int32 → Int32 → Wd → Option (Int32 × Wd)) : Nat → Int32 → Int32 → Int32 → Wd → Option (Int32 × Wd)
  | 0, _, _, _, _ => none
  | n8 + 1, x9, x10, x11, w12 =>
    if 5 ≤ x11 then (k7 x9 x10 w12) else (L_X11_asks_39 x6 x11 (J_X11_asks_x105_2 (L_X11_asks_27 x6 k7 n8) x11) FU x9 x10 0 w12)
def J_X11_asks_x111_3  : Int32 → Int32 → Wd → Option (Int32 × Wd) := fun x38 x39 w40 =>
  bv (D_X3_tell x38.toInt64 w40) fun w41 => some (x39, w41)
def D_X11_asks  : Wd → Option (Int32 × Wd) := fun w =>
  bc (D_X11_fittingPits w) fun x2 w1 => if x2 = 0 then (some ((-2), w1)) else (bc (D_X5_pits 0 w1) fun x4 w3 => bd (x4 + 1) fun x5 => L_X11_asks_27 x2 J_X11_asks_x111_3 FU x5 0 0 w3)
set_option maxRecDepth 20000 in
theorem Q_X11_asks_39 {l0 : Launch} {ρ : Nat → Nat} {cs : Nat → ClassId} {G : va_G} {X : Cx} (hρ : injN ρ) (hn : X.2.2.2.2.2.2.2.2.2.2.1 = 8) (h : Okx l0 ρ cs G X prog_1_method_57_code "SowingBoards" 4) {rr : (Int32 × Wd)} (hR : ∀ pc L, decode prog_1_method_57_code pc = .ok (.ireturn, 1) → narrow .int (.int rr.1) = .int rr.1 → gG ρ cs G X pc L [.int rr.1] rr.2) {x13 : Int32} {x14 : Int32} {k15 : Int32 → Int32 → Wd → Option (Int32 × Wd)} (hk15 : ∀ (z2 : Int32) (z3 : Int32) (w1 : Wd), k15 z2 z3 w1 = some rr → gG ρ cs G X 105 [(0, .ref (ρ 75)), (1, .int x13), (2, .int z2), (3, .int z3), (4, .int x14)] [] w1) : ∀ (n : Nat) (x17 : Int32) (x18 : Int32) (x19 : Int32) (w : Wd), L_X11_asks_39 x13 x14 k15 n x17 x18 x19 w = some rr → gG ρ cs G X 39 [(0, .ref (ρ 75)), (1, .int x13), (2, .int x17), (3, .int x18), (4, .int x14), (5, .int x19)] [] w := by
  intro n
  induction n with
  | zero =>
    intro x17 x18 x19 w hD
    cases hD
  | succ n16 ih =>
    intro x17 x18 x19 w20 hD
    unfold L_X11_asks_39 at hD
    refine g_iload h 5 t_X11_asks_39 rfl ?_
    refine g_gst h (vtb_at 1118 (by decide +kernel) rfl) t_X11_asks_41 ?_
    refine g_iload h 4 t_X11_asks_44 rfl ?_
    refine g_tald h t_X11_asks_46 hD (fun hD => ?_)
    refine g_icmp_gt (tgt := 105) h t_X11_asks_47 (by decide) hD (fun hD => ?_) (fun hD => ?_)
    · refine g_loc (L' := [(0, .ref (ρ 75)), (1, .int x13), (2, .int x17), (3, .int x18), (4, .int x14)]) h [0, 1, 2, 3, 4] rfl ?_
      exact hk15 x17 x18 _ hD
    · refine g_aload_n h 0 t_X11_asks_50 rfl ?_
      refine g_iload h 4 t_X11_asks_51 rfl ?_
      refine g_iload h 5 t_X11_asks_53 rfl ?_
      refine g_callVI h 75 (As := [.int x14, .int x19]) (st := []) my_X11_pitsOfClue mi_X11_pitsOfClue ml_11_395 rfl (by decide) rfl rfl rfl (Nat.le_of_ble_eq_true rfl) (by decide) t_X11_asks_55 hD (fun _ _ e => S_X11_pitsOfClue hρ  e) (fun x22 w21 hD => ?_)
      refine g_istore (L' := [(6, .int x22), (0, .ref (ρ 75)), (1, .int x13), (2, .int x17), (3, .int x18), (4, .int x14), (5, .int x19)]) h hn t_X11_asks_58 (by decide) rfl ?_
      refine g_iload_n h 2 t_X11_asks_60 rfl ?_
      refine g_iload h 0 t_X11_asks_61 rfl ?_
      refine g_iand h t_X11_asks_63 ?_
      refine g_callSI h (As := [.int (x13 &&& x22)]) (st := []) my_J6_bitCount_0f7a4 ms_J6_bitCount_0f7a4 ml_11_168 rfl rfl (Nat.le_of_ble_eq_true rfl) (by decide) t_X11_asks_64 hD (fun _ _ e => S_J6_bitCount_0f7a4 hρ  e) (fun x24 w23 hD => ?_)
      refine g_iload_n h 2 t_X11_asks_67 rfl ?_
      refine g_iload h 0 t_X11_asks_68 rfl ?_
      refine g_iconst (v := (-1)) h t_X11_asks_70 (by decide) ?_
      refine g_ixor h t_X11_asks_71 ?_
      refine g_iand h t_X11_asks_72 ?_
      refine g_callSI h (As := [.int (x13 &&& (x22 ^^^ (-1)))]) (st := [.int x24]) my_J6_bitCount_0f7a4 ms_J6_bitCount_0f7a4 ml_11_168 rfl rfl (Nat.le_of_ble_eq_true rfl) (by decide) t_X11_asks_73 hD (fun _ _ e => S_J6_bitCount_0f7a4 hρ  e) (fun x26 w25 hD => ?_)
      refine g_mmax h (st := []) (vtb_at 751 (by decide +kernel) rfl) (Nat.le_of_ble_eq_true rfl) t_X11_asks_76 ?_
      refine g_bdI hD (fun x27 hD => ?_)
      refine g_istore (L' := [(7, .int x27), (6, .int x22), (0, .ref (ρ 75)), (1, .int x13), (2, .int x17), (3, .int x18), (4, .int x14), (5, .int x19)]) h hn t_X11_asks_79 (by decide) rfl ?_
      refine g_iload h 0 t_X11_asks_81 rfl ?_
      refine g_iload_n h 4 t_X11_asks_83 rfl ?_
      refine g_join (P := fun k31 => ∀ (x28 : Int32) (x29 : Int32) (w30 : Wd), k31 x28 x29 w30 = some rr → gG ρ cs G X 99 [(0, .ref (ρ 75)), (1, .int x13), (2, .int x28), (3, .int x29), (4, .int x14), (5, .int x19)] [] w30) hD ?_ (fun k31 hk31 hD => ?_)
      · intro x28 x29 w30 hD
        unfold J_X11_asks_j99_1 at hD
        obtain ⟨x32, ex32, hD⟩ := bd_ex hD
        refine g_iinc (v := x32) (L' := [(5, .int x32), (0, .ref (ρ 75)), (1, .int x13), (2, .int x28), (3, .int x29), (4, .int x14)]) h hn t_X11_asks_99 (k := 5) rfl (by rw [ex32]; rfl) (by decide) rfl ?_
        refine g_goto (tgt := 39) h t_X11_asks_102 (by decide) ?_
        refine g_loc (L' := [(0, .ref (ρ 75)), (1, .int x13), (2, .int x28), (3, .int x29), (4, .int x14), (5, .int x32)]) h [1, 2, 3, 4, 5, 0] rfl ?_
        exact ih x28 x29 x32 _ hD
      · refine g_icmp_ge (tgt := 99) h t_X11_asks_84 (by decide) hD (fun hD => ?_) (fun hD => ?_)
        · refine g_loc (L' := [(0, .ref (ρ 75)), (1, .int x13), (2, .int x17), (3, .int x18), (4, .int x14), (5, .int x19)]) h [2, 3, 4, 5, 6, 7] rfl ?_
          exact hk31 x17 x18 _ hD
        · refine g_iload h 0 t_X11_asks_87 rfl ?_
          refine g_istore_n (L' := [(2, .int x27), (7, .int x27), (6, .int x22), (0, .ref (ρ 75)), (1, .int x13), (3, .int x18), (4, .int x14), (5, .int x19)]) h hn t_X11_asks_89 rfl (by decide) rfl ?_
          refine g_bipush (v := 10) h t_X11_asks_90 (by decide) ?_
          refine g_iload h 6 t_X11_asks_92 rfl ?_
          refine g_imul h t_X11_asks_94 ?_
          refine g_iload h 7 t_X11_asks_95 rfl ?_
          refine g_iadd h t_X11_asks_97 ?_
          refine g_bdI hD (fun x33 hD => ?_)
          refine g_istore_n (L' := [(3, .int x33), (2, .int x27), (7, .int x27), (6, .int x22), (0, .ref (ρ 75)), (1, .int x13), (4, .int x14), (5, .int x19)]) h hn t_X11_asks_98 rfl (by decide) rfl ?_
          refine g_loc (L' := [(0, .ref (ρ 75)), (1, .int x13), (2, .int x27), (3, .int x33), (4, .int x14), (5, .int x19)]) h [4, 5, 1, 0, 6, 7] rfl ?_
          exact hk31 x27 x33 _ hD
set_option maxRecDepth 20000 in
theorem Q_X11_asks_27 {l0 : Launch} {ρ : Nat → Nat} {cs : Nat → ClassId} {G : va_G} {X : Cx} (hρ : injN ρ) (hn : X.2.2.2.2.2.2.2.2.2.2.1 = 8) (h : Okx l0 ρ cs G X prog_1_method_57_code "SowingBoards" 4) {rr : (Int32 × Wd)} (hR : ∀ pc L, decode prog_1_method_57_code pc = .ok (.ireturn, 1) → narrow .int (.int rr.1) = .int rr.1 → gG ρ cs G X pc L [.int rr.1] rr.2) {x6 : Int32} {k7 : Int32 → Int32 → Wd → Option (Int32 × Wd)} (hk7 : ∀ (z2 : Int32) (z3 : Int32) (w1 : Wd), k7 z2 z3 w1 = some rr → gG ρ cs G X 111 [(0, .ref (ρ 75)), (2, .int z2), (3, .int z3)] [] w1) : ∀ (n : Nat) (x9 : Int32) (x10 : Int32) (x11 : Int32) (w : Wd), L_X11_asks_27 x6 k7 n x9 x10 x11 w = some rr → gG ρ cs G X 27 [(0, .ref (ρ 75)), (1, .int x6), (2, .int x9), (3, .int x10), (4, .int x11)] [] w := by
  intro n
  induction n with
  | zero =>
    intro x9 x10 x11 w hD
    cases hD
  | succ n8 ih =>
    intro x9 x10 x11 w12 hD
    unfold L_X11_asks_27 at hD
    refine g_iload h 4 t_X11_asks_27 rfl ?_
    refine g_gst h (vtb_at 1118 (by decide +kernel) rfl) t_X11_asks_29 ?_
    refine g_talen h t_X11_asks_32 ?_
    refine g_icmp_ge (tgt := 111) h t_X11_asks_33 (by decide) hD (fun hD => ?_) (fun hD => ?_)
    · refine g_loc (L' := [(0, .ref (ρ 75)), (2, .int x9), (3, .int x10)]) h [0, 2, 3] rfl ?_
      exact hk7 x9 x10 _ hD
    · refine g_iconst (v := 0) h t_X11_asks_36 (by decide) ?_
      refine g_istore (L' := [(5, .int 0), (0, .ref (ρ 75)), (1, .int x6), (2, .int x9), (3, .int x10), (4, .int x11)]) h hn t_X11_asks_37 (by decide) rfl ?_
      refine g_loc (L' := [(0, .ref (ρ 75)), (1, .int x6), (2, .int x9), (3, .int x10), (4, .int x11), (5, .int 0)]) h [1, 2, 3, 4, 5, 0] rfl ?_
      refine Q_X11_asks_39 hρ hn h hR  ?_ _ _ _ _ _ hD
      · intro x34 x35 w36 hD
        unfold J_X11_asks_x105_2 at hD
        obtain ⟨x37, ex37, hD⟩ := bd_ex hD
        refine g_iinc (v := x37) (L' := [(4, .int x37), (0, .ref (ρ 75)), (1, .int x6), (2, .int x34), (3, .int x35)]) h hn t_X11_asks_105 (k := 4) rfl (by rw [ex37]; rfl) (by decide) rfl ?_
        refine g_goto (tgt := 27) h t_X11_asks_108 (by decide) ?_
        refine g_loc (L' := [(0, .ref (ρ 75)), (1, .int x6), (2, .int x34), (3, .int x35), (4, .int x37)]) h [1, 2, 3, 4, 0] rfl ?_
        exact ih x34 x35 x37 _ hD
set_option maxRecDepth 20000 in
theorem S_X11_asks {l0 : Launch} {ρ : Nat → Nat} {cs : Nat → ClassId} {G : va_G} (hρ : injN ρ)  {w : Wd} {rr : (Int32 × Wd)} (hD : D_X11_asks w = some rr) : CtI l0 ρ cs G y_X11_asks prog_1_method_57_code 8 .int 4 [.ref (ρ 75)] w rr.1 rr.2 := by
  refine ctI_of hρ (by decide) (Nat.le_of_ble_eq_true rfl) (fun X hn h hR => ?_)
  unfold D_X11_asks at hD
  show gG ρ cs G X 0 [(0, .ref (ρ 75))] [] w
  refine g_aload_n h 0 t_X11_asks_0 rfl ?_
  refine g_callVI h 75 (As := []) (st := []) my_X11_fittingPits mi_X11_fittingPits ml_11_386 rfl (by decide) rfl rfl rfl (Nat.le_of_ble_eq_true rfl) (by decide) t_X11_asks_1 hD (fun _ _ e => S_X11_fittingPits hρ  e) (fun x2 w1 hD => ?_)
  refine g_istore_n (L' := [(1, .int x2), (0, .ref (ρ 75))]) h hn t_X11_asks_4 rfl (by decide) rfl ?_
  refine g_iload_n h 0 t_X11_asks_5 rfl ?_
  refine g_if_ne (tgt := 12) h t_X11_asks_6 (by decide) hD (fun hD => ?_) (fun hD => ?_)
  · refine g_aload_n h 1 t_X11_asks_12 rfl ?_
    refine g_getR h 75 0 0 fl_11_10 rfl (by decide) rfl t_X11_asks_13 ?_
    refine g_callVI h 0 (As := []) (st := []) my_X5_pits mi_X5_pits ml_11_116 rfl (by decide) rfl rfl rfl (Nat.le_of_ble_eq_true rfl) (by decide) t_X11_asks_16 hD (fun _ _ e => S_X5_pits hρ (by decide) e) (fun x4 w3 hD => ?_)
    refine g_iconst (v := 1) h t_X11_asks_19 (by decide) ?_
    refine g_iadd h t_X11_asks_20 ?_
    refine g_bdI hD (fun x5 hD => ?_)
    refine g_istore_n (L' := [(2, .int x5), (1, .int x2), (0, .ref (ρ 75))]) h hn t_X11_asks_21 rfl (by decide) rfl ?_
    refine g_iconst (v := 0) h t_X11_asks_22 (by decide) ?_
    refine g_istore_n (L' := [(3, .int 0), (2, .int x5), (1, .int x2), (0, .ref (ρ 75))]) h hn t_X11_asks_23 rfl (by decide) rfl ?_
    refine g_iconst (v := 0) h t_X11_asks_24 (by decide) ?_
    refine g_istore (L' := [(4, .int 0), (3, .int 0), (2, .int x5), (1, .int x2), (0, .ref (ρ 75))]) h hn t_X11_asks_25 (by decide) rfl ?_
    refine g_loc (L' := [(0, .ref (ρ 75)), (1, .int x2), (2, .int x5), (3, .int 0), (4, .int 0)]) h [4, 3, 2, 1, 0] rfl ?_
    refine Q_X11_asks_27 hρ hn h hR  ?_ _ _ _ _ _ hD
    · intro x38 x39 w40 hD
      unfold J_X11_asks_x111_3 at hD
      refine g_aload_n h 0 t_X11_asks_111 rfl ?_
      refine g_getR h 75 7 82 fl_11_47 rfl (by decide) rfl t_X11_asks_112 ?_
      refine g_iload_n h 1 t_X11_asks_115 rfl ?_
      refine g_i2l h t_X11_asks_116 ?_
      refine g_callVV h 82 (As := [.long x38.toInt64]) (st := []) my_X3_tell mi_X3_tell ml_11_292 rfl (by decide) rfl rfl rfl (Nat.le_of_ble_eq_true rfl) (by decide) t_X11_asks_117 hD (fun _ e => S_X3_tell hρ  e) (fun w41 hD => ?_)
      refine g_iload_n h 2 t_X11_asks_120 rfl ?_
      obtain rfl := Option.some.inj hD
      exact hR _ _ t_X11_asks_121 rfl
  · refine g_bipush (v := (-2)) h t_X11_asks_9 (by decide) ?_
    obtain rfl := Option.some.inj hD
    exact hR _ _ t_X11_asks_11 rfl
def J_X11_saw_j10_1 (p2 : Int32) (k7 : Wd → Option (Int32 × Wd)) (k3 : Int32 → Wd → Option (Int32 × Wd)) : Wd → Option (Int32 × Wd) := fun w8 =>
  if p2 = 50 then (k7 w8) else (k3 0 w8)
def J_X11_saw_j16_2 (k3 : Int32 → Wd → Option (Int32 × Wd)) : Wd → Option (Int32 × Wd) := fun w6 =>
  k3 1 w6
def J_X11_saw_j21_3 (p1 : Int32) (p2 : Int32) : Int32 → Wd → Option (Int32 × Wd) := fun x1 w2 =>
  if p1 < 0 then (some ((-1), w2)) else (if 6 ≤ p1 then (some ((-1), w2)) else (if x1 = 0 then (some ((-1), w2)) else (bc (D_X2_add 115 p1 p2 w2) fun x5 w4 => if x5 = 0 then (some ((-1), w4)) else (some (w4.1 115 3, w4)))))
def D_X11_saw (p1 : Int32) (p2 : Int32) : Wd → Option (Int32 × Wd) := fun w =>
  bd (J_X11_saw_j21_3 p1 p2) fun k3 => bd (J_X11_saw_j16_2 k3) fun k7 => bd (J_X11_saw_j10_1 p2 k7 k3) fun k9 => if p2 < 0 then (k9 w) else (if p2 < 12 then (k7 w) else (k9 w))
set_option maxRecDepth 20000 in
theorem S_X11_saw {l0 : Launch} {ρ : Nat → Nat} {cs : Nat → ClassId} {G : va_G} (hρ : injN ρ) {p1 : Int32} {p2 : Int32} {w : Wd} {rr : (Int32 × Wd)} (hD : D_X11_saw p1 p2 w = some rr) : CtI l0 ρ cs G y_X11_saw prog_1_method_58_code 4 .int 1 [.ref (ρ 75), .int p1, .int p2] w rr.1 rr.2 := by
  refine ctI_of hρ (by decide) (Nat.le_of_ble_eq_true rfl) (fun X hn h hR => ?_)
  unfold D_X11_saw at hD
  show gG ρ cs G X 0 [(0, .ref (ρ 75)), (1, .int p1), (2, .int p2)] [] w
  refine g_iload_n h 2 t_X11_saw_0 rfl ?_
  refine g_join (P := fun k3 => ∀ (x1 : Int32) (w2 : Wd), k3 x1 w2 = some rr → gG ρ cs G X 21 [(0, .ref (ρ 75)), (1, .int p1), (2, .int p2)] [.int x1] w2) hD ?_ (fun k3 hk3 hD => ?_)
  · intro x1 w2 hD
    unfold J_X11_saw_j21_3 at hD
    refine g_istore_n (L' := [(3, .int x1), (0, .ref (ρ 75)), (1, .int p1), (2, .int p2)]) h hn t_X11_saw_21 rfl (by decide) rfl ?_
    refine g_iload_n h 2 t_X11_saw_22 rfl ?_
    refine g_if_lt (tgt := 36) h t_X11_saw_23 (by decide) hD (fun hD => ?_) (fun hD => ?_)
    · refine g_iconst (v := (-1)) h t_X11_saw_36 (by decide) ?_
      obtain rfl := Option.some.inj hD
      exact hR _ _ t_X11_saw_37 rfl
    · refine g_iload_n h 2 t_X11_saw_26 rfl ?_
      refine g_bipush (v := 6) h t_X11_saw_27 (by decide) ?_
      refine g_icmp_ge (tgt := 36) h t_X11_saw_29 (by decide) hD (fun hD => ?_) (fun hD => ?_)
      · refine g_iconst (v := (-1)) h t_X11_saw_36 (by decide) ?_
        obtain rfl := Option.some.inj hD
        exact hR _ _ t_X11_saw_37 rfl
      · refine g_iload_n h 0 t_X11_saw_32 rfl ?_
        refine g_if_ne (tgt := 38) h t_X11_saw_33 (by decide) hD (fun hD => ?_) (fun hD => ?_)
        · refine g_aload_n h 1 t_X11_saw_38 rfl ?_
          refine g_getR h 75 16 115 fl_11_105 rfl (by decide) rfl t_X11_saw_39 ?_
          refine g_iload_n h 2 t_X11_saw_42 rfl ?_
          refine g_iload_n h 3 t_X11_saw_43 rfl ?_
          refine g_callVI h 115 (As := [.int p1, .int p2]) (st := []) my_X2_add mi_X2_add ml_11_381 rfl (by decide) rfl rfl rfl (Nat.le_of_ble_eq_true rfl) (by decide) t_X11_saw_44 hD (fun _ _ e => S_X2_add hρ (by decide) e) (fun x5 w4 hD => ?_)
          refine g_if_eq (tgt := 60) h t_X11_saw_47 (by decide) hD (fun hD => ?_) (fun hD => ?_)
          · refine g_iconst (v := (-1)) h t_X11_saw_60 (by decide) ?_
            obtain rfl := Option.some.inj hD
            exact hR _ _ t_X11_saw_61 rfl
          · refine g_aload_n h 1 t_X11_saw_50 rfl ?_
            refine g_getR h 75 16 115 fl_11_105 rfl (by decide) rfl t_X11_saw_51 ?_
            refine g_getI h 115 3 fl_11_383 rfl (by decide) rfl t_X11_saw_54 ?_
            refine g_goto (tgt := 61) h t_X11_saw_57 (by decide) ?_
            obtain rfl := Option.some.inj hD
            exact hR _ _ t_X11_saw_61 rfl
        · refine g_iconst (v := (-1)) h t_X11_saw_36 (by decide) ?_
          obtain rfl := Option.some.inj hD
          exact hR _ _ t_X11_saw_37 rfl
  · refine g_join (P := fun k7 => ∀ (w6 : Wd), k7 w6 = some rr → gG ρ cs G X 16 [(0, .ref (ρ 75)), (1, .int p1), (2, .int p2)] [] w6) hD ?_ (fun k7 hk7 hD => ?_)
    · intro w6 hD
      unfold J_X11_saw_j16_2 at hD
      refine g_iconst (v := 1) h t_X11_saw_16 (by decide) ?_
      refine g_goto (tgt := 21) h t_X11_saw_17 (by decide) ?_
      refine g_loc (L' := [(0, .ref (ρ 75)), (1, .int p1), (2, .int p2)]) h [0, 1, 2] rfl ?_
      exact hk3 1 _ hD
    · refine g_join (P := fun k9 => ∀ (w8 : Wd), k9 w8 = some rr → gG ρ cs G X 10 [(0, .ref (ρ 75)), (1, .int p1), (2, .int p2)] [] w8) hD ?_ (fun k9 hk9 hD => ?_)
      · intro w8 hD
        unfold J_X11_saw_j10_1 at hD
        refine g_iload_n h 2 t_X11_saw_10 rfl ?_
        refine g_bipush (v := 50) h t_X11_saw_11 (by decide) ?_
        refine g_icmp_ne (tgt := 20) h t_X11_saw_13 (by decide) hD (fun hD => ?_) (fun hD => ?_)
        · refine g_iconst (v := 0) h t_X11_saw_20 (by decide) ?_
          refine g_loc (L' := [(0, .ref (ρ 75)), (1, .int p1), (2, .int p2)]) h [0, 1, 2] rfl ?_
          exact hk3 0 _ hD
        · refine g_loc (L' := [(0, .ref (ρ 75)), (1, .int p1), (2, .int p2)]) h [0, 1, 2] rfl ?_
          exact hk7 _ hD
      · refine g_if_lt (tgt := 10) h t_X11_saw_1 (by decide) hD (fun hD => ?_) (fun hD => ?_)
        · refine g_loc (L' := [(0, .ref (ρ 75)), (1, .int p1), (2, .int p2)]) h [0, 1, 2] rfl ?_
          exact hk9 _ hD
        · refine g_iload_n h 2 t_X11_saw_4 rfl ?_
          refine g_bipush (v := 12) h t_X11_saw_5 (by decide) ?_
          refine g_icmp_lt (tgt := 16) h t_X11_saw_7 (by decide) hD (fun hD => ?_) (fun hD => ?_)
          · refine g_loc (L' := [(0, .ref (ρ 75)), (1, .int p1), (2, .int p2)]) h [0, 1, 2] rfl ?_
            exact hk7 _ hD
          · refine g_loc (L' := [(0, .ref (ρ 75)), (1, .int p1), (2, .int p2)]) h [0, 1, 2] rfl ?_
            exact hk9 _ hD
def D_X11_denies  : Wd → Option (Int32 × Wd) := fun w =>
  bc (D_X2_clear 115 w) fun x2 w1 => some (x2, w1)
set_option maxRecDepth 20000 in
theorem S_X11_denies {l0 : Launch} {ρ : Nat → Nat} {cs : Nat → ClassId} {G : va_G} (hρ : injN ρ)  {w : Wd} {rr : (Int32 × Wd)} (hD : D_X11_denies w = some rr) : CtI l0 ρ cs G y_X11_denies prog_1_method_59_code 1 .int 1 [.ref (ρ 75)] w rr.1 rr.2 := by
  refine ctI_of hρ (by decide) (Nat.le_of_ble_eq_true rfl) (fun X hn h hR => ?_)
  unfold D_X11_denies at hD
  show gG ρ cs G X 0 [(0, .ref (ρ 75))] [] w
  refine g_aload_n h 0 t_X11_denies_0 rfl ?_
  refine g_getR h 75 16 115 fl_11_105 rfl (by decide) rfl t_X11_denies_1 ?_
  refine g_callVI h 115 (As := []) (st := []) my_X2_clear mi_X2_clear ml_11_384 rfl (by decide) rfl rfl rfl (Nat.le_of_ble_eq_true rfl) (by decide) t_X11_denies_4 hD (fun _ _ e => S_X2_clear hρ (by decide) e) (fun x2 w1 hD => ?_)
  obtain rfl := Option.some.inj hD
  exact hR _ _ t_X11_denies_7 rfl
def L_X11_explains_2 (x1 : Int32) (k2 : Wd → Option (Int32 × Wd)) (k3 : Wd → Option (Int32 × Wd)) : Nat → Int32 → Wd → Option (Int32 × Wd)
  | 0, _, _ => none
  | n4 + 1, x5, w6 =>
    if (w6.1 115 3) ≤ x5 then (k3 w6) else (if ib x5 12 then (bc (D_X11_tryMove (w6.1 116 x5.toNatClampNeg) x1 w6) fun x8 w7 => if x8 = 0 then (k2 w7) else (if ib x5 12 then (if (w7.1 84 6) = (w7.1 117 x5.toNatClampNeg) then (bd (x5 + 1) fun x9 => L_X11_explains_2 x1 k2 k3 n4 x9 w7) else (k2 w7)) else none)) else none)
def J_X11_explains_x51_1  : Wd → Option (Int32 × Wd) := fun w10 =>
  some (0, w10)
def J_X11_explains_x59_2  : Wd → Option (Int32 × Wd) := fun w11 =>
  some (1, w11)
def D_X11_explains (p1 : Int32) : Wd → Option (Int32 × Wd) := fun w =>
  L_X11_explains_2 p1 J_X11_explains_x51_1 J_X11_explains_x59_2 FU 0 w
set_option maxRecDepth 20000 in
theorem Q_X11_explains_2 {l0 : Launch} {ρ : Nat → Nat} {cs : Nat → ClassId} {G : va_G} {X : Cx} (hρ : injN ρ) (hn : X.2.2.2.2.2.2.2.2.2.2.1 = 4) (h : Okx l0 ρ cs G X prog_1_method_62_code "SowingBoards" 4) {rr : (Int32 × Wd)} (hR : ∀ pc L, decode prog_1_method_62_code pc = .ok (.ireturn, 1) → narrow .boolean (.int rr.1) = .int rr.1 → gG ρ cs G X pc L [.int rr.1] rr.2) {x1 : Int32} {k2 : Wd → Option (Int32 × Wd)} (hk2 : ∀ (w1 : Wd), k2 w1 = some rr → gG ρ cs G X 51 [] [] w1) {k3 : Wd → Option (Int32 × Wd)} (hk3 : ∀ (w1 : Wd), k3 w1 = some rr → gG ρ cs G X 59 [] [] w1) : ∀ (n : Nat) (x5 : Int32) (w : Wd), L_X11_explains_2 x1 k2 k3 n x5 w = some rr → gG ρ cs G X 2 [(0, .ref (ρ 75)), (1, .int x1), (2, .int x5)] [] w := by
  intro n
  induction n with
  | zero =>
    intro x5 w hD
    cases hD
  | succ n4 ih =>
    intro x5 w6 hD
    unfold L_X11_explains_2 at hD
    refine g_iload_n h 2 t_X11_explains_2 rfl ?_
    refine g_aload_n h 0 t_X11_explains_3 rfl ?_
    refine g_getR h 75 16 115 fl_11_105 rfl (by decide) rfl t_X11_explains_4 ?_
    refine g_getI h 115 3 fl_11_383 rfl (by decide) rfl t_X11_explains_7 ?_
    refine g_icmp_ge (tgt := 59) h t_X11_explains_10 (by decide) hD (fun hD => ?_) (fun hD => ?_)
    · refine g_loc (L' := []) h [] rfl ?_
      exact hk3 _ hD
    · refine g_aload_n h 0 t_X11_explains_13 rfl ?_
      refine g_aload_n h 0 t_X11_explains_14 rfl ?_
      refine g_getR h 75 16 115 fl_11_105 rfl (by decide) rfl t_X11_explains_15 ?_
      refine g_getQ h 115 0 116 1 (by decide) rfl fl_11_389 rfl (by decide) rfl t_X11_explains_18 ?_
      refine g_iload_n h 2 t_X11_explains_21 rfl ?_
      refine g_iald h 116 rfl (by decide) t_X11_explains_22 hD (fun hD => ?_)
      refine g_iload_n h 1 t_X11_explains_23 rfl ?_
      refine g_callVI h 75 (As := [.int (w6.1 116 x5.toNatClampNeg), .int x1]) (st := []) my_X11_tryMove mi_X11_tryMove ml_11_284 rfl (by decide) rfl rfl rfl (Nat.le_of_ble_eq_true rfl) (by decide) t_X11_explains_24 hD (fun _ _ e => S_X11_tryMove hρ  e) (fun x8 w7 hD => ?_)
      refine g_istore_n (L' := [(3, .int x8), (0, .ref (ρ 75)), (1, .int x1), (2, .int x5)]) h hn t_X11_explains_27 rfl (by decide) rfl ?_
      refine g_iload_n h 0 t_X11_explains_28 rfl ?_
      refine g_if_eq (tgt := 51) h t_X11_explains_29 (by decide) hD (fun hD => ?_) (fun hD => ?_)
      · refine g_loc (L' := []) h [] rfl ?_
        exact hk2 _ hD
      · refine g_aload_n h 1 t_X11_explains_32 rfl ?_
        refine g_getR h 75 8 84 fl_11_54 rfl (by decide) rfl t_X11_explains_33 ?_
        refine g_getI h 84 6 fl_11_232 rfl (by decide) rfl t_X11_explains_36 ?_
        refine g_aload_n h 1 t_X11_explains_39 rfl ?_
        refine g_getR h 75 16 115 fl_11_105 rfl (by decide) rfl t_X11_explains_40 ?_
        refine g_getQ h 115 1 117 2 (by decide) rfl fl_11_392 rfl (by decide) rfl t_X11_explains_43 ?_
        refine g_iload_n h 3 t_X11_explains_46 rfl ?_
        refine g_iald h 117 rfl (by decide) t_X11_explains_47 hD (fun hD => ?_)
        refine g_icmp_eq (tgt := 53) h t_X11_explains_48 (by decide) hD (fun hD => ?_) (fun hD => ?_)
        · obtain ⟨x9, ex9, hD⟩ := bd_ex hD
          refine g_iinc (v := x9) (L' := [(2, .int x9), (3, .int x8), (0, .ref (ρ 75)), (1, .int x1)]) h hn t_X11_explains_53 (k := 3) rfl (by rw [ex9]; rfl) (by decide) rfl ?_
          refine g_goto (tgt := 2) h t_X11_explains_56 (by decide) ?_
          refine g_loc (L' := [(0, .ref (ρ 75)), (1, .int x1), (2, .int x9)]) h [2, 3, 0] rfl ?_
          exact ih x9 _ hD
        · refine g_loc (L' := []) h [] rfl ?_
          exact hk2 _ hD
set_option maxRecDepth 20000 in
theorem S_X11_explains {l0 : Launch} {ρ : Nat → Nat} {cs : Nat → ClassId} {G : va_G} (hρ : injN ρ) {p1 : Int32} {w : Wd} {rr : (Int32 × Wd)} (hD : D_X11_explains p1 w = some rr) : CtI l0 ρ cs G y_X11_explains prog_1_method_62_code 4 .boolean 4 [.ref (ρ 75), .int p1] w rr.1 rr.2 := by
  refine ctI_of hρ (by decide) (Nat.le_of_ble_eq_true rfl) (fun X hn h hR => ?_)
  unfold D_X11_explains at hD
  show gG ρ cs G X 0 [(0, .ref (ρ 75)), (1, .int p1)] [] w
  refine g_iconst (v := 0) h t_X11_explains_0 (by decide) ?_
  refine g_istore_n (L' := [(2, .int 0), (0, .ref (ρ 75)), (1, .int p1)]) h hn t_X11_explains_1 rfl (by decide) rfl ?_
  refine g_loc (L' := [(0, .ref (ρ 75)), (1, .int p1), (2, .int 0)]) h [1, 2, 0] rfl ?_
  refine Q_X11_explains_2 hρ hn h hR  ?_ ?_ _ _ _ hD
  · intro w10 hD
    unfold J_X11_explains_x51_1 at hD
    refine g_iconst (v := 0) h t_X11_explains_51 (by decide) ?_
    obtain rfl := Option.some.inj hD
    exact hR _ _ t_X11_explains_52 (b01_n rfl)
  · intro w11 hD
    unfold J_X11_explains_x59_2 at hD
    refine g_iconst (v := 1) h t_X11_explains_59 (by decide) ?_
    obtain rfl := Option.some.inj hD
    exact hR _ _ t_X11_explains_60 (b01_n rfl)
def J_X11_setsLeft_j24_1 (r4 : Int64 → Int32 → Wd → Option (Int64 × Wd)) (x4 : Int32) : Int64 → Wd → Option (Int64 × Wd) := fun x8 w9 =>
  bd (x4 + 1) fun x11 => r4 x8 x11 w9
def L_X11_setsLeft_4 (k1 : Int64 → Wd → Option (Int64 × Wd)) : Nat → Int64 → Int32 → Wd → Option (Int64 × Wd)
  | 0, _, _, _ => none
  | n2 + 1, x3, x4, w5 =>
    if 64 ≤ x4 then (k1 x3 w5) else (bc (D_X11_explains x4 w5) fun x7 w6 => bd (J_X11_setsLeft_j24_1 (L_X11_setsLeft_4 k1 n2) x4) fun k10 => if x7 = 0 then (k10 x3 w6) else (bd (x3 ||| ((1 : Int64) <<< (x4.toInt64 &&& 63))) fun x12 => k10 x12 w6))
def J_X11_setsLeft_x30_2  : Int64 → Wd → Option (Int64 × Wd) := fun x13 w14 =>
  some (x13, w14)
def D_X11_setsLeft  : Wd → Option (Int64 × Wd) := fun w =>
  L_X11_setsLeft_4 J_X11_setsLeft_x30_2 FU (0 : Int64) 0 w
set_option maxRecDepth 20000 in
theorem Q_X11_setsLeft_4 {l0 : Launch} {ρ : Nat → Nat} {cs : Nat → ClassId} {G : va_G} {X : Cx} (hρ : injN ρ) (hn : X.2.2.2.2.2.2.2.2.2.2.1 = 4) (h : Okx l0 ρ cs G X prog_1_method_61_code "SowingBoards" 5) {rr : (Int64 × Wd)} (hR : ∀ pc L, decode prog_1_method_61_code pc = .ok (.lreturn, 1) → gG ρ cs G X pc L [.long rr.1] rr.2)  {k1 : Int64 → Wd → Option (Int64 × Wd)} (hk1 : ∀ (z1 : Int64) (w1 : Wd), k1 z1 w1 = some rr → gG ρ cs G X 30 [(1, .long z1)] [] w1) : ∀ (n : Nat) (x3 : Int64) (x4 : Int32) (w : Wd), L_X11_setsLeft_4 k1 n x3 x4 w = some rr → gG ρ cs G X 4 [(0, .ref (ρ 75)), (1, .long x3), (3, .int x4)] [] w := by
  intro n
  induction n with
  | zero =>
    intro x3 x4 w hD
    cases hD
  | succ n2 ih =>
    intro x3 x4 w5 hD
    unfold L_X11_setsLeft_4 at hD
    refine g_iload_n h 2 t_X11_setsLeft_4 rfl ?_
    refine g_bipush (v := 64) h t_X11_setsLeft_5 (by decide) ?_
    refine g_icmp_ge (tgt := 30) h t_X11_setsLeft_7 (by decide) hD (fun hD => ?_) (fun hD => ?_)
    · refine g_loc (L' := [(1, .long x3)]) h [1] rfl ?_
      exact hk1 x3 _ hD
    · refine g_aload_n h 0 t_X11_setsLeft_10 rfl ?_
      refine g_iload_n h 2 t_X11_setsLeft_11 rfl ?_
      refine g_callVI h 75 (As := [.int x4]) (st := []) my_X11_explains mi_X11_explains ml_11_419 rfl (by decide) rfl rfl rfl (Nat.le_of_ble_eq_true rfl) (by decide) t_X11_setsLeft_12 hD (fun _ _ e => S_X11_explains hρ  e) (fun x7 w6 hD => ?_)
      refine g_join (P := fun k10 => ∀ (x8 : Int64) (w9 : Wd), k10 x8 w9 = some rr → gG ρ cs G X 24 [(0, .ref (ρ 75)), (1, .long x8), (3, .int x4)] [] w9) hD ?_ (fun k10 hk10 hD => ?_)
      · intro x8 w9 hD
        unfold J_X11_setsLeft_j24_1 at hD
        obtain ⟨x11, ex11, hD⟩ := bd_ex hD
        refine g_iinc (v := x11) (L' := [(3, .int x11), (0, .ref (ρ 75)), (1, .long x8)]) h hn t_X11_setsLeft_24 (k := 2) rfl (by rw [ex11]; rfl) (by decide) rfl ?_
        refine g_goto (tgt := 4) h t_X11_setsLeft_27 (by decide) ?_
        refine g_loc (L' := [(0, .ref (ρ 75)), (1, .long x8), (3, .int x11)]) h [1, 2, 0] rfl ?_
        exact ih x8 x11 _ hD
      · refine g_if_eq (tgt := 24) h t_X11_setsLeft_15 (by decide) hD (fun hD => ?_) (fun hD => ?_)
        · refine g_loc (L' := [(0, .ref (ρ 75)), (1, .long x3), (3, .int x4)]) h [0, 1, 2] rfl ?_
          exact hk10 x3 _ hD
        · refine g_lload_n h 1 t_X11_setsLeft_18 rfl ?_
          refine g_lconst (v := 1) h t_X11_setsLeft_19 (by decide) ?_
          refine g_iload_n h 2 t_X11_setsLeft_20 rfl ?_
          refine g_lshl h t_X11_setsLeft_21 ?_
          refine g_lor h t_X11_setsLeft_22 ?_
          refine g_bdJ hD (fun x12 hD => ?_)
          refine g_lstore_n (L' := [(1, .long x12), (0, .ref (ρ 75)), (3, .int x4)]) h hn t_X11_setsLeft_23 rfl (by decide) rfl ?_
          refine g_loc (L' := [(0, .ref (ρ 75)), (1, .long x12), (3, .int x4)]) h [1, 0, 2] rfl ?_
          exact hk10 x12 _ hD
set_option maxRecDepth 20000 in
theorem S_X11_setsLeft {l0 : Launch} {ρ : Nat → Nat} {cs : Nat → ClassId} {G : va_G} (hρ : injN ρ)  {w : Wd} {rr : (Int64 × Wd)} (hD : D_X11_setsLeft w = some rr) : CtJ l0 ρ cs G y_X11_setsLeft prog_1_method_61_code 4 5 [.ref (ρ 75)] w rr.1 rr.2 := by
  refine ctJ_of hρ (by decide) (Nat.le_of_ble_eq_true rfl) (fun X hn h hR => ?_)
  unfold D_X11_setsLeft at hD
  show gG ρ cs G X 0 [(0, .ref (ρ 75))] [] w
  refine g_lconst (v := 0) h t_X11_setsLeft_0 (by decide) ?_
  refine g_lstore_n (L' := [(1, .long (0 : Int64)), (0, .ref (ρ 75))]) h hn t_X11_setsLeft_1 rfl (by decide) rfl ?_
  refine g_iconst (v := 0) h t_X11_setsLeft_2 (by decide) ?_
  refine g_istore_n (L' := [(3, .int 0), (1, .long (0 : Int64)), (0, .ref (ρ 75))]) h hn t_X11_setsLeft_3 rfl (by decide) rfl ?_
  refine g_loc (L' := [(0, .ref (ρ 75)), (1, .long (0 : Int64)), (3, .int 0)]) h [2, 1, 0] rfl ?_
  refine Q_X11_setsLeft_4 hρ hn h hR  ?_ _ _ _ _ hD
  · intro x13 w14 hD
    unfold J_X11_setsLeft_x30_2 at hD
    refine g_lload_n h 0 t_X11_setsLeft_30 rfl ?_
    obtain rfl := Option.some.inj hD
    exact hR _ _ t_X11_setsLeft_31
def J_X11_guess_j49_1 (r26 : Int32 → Int32 → Wd → Option (Int32 × Wd)) (x8 : Int32) : Int32 → Wd → Option (Int32 × Wd) := fun x10 w11 =>
  bd (x8 + 1) fun x13 => r26 x10 x13 w11
def L_X11_guess_26 (x4 : Int64) (k5 : Int32 → Wd → Option (Int32 × Wd)) : Nat → Int32 → Int32 → Wd → Option (Int32 × Wd)
  | 0, _, _, _ => none
  | n6 + 1, x7, x8, w9 =>
    if 64 ≤ x8 then (k5 x7 w9) else (bd (J_X11_guess_j49_1 (L_X11_guess_26 x4 k5 n6) x8) fun k12 => if (lg_cmp ((x4 >>> (x8.toInt64 &&& 63)) &&& (1 : Int64)) (0 : Int64)) = 0 then (k12 x7 w9) else (bd (x7 &&& x8) fun x14 => k12 x14 w9))
def J_X11_guess_x55_2 (x2 : Int64) : Int32 → Wd → Option (Int32 × Wd) := fun x15 w16 =>
  bc (D_J13_numberOfTrailingZeros_95d88 x2 w16) fun x18 w17 => bv (D_X3_tell_ x18.toInt64 x15.toInt64 w17) fun w19 => bc (D_J13_bitCount_95d88 x2 w19) fun x21 w20 => some (x21, w20)
def D_X11_guess  : Wd → Option (Int32 × Wd) := fun w =>
  bc (D_X11_setsLeft w) fun x2 w1 => bv (D_X3_clear w1) fun w3 => if (lg_cmp x2 (0 : Int64)) = 0 then (some (0, w3)) else (L_X11_guess_26 x2 (J_X11_guess_x55_2 x2) FU 63 0 w3)
set_option maxRecDepth 20000 in
theorem Q_X11_guess_26 {l0 : Launch} {ρ : Nat → Nat} {cs : Nat → ClassId} {G : va_G} {X : Cx} (hρ : injN ρ) (hn : X.2.2.2.2.2.2.2.2.2.2.1 = 5) (h : Okx l0 ρ cs G X prog_1_method_60_code "SowingBoards" 6) {rr : (Int32 × Wd)} (hR : ∀ pc L, decode prog_1_method_60_code pc = .ok (.ireturn, 1) → narrow .int (.int rr.1) = .int rr.1 → gG ρ cs G X pc L [.int rr.1] rr.2) {x4 : Int64} {k5 : Int32 → Wd → Option (Int32 × Wd)} (hk5 : ∀ (z3 : Int32) (w1 : Wd), k5 z3 w1 = some rr → gG ρ cs G X 55 [(0, .ref (ρ 75)), (1, .long x4), (3, .int z3)] [] w1) : ∀ (n : Nat) (x7 : Int32) (x8 : Int32) (w : Wd), L_X11_guess_26 x4 k5 n x7 x8 w = some rr → gG ρ cs G X 26 [(0, .ref (ρ 75)), (1, .long x4), (3, .int x7), (4, .int x8)] [] w := by
  intro n
  induction n with
  | zero =>
    intro x7 x8 w hD
    cases hD
  | succ n6 ih =>
    intro x7 x8 w9 hD
    unfold L_X11_guess_26 at hD
    refine g_iload h 3 t_X11_guess_26 rfl ?_
    refine g_bipush (v := 64) h t_X11_guess_28 (by decide) ?_
    refine g_icmp_ge (tgt := 55) h t_X11_guess_30 (by decide) hD (fun hD => ?_) (fun hD => ?_)
    · refine g_loc (L' := [(0, .ref (ρ 75)), (1, .long x4), (3, .int x7)]) h [0, 1, 2] rfl ?_
      exact hk5 x7 _ hD
    · refine g_lload_n h 1 t_X11_guess_33 rfl ?_
      refine g_iload h 3 t_X11_guess_34 rfl ?_
      refine g_lshr h t_X11_guess_36 ?_
      refine g_lconst (v := 1) h t_X11_guess_37 (by decide) ?_
      refine g_land h t_X11_guess_38 ?_
      refine g_lconst (v := 0) h t_X11_guess_39 (by decide) ?_
      refine g_lcmp h t_X11_guess_40 ?_
      refine g_join (P := fun k12 => ∀ (x10 : Int32) (w11 : Wd), k12 x10 w11 = some rr → gG ρ cs G X 49 [(0, .ref (ρ 75)), (1, .long x4), (3, .int x10), (4, .int x8)] [] w11) hD ?_ (fun k12 hk12 hD => ?_)
      · intro x10 w11 hD
        unfold J_X11_guess_j49_1 at hD
        obtain ⟨x13, ex13, hD⟩ := bd_ex hD
        refine g_iinc (v := x13) (L' := [(4, .int x13), (0, .ref (ρ 75)), (1, .long x4), (3, .int x10)]) h hn t_X11_guess_49 (k := 3) rfl (by rw [ex13]; rfl) (by decide) rfl ?_
        refine g_goto (tgt := 26) h t_X11_guess_52 (by decide) ?_
        refine g_loc (L' := [(0, .ref (ρ 75)), (1, .long x4), (3, .int x10), (4, .int x13)]) h [1, 2, 3, 0] rfl ?_
        exact ih x10 x13 _ hD
      · refine g_if_eq (tgt := 49) h t_X11_guess_41 (by decide) hD (fun hD => ?_) (fun hD => ?_)
        · refine g_loc (L' := [(0, .ref (ρ 75)), (1, .long x4), (3, .int x7), (4, .int x8)]) h [0, 1, 2, 3] rfl ?_
          exact hk12 x7 _ hD
        · refine g_iload_n h 2 t_X11_guess_44 rfl ?_
          refine g_iload h 3 t_X11_guess_45 rfl ?_
          refine g_iand h t_X11_guess_47 ?_
          refine g_bdI hD (fun x14 hD => ?_)
          refine g_istore_n (L' := [(3, .int x14), (0, .ref (ρ 75)), (1, .long x4), (4, .int x8)]) h hn t_X11_guess_48 rfl (by decide) rfl ?_
          refine g_loc (L' := [(0, .ref (ρ 75)), (1, .long x4), (3, .int x14), (4, .int x8)]) h [1, 2, 0, 3] rfl ?_
          exact hk12 x14 _ hD
set_option maxRecDepth 20000 in
theorem S_X11_guess {l0 : Launch} {ρ : Nat → Nat} {cs : Nat → ClassId} {G : va_G} (hρ : injN ρ)  {w : Wd} {rr : (Int32 × Wd)} (hD : D_X11_guess w = some rr) : CtI l0 ρ cs G y_X11_guess prog_1_method_60_code 5 .int 6 [.ref (ρ 75)] w rr.1 rr.2 := by
  refine ctI_of hρ (by decide) (Nat.le_of_ble_eq_true rfl) (fun X hn h hR => ?_)
  unfold D_X11_guess at hD
  show gG ρ cs G X 0 [(0, .ref (ρ 75))] [] w
  refine g_aload_n h 0 t_X11_guess_0 rfl ?_
  refine g_callVJ h 75 (As := []) (st := []) my_X11_setsLeft mi_X11_setsLeft ml_11_408 rfl (by decide) rfl rfl rfl (Nat.le_of_ble_eq_true rfl) (by decide) t_X11_guess_1 hD (fun _ _ e => S_X11_setsLeft hρ  e) (fun x2 w1 hD => ?_)
  refine g_lstore_n (L' := [(1, .long x2), (0, .ref (ρ 75))]) h hn t_X11_guess_4 rfl (by decide) rfl ?_
  refine g_aload_n h 1 t_X11_guess_5 rfl ?_
  refine g_getR h 75 7 82 fl_11_47 rfl (by decide) rfl t_X11_guess_6 ?_
  refine g_callVV h 82 (As := []) (st := []) my_X3_clear mi_X3_clear ml_11_321 rfl (by decide) rfl rfl rfl (Nat.le_of_ble_eq_true rfl) (by decide) t_X11_guess_9 hD (fun _ e => S_X3_clear hρ  e) (fun w3 hD => ?_)
  refine g_lload_n h 0 t_X11_guess_12 rfl ?_
  refine g_lconst (v := 0) h t_X11_guess_13 (by decide) ?_
  refine g_lcmp h t_X11_guess_14 ?_
  refine g_if_ne (tgt := 20) h t_X11_guess_15 (by decide) hD (fun hD => ?_) (fun hD => ?_)
  · refine g_bipush (v := 63) h t_X11_guess_20 (by decide) ?_
    refine g_istore_n (L' := [(3, .int 63), (1, .long x2), (0, .ref (ρ 75))]) h hn t_X11_guess_22 rfl (by decide) rfl ?_
    refine g_iconst (v := 0) h t_X11_guess_23 (by decide) ?_
    refine g_istore (L' := [(4, .int 0), (3, .int 63), (1, .long x2), (0, .ref (ρ 75))]) h hn t_X11_guess_24 (by decide) rfl ?_
    refine g_loc (L' := [(0, .ref (ρ 75)), (1, .long x2), (3, .int 63), (4, .int 0)]) h [3, 2, 1, 0] rfl ?_
    refine Q_X11_guess_26 hρ hn h hR  ?_ _ _ _ _ hD
    · intro x15 w16 hD
      unfold J_X11_guess_x55_2 at hD
      refine g_aload_n h 0 t_X11_guess_55 rfl ?_
      refine g_getR h 75 7 82 fl_11_47 rfl (by decide) rfl t_X11_guess_56 ?_
      refine g_lload_n h 1 t_X11_guess_59 rfl ?_
      refine g_callSI h (As := [.long x2]) (st := [.ref (ρ 82)]) my_J13_numberOfTrailingZeros_95d88 ms_J13_numberOfTrailingZeros_95d88 ml_11_411 rfl rfl (Nat.le_of_ble_eq_true rfl) (by decide) t_X11_guess_60 hD (fun _ _ e => S_J13_numberOfTrailingZeros_95d88 hρ  e) (fun x18 w17 hD => ?_)
      refine g_i2l h t_X11_guess_63 ?_
      refine g_iload_n h 2 t_X11_guess_64 rfl ?_
      refine g_i2l h t_X11_guess_65 ?_
      refine g_callVV h 82 (As := [.long x18.toInt64, .long x15.toInt64]) (st := []) my_X3_tell_ mi_X3_tell_ ml_11_253 rfl (by decide) rfl rfl rfl (Nat.le_of_ble_eq_true rfl) (by decide) t_X11_guess_66 hD (fun _ e => S_X3_tell_ hρ  e) (fun w19 hD => ?_)
      refine g_lload_n h 1 t_X11_guess_69 rfl ?_
      refine g_callSI h (As := [.long x2]) (st := []) my_J13_bitCount_95d88 ms_J13_bitCount_95d88 ml_11_417 rfl rfl (Nat.le_of_ble_eq_true rfl) (by decide) t_X11_guess_70 hD (fun _ _ e => S_J13_bitCount_95d88 hρ  e) (fun x21 w20 hD => ?_)
      obtain rfl := Option.some.inj hD
      exact hR _ _ t_X11_guess_73 rfl
  · refine g_iconst (v := 0) h t_X11_guess_18 (by decide) ?_
    obtain rfl := Option.some.inj hD
    exact hR _ _ t_X11_guess_19 rfl
def J_X11_mostLeftBy_j77_1 (r10 : Int32 → Int32 → Wd → Option (Int32 × Wd)) (x7 : Int32) : Int32 → Wd → Option (Int32 × Wd) := fun x9 w10 =>
  bd (x7 + 1) fun x12 => r10 x9 x12 w10
def L_X11_mostLeftBy_10 (x2 : Int32) (x3 : Int64) (k4 : Int32 → Wd → Option (Int32 × Wd)) : Nat → Int32 → Int32 → Wd → Option (Int32 × Wd)
  | 0, _, _, _ => none
  | n5 + 1, x6, x7, w8 =>
    if 64 ≤ x7 then (k4 x6 w8) else (bd (J_X11_mostLeftBy_j77_1 (L_X11_mostLeftBy_10 x2 x3 k4 n5) x7) fun k11 => if (lg_cmp ((x3 >>> (x7.toInt64 &&& 63)) &&& (1 : Int64)) (0 : Int64)) = 0 then (k11 x6 w8) else (bc (D_X11_tryMove x2 x7 w8) fun x14 w13 => if x14 = 0 then (k11 x6 w13) else (bd (imin (w13.1 84 6) 12) fun x15 => if ib x15 21 then (if ib x15 21 then bd (wI w13 118 x15.toNatClampNeg ((w13.1 118 x15.toNatClampNeg) + 1)) (fun w16 => if ib x15 21 then (bd (imax x6 (w16.1 118 x15.toNatClampNeg)) fun x17 => k11 x17 w16) else none) else none) else none)))
def J_X11_mostLeftBy_x83_2  : Int32 → Wd → Option (Int32 × Wd) := fun x18 w19 =>
  some (x18, w19)
def D_X11_mostLeftBy (p1 : Int32) (p2 : Int64) : Wd → Option (Int32 × Wd) := fun w =>
  bv (D_X11_clearTally w) fun w1 => L_X11_mostLeftBy_10 p1 p2 J_X11_mostLeftBy_x83_2 FU 0 0 w1
set_option maxRecDepth 20000 in
theorem Q_X11_mostLeftBy_10 {l0 : Launch} {ρ : Nat → Nat} {cs : Nat → ClassId} {G : va_G} {X : Cx} (hρ : injN ρ) (hn : X.2.2.2.2.2.2.2.2.2.2.1 = 7) (h : Okx l0 ρ cs G X prog_1_method_64_code "SowingBoards" 4) {rr : (Int32 × Wd)} (hR : ∀ pc L, decode prog_1_method_64_code pc = .ok (.ireturn, 1) → narrow .int (.int rr.1) = .int rr.1 → gG ρ cs G X pc L [.int rr.1] rr.2) {x2 : Int32} {x3 : Int64} {k4 : Int32 → Wd → Option (Int32 × Wd)} (hk4 : ∀ (z4 : Int32) (w1 : Wd), k4 z4 w1 = some rr → gG ρ cs G X 83 [(4, .int z4)] [] w1) : ∀ (n : Nat) (x6 : Int32) (x7 : Int32) (w : Wd), L_X11_mostLeftBy_10 x2 x3 k4 n x6 x7 w = some rr → gG ρ cs G X 10 [(0, .ref (ρ 75)), (1, .int x2), (2, .long x3), (4, .int x6), (5, .int x7)] [] w := by
  intro n
  induction n with
  | zero =>
    intro x6 x7 w hD
    cases hD
  | succ n5 ih =>
    intro x6 x7 w8 hD
    unfold L_X11_mostLeftBy_10 at hD
    refine g_iload h 4 t_X11_mostLeftBy_10 rfl ?_
    refine g_bipush (v := 64) h t_X11_mostLeftBy_12 (by decide) ?_
    refine g_icmp_ge (tgt := 83) h t_X11_mostLeftBy_14 (by decide) hD (fun hD => ?_) (fun hD => ?_)
    · refine g_loc (L' := [(4, .int x6)]) h [3] rfl ?_
      exact hk4 x6 _ hD
    · refine g_lload_n h 2 t_X11_mostLeftBy_17 rfl ?_
      refine g_iload h 4 t_X11_mostLeftBy_18 rfl ?_
      refine g_lshr h t_X11_mostLeftBy_20 ?_
      refine g_lconst (v := 1) h t_X11_mostLeftBy_21 (by decide) ?_
      refine g_land h t_X11_mostLeftBy_22 ?_
      refine g_lconst (v := 0) h t_X11_mostLeftBy_23 (by decide) ?_
      refine g_lcmp h t_X11_mostLeftBy_24 ?_
      refine g_join (P := fun k11 => ∀ (x9 : Int32) (w10 : Wd), k11 x9 w10 = some rr → gG ρ cs G X 77 [(0, .ref (ρ 75)), (1, .int x2), (2, .long x3), (4, .int x9), (5, .int x7)] [] w10) hD ?_ (fun k11 hk11 hD => ?_)
      · intro x9 w10 hD
        unfold J_X11_mostLeftBy_j77_1 at hD
        obtain ⟨x12, ex12, hD⟩ := bd_ex hD
        refine g_iinc (v := x12) (L' := [(5, .int x12), (0, .ref (ρ 75)), (1, .int x2), (2, .long x3), (4, .int x9)]) h hn t_X11_mostLeftBy_77 (k := 4) rfl (by rw [ex12]; rfl) (by decide) rfl ?_
        refine g_goto (tgt := 10) h t_X11_mostLeftBy_80 (by decide) ?_
        refine g_loc (L' := [(0, .ref (ρ 75)), (1, .int x2), (2, .long x3), (4, .int x9), (5, .int x12)]) h [1, 2, 3, 4, 0] rfl ?_
        exact ih x9 x12 _ hD
      · refine g_if_eq (tgt := 77) h t_X11_mostLeftBy_25 (by decide) hD (fun hD => ?_) (fun hD => ?_)
        · refine g_loc (L' := [(0, .ref (ρ 75)), (1, .int x2), (2, .long x3), (4, .int x6), (5, .int x7)]) h [0, 1, 2, 3, 4] rfl ?_
          exact hk11 x6 _ hD
        · refine g_aload_n h 0 t_X11_mostLeftBy_28 rfl ?_
          refine g_iload_n h 1 t_X11_mostLeftBy_29 rfl ?_
          refine g_iload h 4 t_X11_mostLeftBy_30 rfl ?_
          refine g_callVI h 75 (As := [.int x2, .int x7]) (st := []) my_X11_tryMove mi_X11_tryMove ml_11_284 rfl (by decide) rfl rfl rfl (Nat.le_of_ble_eq_true rfl) (by decide) t_X11_mostLeftBy_32 hD (fun _ _ e => S_X11_tryMove hρ  e) (fun x14 w13 hD => ?_)
          refine g_if_eq (tgt := 77) h t_X11_mostLeftBy_35 (by decide) hD (fun hD => ?_) (fun hD => ?_)
          · refine g_loc (L' := [(0, .ref (ρ 75)), (1, .int x2), (2, .long x3), (4, .int x6), (5, .int x7)]) h [0, 1, 2, 3, 4] rfl ?_
            exact hk11 x6 _ hD
          · refine g_aload_n h 0 t_X11_mostLeftBy_38 rfl ?_
            refine g_getR h 75 8 84 fl_11_54 rfl (by decide) rfl t_X11_mostLeftBy_39 ?_
            refine g_getI h 84 6 fl_11_232 rfl (by decide) rfl t_X11_mostLeftBy_42 ?_
            refine g_bipush (v := 12) h t_X11_mostLeftBy_45 (by decide) ?_
            refine g_mmin h (st := []) (vtb_at 750 (by decide +kernel) rfl) (Nat.le_of_ble_eq_true rfl) t_X11_mostLeftBy_47 ?_
            refine g_bdI hD (fun x15 hD => ?_)
            refine g_istore (L' := [(6, .int x15), (0, .ref (ρ 75)), (1, .int x2), (2, .long x3), (4, .int x6), (5, .int x7)]) h hn t_X11_mostLeftBy_50 (by decide) rfl ?_
            refine g_aload_n h 1 t_X11_mostLeftBy_52 rfl ?_
            refine g_getR h 75 17 118 fl_11_108 rfl (by decide) rfl t_X11_mostLeftBy_53 ?_
            refine g_iload h 0 t_X11_mostLeftBy_56 rfl ?_
            refine g_dup2 h t_X11_mostLeftBy_58 rfl rfl ?_
            refine g_iald h 118 rfl (by decide) t_X11_mostLeftBy_59 hD (fun hD => ?_)
            refine g_iconst (v := 1) h t_X11_mostLeftBy_60 (by decide) ?_
            refine g_iadd h t_X11_mostLeftBy_61 ?_
            refine g_iast h 118 rfl (by decide) t_X11_mostLeftBy_62 hD (fun w16 hD => ?_)
            refine g_iload h 4 t_X11_mostLeftBy_63 rfl ?_
            refine g_aload_n h 1 t_X11_mostLeftBy_65 rfl ?_
            refine g_getR h 75 17 118 fl_11_108 rfl (by decide) rfl t_X11_mostLeftBy_66 ?_
            refine g_iload h 0 t_X11_mostLeftBy_69 rfl ?_
            refine g_iald h 118 rfl (by decide) t_X11_mostLeftBy_71 hD (fun hD => ?_)
            refine g_mmax h (st := []) (vtb_at 751 (by decide +kernel) rfl) (Nat.le_of_ble_eq_true rfl) t_X11_mostLeftBy_72 ?_
            refine g_bdI hD (fun x17 hD => ?_)
            refine g_istore (L' := [(4, .int x17), (6, .int x15), (0, .ref (ρ 75)), (1, .int x2), (2, .long x3), (5, .int x7)]) h hn t_X11_mostLeftBy_75 (by decide) rfl ?_
            refine g_loc (L' := [(0, .ref (ρ 75)), (1, .int x2), (2, .long x3), (4, .int x17), (5, .int x7)]) h [2, 3, 4, 0, 5] rfl ?_
            exact hk11 x17 _ hD
set_option maxRecDepth 20000 in
theorem S_X11_mostLeftBy {l0 : Launch} {ρ : Nat → Nat} {cs : Nat → ClassId} {G : va_G} (hρ : injN ρ) {p1 : Int32} {p2 : Int64} {w : Wd} {rr : (Int32 × Wd)} (hD : D_X11_mostLeftBy p1 p2 w = some rr) : CtI l0 ρ cs G y_X11_mostLeftBy prog_1_method_64_code 7 .int 4 [.ref (ρ 75), .int p1, .long p2] w rr.1 rr.2 := by
  refine ctI_of hρ (by decide) (Nat.le_of_ble_eq_true rfl) (fun X hn h hR => ?_)
  unfold D_X11_mostLeftBy at hD
  show gG ρ cs G X 0 [(0, .ref (ρ 75)), (1, .int p1), (2, .long p2)] [] w
  refine g_aload_n h 0 t_X11_mostLeftBy_0 rfl ?_
  refine g_callVV h 75 (As := []) (st := []) my_X11_clearTally mi_X11_clearTally ml_11_363 rfl (by decide) rfl rfl rfl (Nat.le_of_ble_eq_true rfl) (by decide) t_X11_mostLeftBy_1 hD (fun _ e => S_X11_clearTally hρ  e) (fun w1 hD => ?_)
  refine g_iconst (v := 0) h t_X11_mostLeftBy_4 (by decide) ?_
  refine g_istore (L' := [(4, .int 0), (0, .ref (ρ 75)), (1, .int p1), (2, .long p2)]) h hn t_X11_mostLeftBy_5 (by decide) rfl ?_
  refine g_iconst (v := 0) h t_X11_mostLeftBy_7 (by decide) ?_
  refine g_istore (L' := [(5, .int 0), (4, .int 0), (0, .ref (ρ 75)), (1, .int p1), (2, .long p2)]) h hn t_X11_mostLeftBy_8 (by decide) rfl ?_
  refine g_loc (L' := [(0, .ref (ρ 75)), (1, .int p1), (2, .long p2), (4, .int 0), (5, .int 0)]) h [2, 3, 4, 1, 0] rfl ?_
  refine Q_X11_mostLeftBy_10 hρ hn h hR  ?_ _ _ _ _ hD
  · intro x18 w19 hD
    unfold J_X11_mostLeftBy_x83_2 at hD
    refine g_iload h 0 t_X11_mostLeftBy_83 rfl ?_
    obtain rfl := Option.some.inj hD
    exact hR _ _ t_X11_mostLeftBy_85 rfl
def J_X11_tries_j79_1 (x20 : Int32) (x8 : Int32) (k17 : Int32 → Int32 → Wd → Option (Int32 × Wd)) : Int32 → Wd → Option (Int32 × Wd) := fun x21 w22 =>
  bd (imin x20 x8) fun x24 => k17 x24 x21 w22
def J_X11_tries_j88_2 (r33 : Int32 → Int32 → Int32 → Wd → Option (Int32 × Wd)) (x10 : Int32) : Int32 → Int32 → Wd → Option (Int32 × Wd) := fun x14 x15 w16 =>
  bd (x10 + 1) fun x18 => r33 x14 x15 x18 w16
def L_X11_tries_33 (x5 : Int64) (k6 : Int32 → Int32 → Wd → Option (Int32 × Wd)) : Nat → Int32 → Int32 → Int32 → Wd → Option (Int32 × Wd)
  | 0, _, _, _, _ => none
  | n7 + 1, x8, x9, x10, w11 =>
    if (w11.1 0 2) ≤ x10 then (k6 x8 x9 w11) else (bc (D_X5_canMove 0 x10 w11) fun x13 w12 => bd (J_X11_tries_j88_2 (L_X11_tries_33 x5 k6 n7) x10) fun k17 => if x13 = 0 then (k17 x8 x9 w12) else (bc (D_X11_mostLeftBy x10 x5 w12) fun x20 w19 => bd (J_X11_tries_j79_1 x20 x8 k17) fun k23 => if x8 ≤ x20 then (k23 x9 w19) else (k23 x10 w19)))
def J_X11_tries_x94_3  : Int32 → Int32 → Wd → Option (Int32 × Wd) := fun x25 x26 w27 =>
  bv (D_X3_tell x25.toInt64 w27) fun w28 => some (x26, w28)
def D_X11_tries  : Wd → Option (Int32 × Wd) := fun w =>
  bc (D_X11_setsLeft w) fun x2 w1 => if (lg_cmp x2 (0 : Int64)) = 0 then (some ((-2), w1)) else (bc (D_X5_isOver 0 w1) fun x4 w3 => if x4 = 0 then (L_X11_tries_33 x2 J_X11_tries_x94_3 FU 65 0 0 w3) else (some ((-2), w3)))
set_option maxRecDepth 20000 in
theorem Q_X11_tries_33 {l0 : Launch} {ρ : Nat → Nat} {cs : Nat → ClassId} {G : va_G} {X : Cx} (hρ : injN ρ) (hn : X.2.2.2.2.2.2.2.2.2.2.1 = 7) (h : Okx l0 ρ cs G X prog_1_method_63_code "SowingBoards" 6) {rr : (Int32 × Wd)} (hR : ∀ pc L, decode prog_1_method_63_code pc = .ok (.ireturn, 1) → narrow .int (.int rr.1) = .int rr.1 → gG ρ cs G X pc L [.int rr.1] rr.2) {x5 : Int64} {k6 : Int32 → Int32 → Wd → Option (Int32 × Wd)} (hk6 : ∀ (z3 : Int32) (z4 : Int32) (w1 : Wd), k6 z3 z4 w1 = some rr → gG ρ cs G X 94 [(0, .ref (ρ 75)), (3, .int z3), (4, .int z4)] [] w1) : ∀ (n : Nat) (x8 : Int32) (x9 : Int32) (x10 : Int32) (w : Wd), L_X11_tries_33 x5 k6 n x8 x9 x10 w = some rr → gG ρ cs G X 33 [(0, .ref (ρ 75)), (1, .long x5), (3, .int x8), (4, .int x9), (5, .int x10)] [] w := by
  intro n
  induction n with
  | zero =>
    intro x8 x9 x10 w hD
    cases hD
  | succ n7 ih =>
    intro x8 x9 x10 w11 hD
    unfold L_X11_tries_33 at hD
    refine g_iload h 4 t_X11_tries_33 rfl ?_
    refine g_aload_n h 0 t_X11_tries_35 rfl ?_
    refine g_getR h 75 0 0 fl_11_10 rfl (by decide) rfl t_X11_tries_36 ?_
    refine g_getI h 0 2 fl_11_152 rfl (by decide) rfl t_X11_tries_39 ?_
    refine g_icmp_ge (tgt := 94) h t_X11_tries_42 (by decide) hD (fun hD => ?_) (fun hD => ?_)
    · refine g_loc (L' := [(0, .ref (ρ 75)), (3, .int x8), (4, .int x9)]) h [0, 2, 3] rfl ?_
      exact hk6 x8 x9 _ hD
    · refine g_aload_n h 0 t_X11_tries_45 rfl ?_
      refine g_getR h 75 0 0 fl_11_10 rfl (by decide) rfl t_X11_tries_46 ?_
      refine g_iload h 4 t_X11_tries_49 rfl ?_
      refine g_callVI h 0 (As := [.int x10]) (st := []) my_X5_canMove mi_X5_canMove ml_11_242 rfl (by decide) rfl rfl rfl (Nat.le_of_ble_eq_true rfl) (by decide) t_X11_tries_51 hD (fun _ _ e => S_X5_canMove hρ (by decide) e) (fun x13 w12 hD => ?_)
      refine g_join (P := fun k17 => ∀ (x14 : Int32) (x15 : Int32) (w16 : Wd), k17 x14 x15 w16 = some rr → gG ρ cs G X 88 [(0, .ref (ρ 75)), (1, .long x5), (3, .int x14), (4, .int x15), (5, .int x10)] [] w16) hD ?_ (fun k17 hk17 hD => ?_)
      · intro x14 x15 w16 hD
        unfold J_X11_tries_j88_2 at hD
        obtain ⟨x18, ex18, hD⟩ := bd_ex hD
        refine g_iinc (v := x18) (L' := [(5, .int x18), (0, .ref (ρ 75)), (1, .long x5), (3, .int x14), (4, .int x15)]) h hn t_X11_tries_88 (k := 4) rfl (by rw [ex18]; rfl) (by decide) rfl ?_
        refine g_goto (tgt := 33) h t_X11_tries_91 (by decide) ?_
        refine g_loc (L' := [(0, .ref (ρ 75)), (1, .long x5), (3, .int x14), (4, .int x15), (5, .int x18)]) h [1, 2, 3, 4, 0] rfl ?_
        exact ih x14 x15 x18 _ hD
      · refine g_if_eq (tgt := 88) h t_X11_tries_54 (by decide) hD (fun hD => ?_) (fun hD => ?_)
        · refine g_loc (L' := [(0, .ref (ρ 75)), (1, .long x5), (3, .int x8), (4, .int x9), (5, .int x10)]) h [0, 1, 2, 3, 4] rfl ?_
          exact hk17 x8 x9 _ hD
        · refine g_aload_n h 0 t_X11_tries_57 rfl ?_
          refine g_iload h 4 t_X11_tries_58 rfl ?_
          refine g_lload_n h 1 t_X11_tries_60 rfl ?_
          refine g_callVI h 75 (As := [.int x10, .long x5]) (st := []) my_X11_mostLeftBy mi_X11_mostLeftBy ml_11_422 rfl (by decide) rfl rfl rfl (Nat.le_of_ble_eq_true rfl) (by decide) t_X11_tries_61 hD (fun _ _ e => S_X11_mostLeftBy hρ  e) (fun x20 w19 hD => ?_)
          refine g_istore (L' := [(6, .int x20), (0, .ref (ρ 75)), (1, .long x5), (3, .int x8), (4, .int x9), (5, .int x10)]) h hn t_X11_tries_64 (by decide) rfl ?_
          refine g_iload h 0 t_X11_tries_66 rfl ?_
          refine g_iload_n h 3 t_X11_tries_68 rfl ?_
          refine g_join (P := fun k23 => ∀ (x21 : Int32) (w22 : Wd), k23 x21 w22 = some rr → gG ρ cs G X 79 [(0, .ref (ρ 75)), (1, .long x5), (3, .int x8), (5, .int x10), (6, .int x20)] [.int x21] w22) hD ?_ (fun k23 hk23 hD => ?_)
          · intro x21 w22 hD
            unfold J_X11_tries_j79_1 at hD
            refine g_istore (L' := [(4, .int x21), (0, .ref (ρ 75)), (1, .long x5), (3, .int x8), (5, .int x10), (6, .int x20)]) h hn t_X11_tries_79 (by decide) rfl ?_
            refine g_iload h 5 t_X11_tries_81 rfl ?_
            refine g_iload_n h 3 t_X11_tries_83 rfl ?_
            refine g_mmin h (st := []) (vtb_at 750 (by decide +kernel) rfl) (Nat.le_of_ble_eq_true rfl) t_X11_tries_84 ?_
            refine g_bdI hD (fun x24 hD => ?_)
            refine g_istore_n (L' := [(3, .int x24), (4, .int x21), (0, .ref (ρ 75)), (1, .long x5), (5, .int x10), (6, .int x20)]) h hn t_X11_tries_87 rfl (by decide) rfl ?_
            refine g_loc (L' := [(0, .ref (ρ 75)), (1, .long x5), (3, .int x24), (4, .int x21), (5, .int x10)]) h [2, 3, 0, 1, 4] rfl ?_
            exact hk17 x24 x21 _ hD
          · refine g_icmp_ge (tgt := 77) h t_X11_tries_69 (by decide) hD (fun hD => ?_) (fun hD => ?_)
            · refine g_iload h 4 t_X11_tries_77 rfl ?_
              refine g_loc (L' := [(0, .ref (ρ 75)), (1, .long x5), (3, .int x8), (5, .int x10), (6, .int x20)]) h [1, 2, 3, 5, 0] rfl ?_
              exact hk23 x9 _ hD
            · refine g_iload h 5 t_X11_tries_72 rfl ?_
              refine g_goto (tgt := 79) h t_X11_tries_74 (by decide) ?_
              refine g_loc (L' := [(0, .ref (ρ 75)), (1, .long x5), (3, .int x8), (5, .int x10), (6, .int x20)]) h [1, 2, 3, 5, 0] rfl ?_
              exact hk23 x10 _ hD
set_option maxRecDepth 20000 in
theorem S_X11_tries {l0 : Launch} {ρ : Nat → Nat} {cs : Nat → ClassId} {G : va_G} (hρ : injN ρ)  {w : Wd} {rr : (Int32 × Wd)} (hD : D_X11_tries w = some rr) : CtI l0 ρ cs G y_X11_tries prog_1_method_63_code 7 .int 6 [.ref (ρ 75)] w rr.1 rr.2 := by
  refine ctI_of hρ (by decide) (Nat.le_of_ble_eq_true rfl) (fun X hn h hR => ?_)
  unfold D_X11_tries at hD
  show gG ρ cs G X 0 [(0, .ref (ρ 75))] [] w
  refine g_aload_n h 0 t_X11_tries_0 rfl ?_
  refine g_callVJ h 75 (As := []) (st := []) my_X11_setsLeft mi_X11_setsLeft ml_11_408 rfl (by decide) rfl rfl rfl (Nat.le_of_ble_eq_true rfl) (by decide) t_X11_tries_1 hD (fun _ _ e => S_X11_setsLeft hρ  e) (fun x2 w1 hD => ?_)
  refine g_lstore_n (L' := [(1, .long x2), (0, .ref (ρ 75))]) h hn t_X11_tries_4 rfl (by decide) rfl ?_
  refine g_lload_n h 0 t_X11_tries_5 rfl ?_
  refine g_lconst (v := 0) h t_X11_tries_6 (by decide) ?_
  refine g_lcmp h t_X11_tries_7 ?_
  refine g_if_eq (tgt := 21) h t_X11_tries_8 (by decide) hD (fun hD => ?_) (fun hD => ?_)
  · refine g_bipush (v := (-2)) h t_X11_tries_21 (by decide) ?_
    obtain rfl := Option.some.inj hD
    exact hR _ _ t_X11_tries_23 rfl
  · refine g_aload_n h 1 t_X11_tries_11 rfl ?_
    refine g_getR h 75 0 0 fl_11_10 rfl (by decide) rfl t_X11_tries_12 ?_
    refine g_callVI h 0 (As := []) (st := []) my_X5_isOver mi_X5_isOver ml_11_245 rfl (by decide) rfl rfl rfl (Nat.le_of_ble_eq_true rfl) (by decide) t_X11_tries_15 hD (fun _ _ e => S_X5_isOver hρ (by decide) e) (fun x4 w3 hD => ?_)
    refine g_if_eq (tgt := 24) h t_X11_tries_18 (by decide) hD (fun hD => ?_) (fun hD => ?_)
    · refine g_bipush (v := 65) h t_X11_tries_24 (by decide) ?_
      refine g_istore_n (L' := [(3, .int 65), (1, .long x2), (0, .ref (ρ 75))]) h hn t_X11_tries_26 rfl (by decide) rfl ?_
      refine g_iconst (v := 0) h t_X11_tries_27 (by decide) ?_
      refine g_istore (L' := [(4, .int 0), (3, .int 65), (1, .long x2), (0, .ref (ρ 75))]) h hn t_X11_tries_28 (by decide) rfl ?_
      refine g_iconst (v := 0) h t_X11_tries_30 (by decide) ?_
      refine g_istore (L' := [(5, .int 0), (4, .int 0), (3, .int 65), (1, .long x2), (0, .ref (ρ 75))]) h hn t_X11_tries_31 (by decide) rfl ?_
      refine g_loc (L' := [(0, .ref (ρ 75)), (1, .long x2), (3, .int 65), (4, .int 0), (5, .int 0)]) h [4, 3, 2, 1, 0] rfl ?_
      refine Q_X11_tries_33 hρ hn h hR  ?_ _ _ _ _ _ hD
      · intro x25 x26 w27 hD
        unfold J_X11_tries_x94_3 at hD
        refine g_aload_n h 0 t_X11_tries_94 rfl ?_
        refine g_getR h 75 7 82 fl_11_47 rfl (by decide) rfl t_X11_tries_95 ?_
        refine g_iload_n h 1 t_X11_tries_98 rfl ?_
        refine g_i2l h t_X11_tries_99 ?_
        refine g_callVV h 82 (As := [.long x25.toInt64]) (st := []) my_X3_tell mi_X3_tell ml_11_292 rfl (by decide) rfl rfl rfl (Nat.le_of_ble_eq_true rfl) (by decide) t_X11_tries_100 hD (fun _ e => S_X3_tell hρ  e) (fun w28 hD => ?_)
        refine g_iload h 2 t_X11_tries_103 rfl ?_
        obtain rfl := Option.some.inj hD
        exact hR _ _ t_X11_tries_105 rfl
    · refine g_bipush (v := (-2)) h t_X11_tries_21 (by decide) ?_
      obtain rfl := Option.some.inj hD
      exact hR _ _ t_X11_tries_23 rfl
def D_X11_profit (p0 : Int32) (p1 : Int32) (p2 : Int32) : Wd → Option (Int32 × Wd) := fun w =>
  if p0 = p1 then (if ¬ (3 : Int32) = 0 then (some ((p2 / 3) - 1, w)) else none) else (if p0 ≤ p1 then (if ¬ (2 : Int32) = 0 then (some (p0 / 2, w)) else none) else (some (p2 - p0, w)))
set_option maxRecDepth 20000 in
theorem S_X11_profit {l0 : Launch} {ρ : Nat → Nat} {cs : Nat → ClassId} {G : va_G} (hρ : injN ρ) {p0 : Int32} {p1 : Int32} {p2 : Int32} {w : Wd} {rr : (Int32 × Wd)} (hD : D_X11_profit p0 p1 p2 w = some rr) : CtI l0 ρ cs G y_X11_profit prog_1_method_67_code 3 .int 0 [.int p0, .int p1, .int p2] w rr.1 rr.2 := by
  refine ctI_of hρ (by decide) (Nat.le_of_ble_eq_true rfl) (fun X hn h hR => ?_)
  unfold D_X11_profit at hD
  show gG ρ cs G X 0 [(0, .int p0), (1, .int p1), (2, .int p2)] [] w
  refine g_iload_n h 0 t_X11_profit_0 rfl ?_
  refine g_iload_n h 1 t_X11_profit_1 rfl ?_
  refine g_icmp_ne (tgt := 11) h t_X11_profit_2 (by decide) hD (fun hD => ?_) (fun hD => ?_)
  · refine g_iload_n h 0 t_X11_profit_11 rfl ?_
    refine g_iload_n h 1 t_X11_profit_12 rfl ?_
    refine g_icmp_le (tgt := 22) h t_X11_profit_13 (by decide) hD (fun hD => ?_) (fun hD => ?_)
    · refine g_iload_n h 0 t_X11_profit_22 rfl ?_
      refine g_iconst (v := 2) h t_X11_profit_23 (by decide) ?_
      refine g_idiv h t_X11_profit_24 hD (fun hD => ?_)
      obtain rfl := Option.some.inj hD
      exact hR _ _ t_X11_profit_25 rfl
    · refine g_iload_n h 2 t_X11_profit_16 rfl ?_
      refine g_iload_n h 0 t_X11_profit_17 rfl ?_
      refine g_isub h t_X11_profit_18 ?_
      refine g_goto (tgt := 25) h t_X11_profit_19 (by decide) ?_
      obtain rfl := Option.some.inj hD
      exact hR _ _ t_X11_profit_25 rfl
  · refine g_iload_n h 2 t_X11_profit_5 rfl ?_
    refine g_iconst (v := 3) h t_X11_profit_6 (by decide) ?_
    refine g_idiv h t_X11_profit_7 hD (fun hD => ?_)
    refine g_iconst (v := 1) h t_X11_profit_8 (by decide) ?_
    refine g_isub h t_X11_profit_9 ?_
    obtain rfl := Option.some.inj hD
    exact hR _ _ t_X11_profit_10 rfl
def L_X11_isContent_10 (x3 : Int32) (x4 : Int32) (x5 : Int32) (k6 : Wd → Option (Int32 × Wd)) (k7 : Wd → Option (Int32 × Wd)) : Nat → Int32 → Wd → Option (Int32 × Wd)
  | 0, _, _ => none
  | n8 + 1, x9, w10 =>
    if 9 < x9 then (k7 w10) else (bc (D_X11_profit x9 x3 x4 w10) fun x12 w11 => if x12 ≤ x5 then (bd (x9 + 1) fun x13 => L_X11_isContent_10 x3 x4 x5 k6 k7 n8 x13 w11) else (k6 w11))
def J_X11_isContent_x28_1  : Wd → Option (Int32 × Wd) := fun w14 =>
  some (0, w14)
def J_X11_isContent_x36_2  : Wd → Option (Int32 × Wd) := fun w15 =>
  some (1, w15)
def D_X11_isContent (p0 : Int32) (p1 : Int32) (p2 : Int32) : Wd → Option (Int32 × Wd) := fun w =>
  bc (D_X11_profit p0 p1 p2 w) fun x2 w1 => L_X11_isContent_10 p1 p2 x2 J_X11_isContent_x28_1 J_X11_isContent_x36_2 FU 0 w1
set_option maxRecDepth 20000 in
theorem Q_X11_isContent_10 {l0 : Launch} {ρ : Nat → Nat} {cs : Nat → ClassId} {G : va_G} {X : Cx} (hρ : injN ρ) (hn : X.2.2.2.2.2.2.2.2.2.2.1 = 5) (h : Okx l0 ρ cs G X prog_1_method_66_code "SowingBoards" 1) {rr : (Int32 × Wd)} (hR : ∀ pc L, decode prog_1_method_66_code pc = .ok (.ireturn, 1) → narrow .boolean (.int rr.1) = .int rr.1 → gG ρ cs G X pc L [.int rr.1] rr.2) {x3 : Int32} {x4 : Int32} {x5 : Int32} {k6 : Wd → Option (Int32 × Wd)} (hk6 : ∀ (w1 : Wd), k6 w1 = some rr → gG ρ cs G X 28 [] [] w1) {k7 : Wd → Option (Int32 × Wd)} (hk7 : ∀ (w1 : Wd), k7 w1 = some rr → gG ρ cs G X 36 [] [] w1) : ∀ (n : Nat) (x9 : Int32) (w : Wd), L_X11_isContent_10 x3 x4 x5 k6 k7 n x9 w = some rr → gG ρ cs G X 10 [(1, .int x3), (2, .int x4), (3, .int x5), (4, .int x9)] [] w := by
  intro n
  induction n with
  | zero =>
    intro x9 w hD
    cases hD
  | succ n8 ih =>
    intro x9 w10 hD
    unfold L_X11_isContent_10 at hD
    refine g_iload h 3 t_X11_isContent_10 rfl ?_
    refine g_bipush (v := 9) h t_X11_isContent_12 (by decide) ?_
    refine g_icmp_gt (tgt := 36) h t_X11_isContent_14 (by decide) hD (fun hD => ?_) (fun hD => ?_)
    · refine g_loc (L' := []) h [] rfl ?_
      exact hk7 _ hD
    · refine g_iload h 3 t_X11_isContent_17 rfl ?_
      refine g_iload_n h 0 t_X11_isContent_19 rfl ?_
      refine g_iload_n h 1 t_X11_isContent_20 rfl ?_
      refine g_callSI h (As := [.int x9, .int x3, .int x4]) (st := []) my_X11_profit ms_X11_profit ml_11_429 rfl rfl (Nat.le_of_ble_eq_true rfl) (by decide) t_X11_isContent_21 hD (fun _ _ e => S_X11_profit hρ  e) (fun x12 w11 hD => ?_)
      refine g_iload_n h 2 t_X11_isContent_24 rfl ?_
      refine g_icmp_le (tgt := 30) h t_X11_isContent_25 (by decide) hD (fun hD => ?_) (fun hD => ?_)
      · obtain ⟨x13, ex13, hD⟩ := bd_ex hD
        refine g_iinc (v := x13) (L' := [(4, .int x13), (1, .int x3), (2, .int x4), (3, .int x5)]) h hn t_X11_isContent_30 (k := 3) rfl (by rw [ex13]; rfl) (by decide) rfl ?_
        refine g_goto (tgt := 10) h t_X11_isContent_33 (by decide) ?_
        refine g_loc (L' := [(1, .int x3), (2, .int x4), (3, .int x5), (4, .int x13)]) h [1, 2, 3, 0] rfl ?_
        exact ih x13 _ hD
      · refine g_loc (L' := []) h [] rfl ?_
        exact hk6 _ hD
set_option maxRecDepth 20000 in
theorem S_X11_isContent {l0 : Launch} {ρ : Nat → Nat} {cs : Nat → ClassId} {G : va_G} (hρ : injN ρ) {p0 : Int32} {p1 : Int32} {p2 : Int32} {w : Wd} {rr : (Int32 × Wd)} (hD : D_X11_isContent p0 p1 p2 w = some rr) : CtI l0 ρ cs G y_X11_isContent prog_1_method_66_code 5 .boolean 1 [.int p0, .int p1, .int p2] w rr.1 rr.2 := by
  refine ctI_of hρ (by decide) (Nat.le_of_ble_eq_true rfl) (fun X hn h hR => ?_)
  unfold D_X11_isContent at hD
  show gG ρ cs G X 0 [(0, .int p0), (1, .int p1), (2, .int p2)] [] w
  refine g_iload_n h 0 t_X11_isContent_0 rfl ?_
  refine g_iload_n h 1 t_X11_isContent_1 rfl ?_
  refine g_iload_n h 2 t_X11_isContent_2 rfl ?_
  refine g_callSI h (As := [.int p0, .int p1, .int p2]) (st := []) my_X11_profit ms_X11_profit ml_11_429 rfl rfl (Nat.le_of_ble_eq_true rfl) (by decide) t_X11_isContent_3 hD (fun _ _ e => S_X11_profit hρ  e) (fun x2 w1 hD => ?_)
  refine g_istore_n (L' := [(3, .int x2), (0, .int p0), (1, .int p1), (2, .int p2)]) h hn t_X11_isContent_6 rfl (by decide) rfl ?_
  refine g_iconst (v := 0) h t_X11_isContent_7 (by decide) ?_
  refine g_istore (L' := [(4, .int 0), (3, .int x2), (0, .int p0), (1, .int p1), (2, .int p2)]) h hn t_X11_isContent_8 (by decide) rfl ?_
  refine g_loc (L' := [(1, .int p1), (2, .int p2), (3, .int x2), (4, .int 0)]) h [3, 4, 1, 0] rfl ?_
  refine Q_X11_isContent_10 hρ hn h hR  ?_ ?_ _ _ _ hD
  · intro w14 hD
    unfold J_X11_isContent_x28_1 at hD
    refine g_iconst (v := 0) h t_X11_isContent_28 (by decide) ?_
    obtain rfl := Option.some.inj hD
    exact hR _ _ t_X11_isContent_29 (b01_n rfl)
  · intro w15 hD
    unfold J_X11_isContent_x36_2 at hD
    refine g_iconst (v := 1) h t_X11_isContent_36 (by decide) ?_
    obtain rfl := Option.some.inj hD
    exact hR _ _ t_X11_isContent_37 (b01_n rfl)
def J_X11_bids_j75_1 (x12 : Int32) (k19 : Int32 → Wd → Option (Int32 × Wd)) : Wd → Option (Int32 × Wd) := fun w23 =>
  bd (x12 + 1) fun x25 => k19 x25 w23
def J_X11_bids_j78_2 (r32 : Int32 → Int32 → Wd → Option (Int32 × Wd)) (x13 : Int32) : Int32 → Wd → Option (Int32 × Wd) := fun x17 w18 =>
  bd (x13 + 1) fun x20 => r32 x17 x20 w18
def L_X11_bids_32 (x8 : Int32) (x9 : Int32) (k10 : Int32 → Wd → Option (Int32 × Wd)) : Nat → Int32 → Int32 → Wd → Option (Int32 × Wd)
  | 0, _, _, _ => none
  | n11 + 1, x12, x13, w14 =>
    if 9 < x13 then (k10 x12 w14) else (bc (D_X11_isContent x9 x13 x8 w14) fun x16 w15 => bd (J_X11_bids_j78_2 (L_X11_bids_32 x8 x9 k10 n11) x13) fun k19 => if x16 = 0 then (k19 x12 w15) else (bc (D_X11_isContent x13 x9 x8 w15) fun x22 w21 => if x22 = 0 then (k19 x12 w21) else (bd (J_X11_bids_j75_1 x12 k19) fun k24 => if x12 = 0 then (bv (D_X3_tell_ x9.toInt64 x13.toInt64 w21) fun w26 => k24 w26) else (k24 w21))))
def J_X11_bids_x84_3 (r23 : Int32 → Int32 → Wd → Option (Int32 × Wd)) (x6 : Int32) : Int32 → Wd → Option (Int32 × Wd) := fun x27 w28 =>
  bd (x6 + 1) fun x29 => r23 x27 x29 w28
def L_X11_bids_23 (x2 : Int32) (k3 : Int32 → Wd → Option (Int32 × Wd)) : Nat → Int32 → Int32 → Wd → Option (Int32 × Wd)
  | 0, _, _, _ => none
  | n4 + 1, x5, x6, w7 =>
    if 9 < x6 then (k3 x5 w7) else (L_X11_bids_32 x2 x6 (J_X11_bids_x84_3 (L_X11_bids_23 x2 k3 n4) x6) FU x5 0 w7)
def J_X11_bids_x90_4  : Int32 → Wd → Option (Int32 × Wd) := fun x30 w31 =>
  some (x30, w31)
def D_X11_bids (p1 : Int32) : Wd → Option (Int32 × Wd) := fun w =>
  if p1 < 0 then (some ((-1), w)) else (if p1 ≤ 20 then (bv (D_X3_clear w) fun w1 => L_X11_bids_23 p1 J_X11_bids_x90_4 FU 0 0 w1) else (some ((-1), w)))
set_option maxRecDepth 20000 in
theorem Q_X11_bids_32 {l0 : Launch} {ρ : Nat → Nat} {cs : Nat → ClassId} {G : va_G} {X : Cx} (hρ : injN ρ) (hn : X.2.2.2.2.2.2.2.2.2.2.1 = 5) (h : Okx l0 ρ cs G X prog_1_method_65_code "SowingBoards" 3) {rr : (Int32 × Wd)} (hR : ∀ pc L, decode prog_1_method_65_code pc = .ok (.ireturn, 1) → narrow .int (.int rr.1) = .int rr.1 → gG ρ cs G X pc L [.int rr.1] rr.2) {x8 : Int32} {x9 : Int32} {k10 : Int32 → Wd → Option (Int32 × Wd)} (hk10 : ∀ (z2 : Int32) (w1 : Wd), k10 z2 w1 = some rr → gG ρ cs G X 84 [(0, .ref (ρ 75)), (1, .int x8), (2, .int z2), (3, .int x9)] [] w1) : ∀ (n : Nat) (x12 : Int32) (x13 : Int32) (w : Wd), L_X11_bids_32 x8 x9 k10 n x12 x13 w = some rr → gG ρ cs G X 32 [(0, .ref (ρ 75)), (1, .int x8), (2, .int x12), (3, .int x9), (4, .int x13)] [] w := by
  intro n
  induction n with
  | zero =>
    intro x12 x13 w hD
    cases hD
  | succ n11 ih =>
    intro x12 x13 w14 hD
    unfold L_X11_bids_32 at hD
    refine g_iload h 4 t_X11_bids_32 rfl ?_
    refine g_bipush (v := 9) h t_X11_bids_34 (by decide) ?_
    refine g_icmp_gt (tgt := 84) h t_X11_bids_36 (by decide) hD (fun hD => ?_) (fun hD => ?_)
    · refine g_loc (L' := [(0, .ref (ρ 75)), (1, .int x8), (2, .int x12), (3, .int x9)]) h [0, 1, 2, 3] rfl ?_
      exact hk10 x12 _ hD
    · refine g_iload_n h 3 t_X11_bids_39 rfl ?_
      refine g_iload h 4 t_X11_bids_40 rfl ?_
      refine g_iload_n h 1 t_X11_bids_42 rfl ?_
      refine g_callSI h (As := [.int x9, .int x13, .int x8]) (st := []) my_X11_isContent ms_X11_isContent ml_11_426 rfl rfl (Nat.le_of_ble_eq_true rfl) (by decide) t_X11_bids_43 hD (fun _ _ e => S_X11_isContent hρ  e) (fun x16 w15 hD => ?_)
      refine g_join (P := fun k19 => ∀ (x17 : Int32) (w18 : Wd), k19 x17 w18 = some rr → gG ρ cs G X 78 [(0, .ref (ρ 75)), (1, .int x8), (2, .int x17), (3, .int x9), (4, .int x13)] [] w18) hD ?_ (fun k19 hk19 hD => ?_)
      · intro x17 w18 hD
        unfold J_X11_bids_j78_2 at hD
        obtain ⟨x20, ex20, hD⟩ := bd_ex hD
        refine g_iinc (v := x20) (L' := [(4, .int x20), (0, .ref (ρ 75)), (1, .int x8), (2, .int x17), (3, .int x9)]) h hn t_X11_bids_78 (k := 4) rfl (by rw [ex20]; rfl) (by decide) rfl ?_
        refine g_goto (tgt := 32) h t_X11_bids_81 (by decide) ?_
        refine g_loc (L' := [(0, .ref (ρ 75)), (1, .int x8), (2, .int x17), (3, .int x9), (4, .int x20)]) h [1, 2, 3, 4, 0] rfl ?_
        exact ih x17 x20 _ hD
      · refine g_if_eq (tgt := 78) h t_X11_bids_46 (by decide) hD (fun hD => ?_) (fun hD => ?_)
        · refine g_loc (L' := [(0, .ref (ρ 75)), (1, .int x8), (2, .int x12), (3, .int x9), (4, .int x13)]) h [0, 1, 2, 3, 4] rfl ?_
          exact hk19 x12 _ hD
        · refine g_iload h 4 t_X11_bids_49 rfl ?_
          refine g_iload_n h 3 t_X11_bids_51 rfl ?_
          refine g_iload_n h 1 t_X11_bids_52 rfl ?_
          refine g_callSI h (As := [.int x13, .int x9, .int x8]) (st := []) my_X11_isContent ms_X11_isContent ml_11_426 rfl rfl (Nat.le_of_ble_eq_true rfl) (by decide) t_X11_bids_53 hD (fun _ _ e => S_X11_isContent hρ  e) (fun x22 w21 hD => ?_)
          refine g_if_eq (tgt := 78) h t_X11_bids_56 (by decide) hD (fun hD => ?_) (fun hD => ?_)
          · refine g_loc (L' := [(0, .ref (ρ 75)), (1, .int x8), (2, .int x12), (3, .int x9), (4, .int x13)]) h [0, 1, 2, 3, 4] rfl ?_
            exact hk19 x12 _ hD
          · refine g_iload_n h 2 t_X11_bids_59 rfl ?_
            refine g_join (P := fun k24 => ∀ (w23 : Wd), k24 w23 = some rr → gG ρ cs G X 75 [(0, .ref (ρ 75)), (1, .int x8), (2, .int x12), (3, .int x9), (4, .int x13)] [] w23) hD ?_ (fun k24 hk24 hD => ?_)
            · intro w23 hD
              unfold J_X11_bids_j75_1 at hD
              obtain ⟨x25, ex25, hD⟩ := bd_ex hD
              refine g_iinc (v := x25) (L' := [(2, .int x25), (0, .ref (ρ 75)), (1, .int x8), (3, .int x9), (4, .int x13)]) h hn t_X11_bids_75 (k := 2) rfl (by rw [ex25]; rfl) (by decide) rfl ?_
              refine g_loc (L' := [(0, .ref (ρ 75)), (1, .int x8), (2, .int x25), (3, .int x9), (4, .int x13)]) h [1, 2, 0, 3, 4] rfl ?_
              exact hk19 x25 _ hD
            · refine g_if_ne (tgt := 75) h t_X11_bids_60 (by decide) hD (fun hD => ?_) (fun hD => ?_)
              · refine g_loc (L' := [(0, .ref (ρ 75)), (1, .int x8), (2, .int x12), (3, .int x9), (4, .int x13)]) h [0, 1, 2, 3, 4] rfl ?_
                exact hk24 _ hD
              · refine g_aload_n h 0 t_X11_bids_63 rfl ?_
                refine g_getR h 75 7 82 fl_11_47 rfl (by decide) rfl t_X11_bids_64 ?_
                refine g_iload_n h 3 t_X11_bids_67 rfl ?_
                refine g_i2l h t_X11_bids_68 ?_
                refine g_iload h 4 t_X11_bids_69 rfl ?_
                refine g_i2l h t_X11_bids_71 ?_
                refine g_callVV h 82 (As := [.long x9.toInt64, .long x13.toInt64]) (st := []) my_X3_tell_ mi_X3_tell_ ml_11_253 rfl (by decide) rfl rfl rfl (Nat.le_of_ble_eq_true rfl) (by decide) t_X11_bids_72 hD (fun _ e => S_X3_tell_ hρ  e) (fun w26 hD => ?_)
                refine g_loc (L' := [(0, .ref (ρ 75)), (1, .int x8), (2, .int x12), (3, .int x9), (4, .int x13)]) h [0, 1, 2, 3, 4] rfl ?_
                exact hk24 _ hD
set_option maxRecDepth 20000 in
theorem Q_X11_bids_23 {l0 : Launch} {ρ : Nat → Nat} {cs : Nat → ClassId} {G : va_G} {X : Cx} (hρ : injN ρ) (hn : X.2.2.2.2.2.2.2.2.2.2.1 = 5) (h : Okx l0 ρ cs G X prog_1_method_65_code "SowingBoards" 3) {rr : (Int32 × Wd)} (hR : ∀ pc L, decode prog_1_method_65_code pc = .ok (.ireturn, 1) → narrow .int (.int rr.1) = .int rr.1 → gG ρ cs G X pc L [.int rr.1] rr.2) {x2 : Int32} {k3 : Int32 → Wd → Option (Int32 × Wd)} (hk3 : ∀ (z2 : Int32) (w1 : Wd), k3 z2 w1 = some rr → gG ρ cs G X 90 [(2, .int z2)] [] w1) : ∀ (n : Nat) (x5 : Int32) (x6 : Int32) (w : Wd), L_X11_bids_23 x2 k3 n x5 x6 w = some rr → gG ρ cs G X 23 [(0, .ref (ρ 75)), (1, .int x2), (2, .int x5), (3, .int x6)] [] w := by
  intro n
  induction n with
  | zero =>
    intro x5 x6 w hD
    cases hD
  | succ n4 ih =>
    intro x5 x6 w7 hD
    unfold L_X11_bids_23 at hD
    refine g_iload_n h 3 t_X11_bids_23 rfl ?_
    refine g_bipush (v := 9) h t_X11_bids_24 (by decide) ?_
    refine g_icmp_gt (tgt := 90) h t_X11_bids_26 (by decide) hD (fun hD => ?_) (fun hD => ?_)
    · refine g_loc (L' := [(2, .int x5)]) h [2] rfl ?_
      exact hk3 x5 _ hD
    · refine g_iconst (v := 0) h t_X11_bids_29 (by decide) ?_
      refine g_istore (L' := [(4, .int 0), (0, .ref (ρ 75)), (1, .int x2), (2, .int x5), (3, .int x6)]) h hn t_X11_bids_30 (by decide) rfl ?_
      refine g_loc (L' := [(0, .ref (ρ 75)), (1, .int x2), (2, .int x5), (3, .int x6), (4, .int 0)]) h [1, 2, 3, 4, 0] rfl ?_
      refine Q_X11_bids_32 hρ hn h hR  ?_ _ _ _ _ hD
      · intro x27 w28 hD
        unfold J_X11_bids_x84_3 at hD
        obtain ⟨x29, ex29, hD⟩ := bd_ex hD
        refine g_iinc (v := x29) (L' := [(3, .int x29), (0, .ref (ρ 75)), (1, .int x2), (2, .int x27)]) h hn t_X11_bids_84 (k := 3) rfl (by rw [ex29]; rfl) (by decide) rfl ?_
        refine g_goto (tgt := 23) h t_X11_bids_87 (by decide) ?_
        refine g_loc (L' := [(0, .ref (ρ 75)), (1, .int x2), (2, .int x27), (3, .int x29)]) h [1, 2, 3, 0] rfl ?_
        exact ih x27 x29 _ hD
set_option maxRecDepth 20000 in
theorem S_X11_bids {l0 : Launch} {ρ : Nat → Nat} {cs : Nat → ClassId} {G : va_G} (hρ : injN ρ) {p1 : Int32} {w : Wd} {rr : (Int32 × Wd)} (hD : D_X11_bids p1 w = some rr) : CtI l0 ρ cs G y_X11_bids prog_1_method_65_code 5 .int 3 [.ref (ρ 75), .int p1] w rr.1 rr.2 := by
  refine ctI_of hρ (by decide) (Nat.le_of_ble_eq_true rfl) (fun X hn h hR => ?_)
  unfold D_X11_bids at hD
  show gG ρ cs G X 0 [(0, .ref (ρ 75)), (1, .int p1)] [] w
  refine g_iload_n h 1 t_X11_bids_0 rfl ?_
  refine g_if_lt (tgt := 10) h t_X11_bids_1 (by decide) hD (fun hD => ?_) (fun hD => ?_)
  · refine g_iconst (v := (-1)) h t_X11_bids_10 (by decide) ?_
    obtain rfl := Option.some.inj hD
    exact hR _ _ t_X11_bids_11 rfl
  · refine g_iload_n h 1 t_X11_bids_4 rfl ?_
    refine g_bipush (v := 20) h t_X11_bids_5 (by decide) ?_
    refine g_icmp_le (tgt := 12) h t_X11_bids_7 (by decide) hD (fun hD => ?_) (fun hD => ?_)
    · refine g_iconst (v := 0) h t_X11_bids_12 (by decide) ?_
      refine g_istore_n (L' := [(2, .int 0), (0, .ref (ρ 75)), (1, .int p1)]) h hn t_X11_bids_13 rfl (by decide) rfl ?_
      refine g_aload_n h 1 t_X11_bids_14 rfl ?_
      refine g_getR h 75 7 82 fl_11_47 rfl (by decide) rfl t_X11_bids_15 ?_
      refine g_callVV h 82 (As := []) (st := []) my_X3_clear mi_X3_clear ml_11_321 rfl (by decide) rfl rfl rfl (Nat.le_of_ble_eq_true rfl) (by decide) t_X11_bids_18 hD (fun _ e => S_X3_clear hρ  e) (fun w1 hD => ?_)
      refine g_iconst (v := 0) h t_X11_bids_21 (by decide) ?_
      refine g_istore_n (L' := [(3, .int 0), (2, .int 0), (0, .ref (ρ 75)), (1, .int p1)]) h hn t_X11_bids_22 rfl (by decide) rfl ?_
      refine g_loc (L' := [(0, .ref (ρ 75)), (1, .int p1), (2, .int 0), (3, .int 0)]) h [2, 3, 1, 0] rfl ?_
      refine Q_X11_bids_23 hρ hn h hR  ?_ _ _ _ _ hD
      · intro x30 w31 hD
        unfold J_X11_bids_x90_4 at hD
        refine g_iload_n h 0 t_X11_bids_90 rfl ?_
        obtain rfl := Option.some.inj hD
        exact hR _ _ t_X11_bids_91 rfl
    · refine g_iconst (v := (-1)) h t_X11_bids_10 (by decide) ?_
      obtain rfl := Option.some.inj hD
      exact hR _ _ t_X11_bids_11 rfl
def L_X11_leadBy_13 (q2 : Nat) (k3 : Wd → Option (Int32 × Wd)) : Nat → Int32 → Wd → Option (Int32 × Wd)
  | 0, _, _ => none
  | n4 + 1, x5, w6 =>
    if 20 ≤ x5 then (k3 w6) else (if (w6.1 6 3) = 0 then (bc (D_X4_play 6 q2 (w6.1 75 18) w6) fun x11 w10 => bd (x5 + 1) fun x12 => L_X11_leadBy_13 q2 k3 n4 x12 w10) else (bc (D_X4_play 6 106 (w6.1 75 18) w6) fun x8 w7 => bd (x5 + 1) fun x9 => L_X11_leadBy_13 q2 k3 n4 x9 w7))
def J_X11_leadBy_x59_1  : Wd → Option (Int32 × Wd) := fun w13 =>
  if ib 0 2 then (if ib 1 2 then (some ((w13.1 8 (0 : Int32).toNatClampNeg) - (w13.1 8 (1 : Int32).toNatClampNeg), w13)) else none) else none
def D_X11_leadBy (o1 : Nat) : Wd → Option (Int32 × Wd) := fun w =>
  bv (D_X5_take 6 0 w) fun w1 => L_X11_leadBy_13 o1 J_X11_leadBy_x59_1 FU 0 w1
set_option maxRecDepth 20000 in
theorem Q_X11_leadBy_13 {l0 : Launch} {ρ : Nat → Nat} {cs : Nat → ClassId} {G : va_G} {X : Cx} (hρ : injN ρ) (hn : X.2.2.2.2.2.2.2.2.2.2.1 = 3) (h : Okx l0 ρ cs G X prog_1_method_69_code "SowingBoards" 13) {rr : (Int32 × Wd)} (hR : ∀ pc L, decode prog_1_method_69_code pc = .ok (.ireturn, 1) → narrow .int (.int rr.1) = .int rr.1 → gG ρ cs G X pc L [.int rr.1] rr.2) {q2 : Nat} (hq2 : isRule q2) {k3 : Wd → Option (Int32 × Wd)} (hk3 : ∀ (w1 : Wd), k3 w1 = some rr → gG ρ cs G X 59 [(0, .ref (ρ 75))] [] w1) : ∀ (n : Nat) (x5 : Int32) (w : Wd), L_X11_leadBy_13 q2 k3 n x5 w = some rr → gG ρ cs G X 13 [(0, .ref (ρ 75)), (1, .ref (ρ q2)), (2, .int x5)] [] w := by
  intro n
  induction n with
  | zero =>
    intro x5 w hD
    cases hD
  | succ n4 ih =>
    intro x5 w6 hD
    unfold L_X11_leadBy_13 at hD
    refine g_iload_n h 2 t_X11_leadBy_13 rfl ?_
    refine g_bipush (v := 20) h t_X11_leadBy_14 (by decide) ?_
    refine g_icmp_ge (tgt := 59) h t_X11_leadBy_16 (by decide) hD (fun hD => ?_) (fun hD => ?_)
    · refine g_loc (L' := [(0, .ref (ρ 75))]) h [0] rfl ?_
      exact hk3 _ hD
    · refine g_aload_n h 0 t_X11_leadBy_19 rfl ?_
      refine g_getR h 75 9 85 fl_11_61 rfl (by decide) rfl t_X11_leadBy_20 ?_
      refine g_aload_n h 0 t_X11_leadBy_23 rfl ?_
      refine g_getR h 75 2 6 fl_11_19 rfl (by decide) rfl t_X11_leadBy_24 ?_
      refine g_aload_n h 0 t_X11_leadBy_27 rfl ?_
      refine g_getR h 75 2 6 fl_11_19 rfl (by decide) rfl t_X11_leadBy_28 ?_
      refine g_getI h 6 3 fl_11_158 rfl (by decide) rfl t_X11_leadBy_31 ?_
      refine g_if_ne (tgt := 41) h t_X11_leadBy_34 (by decide) hD (fun hD => ?_) (fun hD => ?_)
      · refine g_aload_n h 0 t_X11_leadBy_41 rfl ?_
        refine g_getR h 75 13 106 fl_11_89 rfl (by decide) rfl t_X11_leadBy_42 ?_
        refine g_aload_n h 0 t_X11_leadBy_45 rfl ?_
        refine g_getI h 75 18 fl_11_112 rfl (by decide) rfl t_X11_leadBy_46 ?_
        refine g_callVI h 85 (As := [.ref (ρ 6), .ref (ρ 106), .int (w6.1 75 18)]) (st := []) my_X4_play mi_X4_play ml_11_256 rfl (by decide) rfl rfl rfl (Nat.le_of_ble_eq_true rfl) (by decide) t_X11_leadBy_49 hD (fun _ _ e => S_X4_play hρ (by decide) (by decide) e) (fun x8 w7 hD => ?_)
        refine g_pop h t_X11_leadBy_52 rfl ?_
        obtain ⟨x9, ex9, hD⟩ := bd_ex hD
        refine g_iinc (v := x9) (L' := [(2, .int x9), (0, .ref (ρ 75)), (1, .ref (ρ q2))]) h hn t_X11_leadBy_53 (k := 2) rfl (by rw [ex9]; rfl) (by decide) rfl ?_
        refine g_goto (tgt := 13) h t_X11_leadBy_56 (by decide) ?_
        refine g_loc (L' := [(0, .ref (ρ 75)), (1, .ref (ρ q2)), (2, .int x9)]) h [1, 2, 0] rfl ?_
        exact ih x9 _ hD
      · refine g_aload_n h 1 t_X11_leadBy_37 rfl ?_
        refine g_goto (tgt := 45) h t_X11_leadBy_38 (by decide) ?_
        refine g_aload_n h 0 t_X11_leadBy_45 rfl ?_
        refine g_getI h 75 18 fl_11_112 rfl (by decide) rfl t_X11_leadBy_46 ?_
        refine g_callVI h 85 (As := [.ref (ρ 6), .ref (ρ q2), .int (w6.1 75 18)]) (st := []) my_X4_play mi_X4_play ml_11_256 rfl (by decide) rfl rfl rfl (Nat.le_of_ble_eq_true rfl) (by decide) t_X11_leadBy_49 hD (fun _ _ e => S_X4_play hρ (by decide) hq2 e) (fun x11 w10 hD => ?_)
        refine g_pop h t_X11_leadBy_52 rfl ?_
        obtain ⟨x12, ex12, hD⟩ := bd_ex hD
        refine g_iinc (v := x12) (L' := [(2, .int x12), (0, .ref (ρ 75)), (1, .ref (ρ q2))]) h hn t_X11_leadBy_53 (k := 2) rfl (by rw [ex12]; rfl) (by decide) rfl ?_
        refine g_goto (tgt := 13) h t_X11_leadBy_56 (by decide) ?_
        refine g_loc (L' := [(0, .ref (ρ 75)), (1, .ref (ρ q2)), (2, .int x12)]) h [1, 2, 0] rfl ?_
        exact ih x12 _ hD
set_option maxRecDepth 20000 in
theorem S_X11_leadBy {l0 : Launch} {ρ : Nat → Nat} {cs : Nat → ClassId} {G : va_G} (hρ : injN ρ) {o1 : Nat} (ho1 : isRule o1) {w : Wd} {rr : (Int32 × Wd)} (hD : D_X11_leadBy o1 w = some rr) : CtI l0 ρ cs G y_X11_leadBy prog_1_method_69_code 3 .int 13 [.ref (ρ 75), .ref (ρ o1)] w rr.1 rr.2 := by
  refine ctI_of hρ (by decide) (Nat.le_of_ble_eq_true rfl) (fun X hn h hR => ?_)
  unfold D_X11_leadBy at hD
  show gG ρ cs G X 0 [(0, .ref (ρ 75)), (1, .ref (ρ o1))] [] w
  refine g_aload_n h 0 t_X11_leadBy_0 rfl ?_
  refine g_getR h 75 2 6 fl_11_19 rfl (by decide) rfl t_X11_leadBy_1 ?_
  refine g_aload_n h 0 t_X11_leadBy_4 rfl ?_
  refine g_getR h 75 0 0 fl_11_10 rfl (by decide) rfl t_X11_leadBy_5 ?_
  refine g_callVV h 6 (As := [.ref (ρ 0)]) (st := []) my_X5_take mi_X5_take ml_11_269 rfl (by decide) rfl rfl rfl (Nat.le_of_ble_eq_true rfl) (by decide) t_X11_leadBy_8 hD (fun _ e => S_X5_take hρ (by decide) (by decide) e) (fun w1 hD => ?_)
  refine g_iconst (v := 0) h t_X11_leadBy_11 (by decide) ?_
  refine g_istore_n (L' := [(2, .int 0), (0, .ref (ρ 75)), (1, .ref (ρ o1))]) h hn t_X11_leadBy_12 rfl (by decide) rfl ?_
  refine g_loc (L' := [(0, .ref (ρ 75)), (1, .ref (ρ o1)), (2, .int 0)]) h [1, 2, 0] rfl ?_
  refine Q_X11_leadBy_13 hρ hn h hR ho1 ?_ _ _ _ hD
  · intro w13 hD
    unfold J_X11_leadBy_x59_1 at hD
    refine g_aload_n h 0 t_X11_leadBy_59 rfl ?_
    refine g_getR h 75 2 6 fl_11_19 rfl (by decide) rfl t_X11_leadBy_60 ?_
    refine g_getQ h 6 1 8 2 (by decide) rfl fl_11_155 rfl (by decide) rfl t_X11_leadBy_63 ?_
    refine g_iconst (v := 0) h t_X11_leadBy_66 (by decide) ?_
    refine g_iald h 8 rfl (by decide) t_X11_leadBy_67 hD (fun hD => ?_)
    refine g_aload_n h 0 t_X11_leadBy_68 rfl ?_
    refine g_getR h 75 2 6 fl_11_19 rfl (by decide) rfl t_X11_leadBy_69 ?_
    refine g_getQ h 6 1 8 2 (by decide) rfl fl_11_155 rfl (by decide) rfl t_X11_leadBy_72 ?_
    refine g_iconst (v := 1) h t_X11_leadBy_75 (by decide) ?_
    refine g_iald h 8 rfl (by decide) t_X11_leadBy_76 hD (fun hD => ?_)
    refine g_isub h t_X11_leadBy_77 ?_
    obtain rfl := Option.some.inj hD
    exact hR _ _ t_X11_leadBy_78 rfl
def D_X11_other  : Wd → Option (Int32 × Wd) := fun w =>
  bc (D_X7_read w) fun x2 w1 => bv (D_X9_clear w1) fun w3 => if x2 = (-1) then (bc (D_X11_leadBy 103 w3) fun x5 w4 => bc (D_X11_leadBy 106 w4) fun x7 w6 => bv (D_X3_tell_ ((300 + x5).toInt64) ((300 + x7).toInt64) w6) fun w8 => some ((600 + x5) - x7, w8)) else (some ((-1) - x2, w3))
set_option maxRecDepth 20000 in
theorem S_X11_other {l0 : Launch} {ρ : Nat → Nat} {cs : Nat → ClassId} {G : va_G} (hρ : injN ρ)  {w : Wd} {rr : (Int32 × Wd)} (hD : D_X11_other w = some rr) : CtI l0 ρ cs G y_X11_other prog_1_method_68_code 4 .int 14 [.ref (ρ 75)] w rr.1 rr.2 := by
  refine ctI_of hρ (by decide) (Nat.le_of_ble_eq_true rfl) (fun X hn h hR => ?_)
  unfold D_X11_other at hD
  show gG ρ cs G X 0 [(0, .ref (ρ 75))] [] w
  refine g_aload_n h 0 t_X11_other_0 rfl ?_
  refine g_getR h 75 12 100 fl_11_82 rfl (by decide) rfl t_X11_other_1 ?_
  refine g_aload_n h 0 t_X11_other_4 rfl ?_
  refine g_getR h 75 6 80 fl_11_40 rfl (by decide) rfl t_X11_other_5 ?_
  refine g_callVI h 100 (As := [.ref (ρ 80)]) (st := []) my_X7_read mi_X7_read ml_11_183 rfl (by decide) rfl rfl rfl (Nat.le_of_ble_eq_true rfl) (by decide) t_X11_other_8 hD (fun _ _ e => S_X7_read hρ  e) (fun x2 w1 hD => ?_)
  refine g_istore_n (L' := [(1, .int x2), (0, .ref (ρ 75))]) h hn t_X11_other_11 rfl (by decide) rfl ?_
  refine g_aload_n h 1 t_X11_other_12 rfl ?_
  refine g_getR h 75 6 80 fl_11_40 rfl (by decide) rfl t_X11_other_13 ?_
  refine g_callVV h 80 (As := []) (st := []) my_X9_clear mi_X9_clear ml_11_142 rfl (by decide) rfl rfl rfl (Nat.le_of_ble_eq_true rfl) (by decide) t_X11_other_16 hD (fun _ e => S_X9_clear hρ  e) (fun w3 hD => ?_)
  refine g_iload_n h 0 t_X11_other_19 rfl ?_
  refine g_iconst (v := (-1)) h t_X11_other_20 (by decide) ?_
  refine g_icmp_eq (tgt := 28) h t_X11_other_21 (by decide) hD (fun hD => ?_) (fun hD => ?_)
  · refine g_aload_n h 1 t_X11_other_28 rfl ?_
    refine g_aload_n h 1 t_X11_other_29 rfl ?_
    refine g_getR h 75 12 100 fl_11_82 rfl (by decide) rfl t_X11_other_30 ?_
    refine g_getR h 100 2 103 fl_11_187 rfl (by decide) rfl t_X11_other_33 ?_
    refine g_callVI h 75 (As := [.ref (ρ 103)]) (st := []) my_X11_leadBy mi_X11_leadBy ml_11_433 rfl (by decide) rfl rfl rfl (Nat.le_of_ble_eq_true rfl) (by decide) t_X11_other_36 hD (fun _ _ e => S_X11_leadBy hρ (by decide) e) (fun x5 w4 hD => ?_)
    refine g_istore_n (L' := [(2, .int x5), (1, .int x2), (0, .ref (ρ 75))]) h hn t_X11_other_39 rfl (by decide) rfl ?_
    refine g_aload_n h 2 t_X11_other_40 rfl ?_
    refine g_aload_n h 2 t_X11_other_41 rfl ?_
    refine g_getR h 75 13 106 fl_11_89 rfl (by decide) rfl t_X11_other_42 ?_
    refine g_callVI h 75 (As := [.ref (ρ 106)]) (st := []) my_X11_leadBy mi_X11_leadBy ml_11_433 rfl (by decide) rfl rfl rfl (Nat.le_of_ble_eq_true rfl) (by decide) t_X11_other_45 hD (fun _ _ e => S_X11_leadBy hρ (by decide) e) (fun x7 w6 hD => ?_)
    refine g_istore_n (L' := [(3, .int x7), (2, .int x5), (1, .int x2), (0, .ref (ρ 75))]) h hn t_X11_other_48 rfl (by decide) rfl ?_
    refine g_aload_n h 3 t_X11_other_49 rfl ?_
    refine g_getR h 75 7 82 fl_11_47 rfl (by decide) rfl t_X11_other_50 ?_
    refine g_sipush (v := 300) h t_X11_other_53 (by decide) ?_
    refine g_iload_n h 1 t_X11_other_56 rfl ?_
    refine g_iadd h t_X11_other_57 ?_
    refine g_i2l h t_X11_other_58 ?_
    refine g_sipush (v := 300) h t_X11_other_59 (by decide) ?_
    refine g_iload_n h 0 t_X11_other_62 rfl ?_
    refine g_iadd h t_X11_other_63 ?_
    refine g_i2l h t_X11_other_64 ?_
    refine g_callVV h 82 (As := [.long ((300 + x5).toInt64), .long ((300 + x7).toInt64)]) (st := []) my_X3_tell_ mi_X3_tell_ ml_11_253 rfl (by decide) rfl rfl rfl (Nat.le_of_ble_eq_true rfl) (by decide) t_X11_other_65 hD (fun _ e => S_X3_tell_ hρ  e) (fun w8 hD => ?_)
    refine g_sipush (v := 600) h t_X11_other_68 (by decide) ?_
    refine g_iload_n h 1 t_X11_other_71 rfl ?_
    refine g_iadd h t_X11_other_72 ?_
    refine g_iload_n h 0 t_X11_other_73 rfl ?_
    refine g_isub h t_X11_other_74 ?_
    obtain rfl := Option.some.inj hD
    exact hR _ _ t_X11_other_75 rfl
  · refine g_iconst (v := (-1)) h t_X11_other_24 (by decide) ?_
    refine g_iload_n h 0 t_X11_other_25 rfl ?_
    refine g_isub h t_X11_other_26 ?_
    obtain rfl := Option.some.inj hD
    exact hR _ _ t_X11_other_27 rfl
def D_X11_draw (p0 : Int32) (p1 : Int32) : Wd → Option (Int32 × Wd) := fun w =>
  if p1 ≤ 0 then (some (0, w)) else (if ¬ (p1) = 0 then (some (((p0.toUInt32 >>> ((16 : Int32).toUInt32 &&& Int32.toUInt32 31)).toInt32) - ((p0.toUInt32 >>> ((16 : Int32).toUInt32 &&& Int32.toUInt32 31)).toInt32) / p1 * p1, w)) else none)
set_option maxRecDepth 20000 in
theorem S_X11_draw {l0 : Launch} {ρ : Nat → Nat} {cs : Nat → ClassId} {G : va_G} (hρ : injN ρ) {p0 : Int32} {p1 : Int32} {w : Wd} {rr : (Int32 × Wd)} (hD : D_X11_draw p0 p1 w = some rr) : CtI l0 ρ cs G y_X11_draw prog_1_method_72_code 2 .int 0 [.int p0, .int p1] w rr.1 rr.2 := by
  refine ctI_of hρ (by decide) (Nat.le_of_ble_eq_true rfl) (fun X hn h hR => ?_)
  unfold D_X11_draw at hD
  show gG ρ cs G X 0 [(0, .int p0), (1, .int p1)] [] w
  refine g_iload_n h 1 t_X11_draw_0 rfl ?_
  refine g_if_le (tgt := 13) h t_X11_draw_1 (by decide) hD (fun hD => ?_) (fun hD => ?_)
  · refine g_iconst (v := 0) h t_X11_draw_13 (by decide) ?_
    obtain rfl := Option.some.inj hD
    exact hR _ _ t_X11_draw_14 rfl
  · refine g_iload_n h 0 t_X11_draw_4 rfl ?_
    refine g_bipush (v := 16) h t_X11_draw_5 (by decide) ?_
    refine g_iushr h t_X11_draw_7 ?_
    refine g_iload_n h 1 t_X11_draw_8 rfl ?_
    refine g_irem h t_X11_draw_9 hD (fun hD => ?_)
    refine g_goto (tgt := 14) h t_X11_draw_10 (by decide) ?_
    obtain rfl := Option.some.inj hD
    exact hR _ _ t_X11_draw_14 rfl
def D_X11_drawAgain (p0 : Int32) : Wd → Option (Int32 × Wd) := fun w =>
  some ((p0 * 1103515245) + 12345, w)
set_option maxRecDepth 20000 in
theorem S_X11_drawAgain {l0 : Launch} {ρ : Nat → Nat} {cs : Nat → ClassId} {G : va_G} (hρ : injN ρ) {p0 : Int32} {w : Wd} {rr : (Int32 × Wd)} (hD : D_X11_drawAgain p0 w = some rr) : CtI l0 ρ cs G y_X11_drawAgain prog_1_method_71_code 1 .int 0 [.int p0] w rr.1 rr.2 := by
  refine ctI_of hρ (by decide) (Nat.le_of_ble_eq_true rfl) (fun X hn h hR => ?_)
  unfold D_X11_drawAgain at hD
  show gG ρ cs G X 0 [(0, .int p0)] [] w
  refine g_iload_n h 0 t_X11_drawAgain_0 rfl ?_
  refine g_ldcw (v := 1103515245) h t_X11_drawAgain_1 cc_11_449 ?_
  refine g_imul h t_X11_drawAgain_4 ?_
  refine g_sipush (v := 12345) h t_X11_drawAgain_5 (by decide) ?_
  refine g_iadd h t_X11_drawAgain_8 ?_
  obtain rfl := Option.some.inj hD
  exact hR _ _ t_X11_drawAgain_9 rfl
def J_X11_years_j121_1 (r29 : Int32 → Int32 → Wd → Option (Int32 × Wd)) (x6 : Int32) : Int32 → Wd → Option (Int32 × Wd) := fun x14 w15 =>
  bd (x6 + 1) fun x17 => r29 x14 x17 w15
def L_X11_years_29 (x2 : Int32) (k3 : Int32 → Wd → Option (Int32 × Wd)) : Nat → Int32 → Int32 → Wd → Option (Int32 × Wd)
  | 0, _, _, _ => none
  | n4 + 1, x5, x6, w7 =>
    if x2 ≤ x6 then (k3 x6 w7) else (bc (D_X5_isOver 6 w7) fun x9 w8 => if x9 = 0 then (bc (D_X11_drawAgain x5 w8) fun x11 w10 => bc (D_X11_draw x11 3 w10) fun x13 w12 => bd (J_X11_years_j121_1 (L_X11_years_29 x2 k3 n4) x6) fun k16 => if x13 = 2 then (bc (D_X4_play 6 106 (w12.1 75 18) w12) fun x29 w28 => k16 x11 w28) else (bc (D_X11_drawAgain x11 w12) fun x19 w18 => bc (D_X5_fullPits 6 w18) fun x21 w20 => bc (D_X11_draw x19 x21 w20) fun x23 w22 => bc (D_X5_fullPit 6 x23 w22) fun x25 w24 => bc (D_X1_make 84 6 x25 (w24.1 75 18) w24) fun x27 w26 => k16 x19 w26)) else (k3 x6 w8))
def J_X11_years_x127_2  : Int32 → Wd → Option (Int32 × Wd) := fun x30 w31 =>
  bv (D_X3_tell_ x30.toInt64 ((w31.1 6 3).toInt64) w31) fun w32 => if ib 0 2 then (if ib 1 2 then (some ((300 + (w32.1 8 (0 : Int32).toNatClampNeg)) - (w32.1 8 (1 : Int32).toNatClampNeg), w32)) else none) else none
def D_X11_years (p1 : Int32) (p2 : Int32) : Wd → Option (Int32 × Wd) := fun w =>
  if p2 < 1 then (some ((-1), w)) else (if p2 ≤ 60 then (bv (D_X5_take 6 0 w) fun w1 => L_X11_years_29 p2 J_X11_years_x127_2 FU p1 0 w1) else (some ((-1), w)))
set_option maxRecDepth 20000 in
theorem Q_X11_years_29 {l0 : Launch} {ρ : Nat → Nat} {cs : Nat → ClassId} {G : va_G} {X : Cx} (hρ : injN ρ) (hn : X.2.2.2.2.2.2.2.2.2.2.1 = 5) (h : Okx l0 ρ cs G X prog_1_method_70_code "SowingBoards" 13) {rr : (Int32 × Wd)} (hR : ∀ pc L, decode prog_1_method_70_code pc = .ok (.ireturn, 1) → narrow .int (.int rr.1) = .int rr.1 → gG ρ cs G X pc L [.int rr.1] rr.2) {x2 : Int32} {k3 : Int32 → Wd → Option (Int32 × Wd)} (hk3 : ∀ (z4 : Int32) (w1 : Wd), k3 z4 w1 = some rr → gG ρ cs G X 127 [(0, .ref (ρ 75)), (4, .int z4)] [] w1) : ∀ (n : Nat) (x5 : Int32) (x6 : Int32) (w : Wd), L_X11_years_29 x2 k3 n x5 x6 w = some rr → gG ρ cs G X 29 [(0, .ref (ρ 75)), (2, .int x2), (3, .int x5), (4, .int x6)] [] w := by
  intro n
  induction n with
  | zero =>
    intro x5 x6 w hD
    cases hD
  | succ n4 ih =>
    intro x5 x6 w7 hD
    unfold L_X11_years_29 at hD
    refine g_iload h 3 t_X11_years_29 rfl ?_
    refine g_iload_n h 1 t_X11_years_31 rfl ?_
    refine g_icmp_ge (tgt := 127) h t_X11_years_32 (by decide) hD (fun hD => ?_) (fun hD => ?_)
    · refine g_loc (L' := [(0, .ref (ρ 75)), (4, .int x6)]) h [0, 3] rfl ?_
      exact hk3 x6 _ hD
    · refine g_aload_n h 0 t_X11_years_35 rfl ?_
      refine g_getR h 75 2 6 fl_11_19 rfl (by decide) rfl t_X11_years_36 ?_
      refine g_callVI h 6 (As := []) (st := []) my_X5_isOver mi_X5_isOver ml_11_245 rfl (by decide) rfl rfl rfl (Nat.le_of_ble_eq_true rfl) (by decide) t_X11_years_39 hD (fun _ _ e => S_X5_isOver hρ (by decide) e) (fun x9 w8 hD => ?_)
      refine g_if_ne (tgt := 127) h t_X11_years_42 (by decide) hD (fun hD => ?_) (fun hD => ?_)
      · refine g_loc (L' := [(0, .ref (ρ 75)), (4, .int x6)]) h [0, 3] rfl ?_
        exact hk3 x6 _ hD
      · refine g_iload_n h 2 t_X11_years_45 rfl ?_
        refine g_callSI h (As := [.int x5]) (st := []) my_X11_drawAgain ms_X11_drawAgain ml_11_437 rfl rfl (Nat.le_of_ble_eq_true rfl) (by decide) t_X11_years_46 hD (fun _ _ e => S_X11_drawAgain hρ  e) (fun x11 w10 hD => ?_)
        refine g_istore_n (L' := [(3, .int x11), (0, .ref (ρ 75)), (2, .int x2), (4, .int x6)]) h hn t_X11_years_49 rfl (by decide) rfl ?_
        refine g_iload_n h 0 t_X11_years_50 rfl ?_
        refine g_iconst (v := 3) h t_X11_years_51 (by decide) ?_
        refine g_callSI h (As := [.int x11, .int 3]) (st := []) my_X11_draw ms_X11_draw ml_11_440 rfl rfl (Nat.le_of_ble_eq_true rfl) (by decide) t_X11_years_52 hD (fun _ _ e => S_X11_draw hρ  e) (fun x13 w12 hD => ?_)
        refine g_iconst (v := 2) h t_X11_years_55 (by decide) ?_
        refine g_join (P := fun k16 => ∀ (x14 : Int32) (w15 : Wd), k16 x14 w15 = some rr → gG ρ cs G X 121 [(0, .ref (ρ 75)), (2, .int x2), (3, .int x14), (4, .int x6)] [] w15) hD ?_ (fun k16 hk16 hD => ?_)
        · intro x14 w15 hD
          unfold J_X11_years_j121_1 at hD
          obtain ⟨x17, ex17, hD⟩ := bd_ex hD
          refine g_iinc (v := x17) (L' := [(4, .int x17), (0, .ref (ρ 75)), (2, .int x2), (3, .int x14)]) h hn t_X11_years_121 (k := 3) rfl (by rw [ex17]; rfl) (by decide) rfl ?_
          refine g_goto (tgt := 29) h t_X11_years_124 (by decide) ?_
          refine g_loc (L' := [(0, .ref (ρ 75)), (2, .int x2), (3, .int x14), (4, .int x17)]) h [1, 2, 3, 0] rfl ?_
          exact ih x14 x17 _ hD
        · refine g_icmp_ne (tgt := 82) h t_X11_years_56 (by decide) hD (fun hD => ?_) (fun hD => ?_)
          · refine g_iload_n h 0 t_X11_years_82 rfl ?_
            refine g_callSI h (As := [.int x11]) (st := []) my_X11_drawAgain ms_X11_drawAgain ml_11_437 rfl rfl (Nat.le_of_ble_eq_true rfl) (by decide) t_X11_years_83 hD (fun _ _ e => S_X11_drawAgain hρ  e) (fun x19 w18 hD => ?_)
            refine g_istore_n (L' := [(3, .int x19), (0, .ref (ρ 75)), (2, .int x2), (4, .int x6)]) h hn t_X11_years_86 rfl (by decide) rfl ?_
            refine g_aload_n h 1 t_X11_years_87 rfl ?_
            refine g_getR h 75 8 84 fl_11_54 rfl (by decide) rfl t_X11_years_88 ?_
            refine g_aload_n h 1 t_X11_years_91 rfl ?_
            refine g_getR h 75 2 6 fl_11_19 rfl (by decide) rfl t_X11_years_92 ?_
            refine g_aload_n h 1 t_X11_years_95 rfl ?_
            refine g_getR h 75 2 6 fl_11_19 rfl (by decide) rfl t_X11_years_96 ?_
            refine g_iload_n h 0 t_X11_years_99 rfl ?_
            refine g_aload_n h 1 t_X11_years_100 rfl ?_
            refine g_getR h 75 2 6 fl_11_19 rfl (by decide) rfl t_X11_years_101 ?_
            refine g_callVI h 6 (As := []) (st := [.int x19, .ref (ρ 6), .ref (ρ 6), .ref (ρ 84)]) my_X5_fullPits mi_X5_fullPits ml_11_443 rfl (by decide) rfl rfl rfl (Nat.le_of_ble_eq_true rfl) (by decide) t_X11_years_104 hD (fun _ _ e => S_X5_fullPits hρ (by decide) e) (fun x21 w20 hD => ?_)
            refine g_callSI h (As := [.int x19, .int x21]) (st := [.ref (ρ 6), .ref (ρ 6), .ref (ρ 84)]) my_X11_draw ms_X11_draw ml_11_440 rfl rfl (Nat.le_of_ble_eq_true rfl) (by decide) t_X11_years_107 hD (fun _ _ e => S_X11_draw hρ  e) (fun x23 w22 hD => ?_)
            refine g_callVI h 6 (As := [.int x23]) (st := [.ref (ρ 6), .ref (ρ 84)]) my_X5_fullPit mi_X5_fullPit ml_11_446 rfl (by decide) rfl rfl rfl (Nat.le_of_ble_eq_true rfl) (by decide) t_X11_years_110 hD (fun _ _ e => S_X5_fullPit hρ (by decide) e) (fun x25 w24 hD => ?_)
            refine g_aload_n h 1 t_X11_years_113 rfl ?_
            refine g_getI h 75 18 fl_11_112 rfl (by decide) rfl t_X11_years_114 ?_
            refine g_callVI h 84 (As := [.ref (ρ 6), .int x25, .int (w24.1 75 18)]) (st := []) my_X1_make mi_X1_make ml_11_225 rfl (by decide) rfl rfl rfl (Nat.le_of_ble_eq_true rfl) (by decide) t_X11_years_117 hD (fun _ _ e => S_X1_make hρ (by decide) (by decide) e) (fun x27 w26 hD => ?_)
            refine g_pop h t_X11_years_120 rfl ?_
            refine g_loc (L' := [(0, .ref (ρ 75)), (2, .int x2), (3, .int x19), (4, .int x6)]) h [1, 2, 0, 3] rfl ?_
            exact hk16 x19 _ hD
          · refine g_aload_n h 1 t_X11_years_59 rfl ?_
            refine g_getR h 75 9 85 fl_11_61 rfl (by decide) rfl t_X11_years_60 ?_
            refine g_aload_n h 1 t_X11_years_63 rfl ?_
            refine g_getR h 75 2 6 fl_11_19 rfl (by decide) rfl t_X11_years_64 ?_
            refine g_aload_n h 1 t_X11_years_67 rfl ?_
            refine g_getR h 75 13 106 fl_11_89 rfl (by decide) rfl t_X11_years_68 ?_
            refine g_aload_n h 1 t_X11_years_71 rfl ?_
            refine g_getI h 75 18 fl_11_112 rfl (by decide) rfl t_X11_years_72 ?_
            refine g_callVI h 85 (As := [.ref (ρ 6), .ref (ρ 106), .int (w12.1 75 18)]) (st := []) my_X4_play mi_X4_play ml_11_256 rfl (by decide) rfl rfl rfl (Nat.le_of_ble_eq_true rfl) (by decide) t_X11_years_75 hD (fun _ _ e => S_X4_play hρ (by decide) (by decide) e) (fun x29 w28 hD => ?_)
            refine g_pop h t_X11_years_78 rfl ?_
            refine g_goto (tgt := 121) h t_X11_years_79 (by decide) ?_
            refine g_loc (L' := [(0, .ref (ρ 75)), (2, .int x2), (3, .int x11), (4, .int x6)]) h [1, 2, 0, 3] rfl ?_
            exact hk16 x11 _ hD
set_option maxRecDepth 20000 in
theorem S_X11_years {l0 : Launch} {ρ : Nat → Nat} {cs : Nat → ClassId} {G : va_G} (hρ : injN ρ) {p1 : Int32} {p2 : Int32} {w : Wd} {rr : (Int32 × Wd)} (hD : D_X11_years p1 p2 w = some rr) : CtI l0 ρ cs G y_X11_years prog_1_method_70_code 5 .int 13 [.ref (ρ 75), .int p1, .int p2] w rr.1 rr.2 := by
  refine ctI_of hρ (by decide) (Nat.le_of_ble_eq_true rfl) (fun X hn h hR => ?_)
  unfold D_X11_years at hD
  show gG ρ cs G X 0 [(0, .ref (ρ 75)), (1, .int p1), (2, .int p2)] [] w
  refine g_iload_n h 2 t_X11_years_0 rfl ?_
  refine g_iconst (v := 1) h t_X11_years_1 (by decide) ?_
  refine g_icmp_lt (tgt := 11) h t_X11_years_2 (by decide) hD (fun hD => ?_) (fun hD => ?_)
  · refine g_iconst (v := (-1)) h t_X11_years_11 (by decide) ?_
    obtain rfl := Option.some.inj hD
    exact hR _ _ t_X11_years_12 rfl
  · refine g_iload_n h 2 t_X11_years_5 rfl ?_
    refine g_bipush (v := 60) h t_X11_years_6 (by decide) ?_
    refine g_icmp_le (tgt := 13) h t_X11_years_8 (by decide) hD (fun hD => ?_) (fun hD => ?_)
    · refine g_aload_n h 0 t_X11_years_13 rfl ?_
      refine g_getR h 75 2 6 fl_11_19 rfl (by decide) rfl t_X11_years_14 ?_
      refine g_aload_n h 0 t_X11_years_17 rfl ?_
      refine g_getR h 75 0 0 fl_11_10 rfl (by decide) rfl t_X11_years_18 ?_
      refine g_callVV h 6 (As := [.ref (ρ 0)]) (st := []) my_X5_take mi_X5_take ml_11_269 rfl (by decide) rfl rfl rfl (Nat.le_of_ble_eq_true rfl) (by decide) t_X11_years_21 hD (fun _ e => S_X5_take hρ (by decide) (by decide) e) (fun w1 hD => ?_)
      refine g_iload_n h 1 t_X11_years_24 rfl ?_
      refine g_istore_n (L' := [(3, .int p1), (0, .ref (ρ 75)), (1, .int p1), (2, .int p2)]) h hn t_X11_years_25 rfl (by decide) rfl ?_
      refine g_iconst (v := 0) h t_X11_years_26 (by decide) ?_
      refine g_istore (L' := [(4, .int 0), (3, .int p1), (0, .ref (ρ 75)), (1, .int p1), (2, .int p2)]) h hn t_X11_years_27 (by decide) rfl ?_
      refine g_loc (L' := [(0, .ref (ρ 75)), (2, .int p2), (3, .int p1), (4, .int 0)]) h [2, 4, 1, 0] rfl ?_
      refine Q_X11_years_29 hρ hn h hR  ?_ _ _ _ _ hD
      · intro x30 w31 hD
        unfold J_X11_years_x127_2 at hD
        refine g_aload_n h 0 t_X11_years_127 rfl ?_
        refine g_getR h 75 7 82 fl_11_47 rfl (by decide) rfl t_X11_years_128 ?_
        refine g_iload h 1 t_X11_years_131 rfl ?_
        refine g_i2l h t_X11_years_133 ?_
        refine g_aload_n h 0 t_X11_years_134 rfl ?_
        refine g_getR h 75 2 6 fl_11_19 rfl (by decide) rfl t_X11_years_135 ?_
        refine g_getI h 6 3 fl_11_158 rfl (by decide) rfl t_X11_years_138 ?_
        refine g_i2l h t_X11_years_141 ?_
        refine g_callVV h 82 (As := [.long x30.toInt64, .long ((w31.1 6 3).toInt64)]) (st := []) my_X3_tell_ mi_X3_tell_ ml_11_253 rfl (by decide) rfl rfl rfl (Nat.le_of_ble_eq_true rfl) (by decide) t_X11_years_142 hD (fun _ e => S_X3_tell_ hρ  e) (fun w32 hD => ?_)
        refine g_sipush (v := 300) h t_X11_years_145 (by decide) ?_
        refine g_aload_n h 0 t_X11_years_148 rfl ?_
        refine g_getR h 75 2 6 fl_11_19 rfl (by decide) rfl t_X11_years_149 ?_
        refine g_getQ h 6 1 8 2 (by decide) rfl fl_11_155 rfl (by decide) rfl t_X11_years_152 ?_
        refine g_iconst (v := 0) h t_X11_years_155 (by decide) ?_
        refine g_iald h 8 rfl (by decide) t_X11_years_156 hD (fun hD => ?_)
        refine g_iadd h t_X11_years_157 ?_
        refine g_aload_n h 0 t_X11_years_158 rfl ?_
        refine g_getR h 75 2 6 fl_11_19 rfl (by decide) rfl t_X11_years_159 ?_
        refine g_getQ h 6 1 8 2 (by decide) rfl fl_11_155 rfl (by decide) rfl t_X11_years_162 ?_
        refine g_iconst (v := 1) h t_X11_years_165 (by decide) ?_
        refine g_iald h 8 rfl (by decide) t_X11_years_166 hD (fun hD => ?_)
        refine g_isub h t_X11_years_167 ?_
        obtain rfl := Option.some.inj hD
        exact hR _ _ t_X11_years_168 rfl
    · refine g_iconst (v := (-1)) h t_X11_years_11 (by decide) ?_
      obtain rfl := Option.some.inj hD
      exact hR _ _ t_X11_years_12 rfl
def D_X11_keep (p1 : Int32) : Wd → Option (Int32 × Wd) := fun w =>
  if p1 < 0 then (some (0, w)) else (if p1 < 2 then (if ib p1 2 then bd (9 + 3 * p1.toNatClampNeg) (fun q1 => bv (D_X5_take q1 0 w) fun w2 => if ib p1 2 then bd (wI w2 77 p1.toNatClampNeg (vp_nar .boolean 1)) (fun w3 => some (1, w3)) else none) else none) else (some (0, w)))
set_option maxRecDepth 20000 in
theorem S_X11_keep {l0 : Launch} {ρ : Nat → Nat} {cs : Nat → ClassId} {G : va_G} (hρ : injN ρ) {p1 : Int32} {w : Wd} {rr : (Int32 × Wd)} (hD : D_X11_keep p1 w = some rr) : CtI l0 ρ cs G y_X11_keep prog_1_method_73_code 2 .boolean 1 [.ref (ρ 75), .int p1] w rr.1 rr.2 := by
  refine ctI_of hρ (by decide) (Nat.le_of_ble_eq_true rfl) (fun X hn h hR => ?_)
  unfold D_X11_keep at hD
  show gG ρ cs G X 0 [(0, .ref (ρ 75)), (1, .int p1)] [] w
  refine g_iload_n h 1 t_X11_keep_0 rfl ?_
  refine g_if_lt (tgt := 9) h t_X11_keep_1 (by decide) hD (fun hD => ?_) (fun hD => ?_)
  · refine g_iconst (v := 0) h t_X11_keep_9 (by decide) ?_
    obtain rfl := Option.some.inj hD
    exact hR _ _ t_X11_keep_10 (b01_n rfl)
  · refine g_iload_n h 1 t_X11_keep_4 rfl ?_
    refine g_iconst (v := 2) h t_X11_keep_5 (by decide) ?_
    refine g_icmp_lt (tgt := 11) h t_X11_keep_6 (by decide) hD (fun hD => ?_) (fun hD => ?_)
    · refine g_aload_n h 0 t_X11_keep_11 rfl ?_
      refine g_getR h 75 3 76 fl_11_22 rfl (by decide) rfl t_X11_keep_12 ?_
      refine g_iload_n h 1 t_X11_keep_15 rfl ?_
      refine g_pald h 76 rfl (by decide) t_X11_keep_16 hD (fun q1 eq1 lq1 hD => ?_)
      have hq1 : isPos q1 := posA (by decide) (by decide) eq1 lq1
      refine g_aload_n h 0 t_X11_keep_17 rfl ?_
      refine g_getR h 75 0 0 fl_11_10 rfl (by decide) rfl t_X11_keep_18 ?_
      refine g_callVV h q1 (As := [.ref (ρ 0)]) (st := []) my_X5_take mi_X5_take ml_11_269 (isPos_sh hq1) (isPos_lt hq1) rfl rfl rfl (Nat.le_of_ble_eq_true rfl) (by decide) t_X11_keep_21 hD (fun _ e => S_X5_take hρ hq1 (by decide) e) (fun w2 hD => ?_)
      refine g_aload_n h 0 t_X11_keep_24 rfl ?_
      refine g_getR h 75 4 77 fl_11_26 rfl (by decide) rfl t_X11_keep_25 ?_
      refine g_iload_n h 1 t_X11_keep_28 rfl ?_
      refine g_iconst (v := 1) h t_X11_keep_29 (by decide) ?_
      refine g_zast h 77 rfl (by decide) t_X11_keep_30 hD (fun w3 hD => ?_)
      refine g_iconst (v := 1) h t_X11_keep_31 (by decide) ?_
      obtain rfl := Option.some.inj hD
      exact hR _ _ t_X11_keep_32 (b01_n rfl)
    · refine g_iconst (v := 0) h t_X11_keep_9 (by decide) ?_
      obtain rfl := Option.some.inj hD
      exact hR _ _ t_X11_keep_10 (b01_n rfl)
def D_X11_again (p1 : Int32) : Wd → Option (Int32 × Wd) := fun w =>
  if p1 < 0 then (some (0, w)) else (if 2 ≤ p1 then (some (0, w)) else (if ib p1 2 then (if (w.1 77 p1.toNatClampNeg) = 0 then (some (0, w)) else (if ib p1 2 then bd (9 + 3 * p1.toNatClampNeg) (fun q1 => bv (D_X5_take 0 q1 w) fun w2 => bv (D_X0_clear w2) fun w3 => some (1, w3)) else none)) else none))
set_option maxRecDepth 20000 in
theorem S_X11_again {l0 : Launch} {ρ : Nat → Nat} {cs : Nat → ClassId} {G : va_G} (hρ : injN ρ) {p1 : Int32} {w : Wd} {rr : (Int32 × Wd)} (hD : D_X11_again p1 w = some rr) : CtI l0 ρ cs G y_X11_again prog_1_method_74_code 2 .boolean 1 [.ref (ρ 75), .int p1] w rr.1 rr.2 := by
  refine ctI_of hρ (by decide) (Nat.le_of_ble_eq_true rfl) (fun X hn h hR => ?_)
  unfold D_X11_again at hD
  show gG ρ cs G X 0 [(0, .ref (ρ 75)), (1, .int p1)] [] w
  refine g_iload_n h 1 t_X11_again_0 rfl ?_
  refine g_if_lt (tgt := 18) h t_X11_again_1 (by decide) hD (fun hD => ?_) (fun hD => ?_)
  · refine g_iconst (v := 0) h t_X11_again_18 (by decide) ?_
    obtain rfl := Option.some.inj hD
    exact hR _ _ t_X11_again_19 (b01_n rfl)
  · refine g_iload_n h 1 t_X11_again_4 rfl ?_
    refine g_iconst (v := 2) h t_X11_again_5 (by decide) ?_
    refine g_icmp_ge (tgt := 18) h t_X11_again_6 (by decide) hD (fun hD => ?_) (fun hD => ?_)
    · refine g_iconst (v := 0) h t_X11_again_18 (by decide) ?_
      obtain rfl := Option.some.inj hD
      exact hR _ _ t_X11_again_19 (b01_n rfl)
    · refine g_aload_n h 0 t_X11_again_9 rfl ?_
      refine g_getR h 75 4 77 fl_11_26 rfl (by decide) rfl t_X11_again_10 ?_
      refine g_iload_n h 1 t_X11_again_13 rfl ?_
      refine g_zald h 77 rfl (by decide) t_X11_again_14 hD (fun hD => ?_)
      refine g_if_ne (tgt := 20) h t_X11_again_15 (by decide) hD (fun hD => ?_) (fun hD => ?_)
      · refine g_aload_n h 0 t_X11_again_20 rfl ?_
        refine g_getR h 75 0 0 fl_11_10 rfl (by decide) rfl t_X11_again_21 ?_
        refine g_aload_n h 0 t_X11_again_24 rfl ?_
        refine g_getR h 75 3 76 fl_11_22 rfl (by decide) rfl t_X11_again_25 ?_
        refine g_iload_n h 1 t_X11_again_28 rfl ?_
        refine g_pald h 76 rfl (by decide) t_X11_again_29 hD (fun q1 eq1 lq1 hD => ?_)
        have hq1 : isPos q1 := posA (by decide) (by decide) eq1 lq1
        refine g_callVV h 0 (As := [.ref (ρ q1)]) (st := []) my_X5_take mi_X5_take ml_11_269 rfl (by decide) rfl rfl rfl (Nat.le_of_ble_eq_true rfl) (by decide) t_X11_again_30 hD (fun _ e => S_X5_take hρ (by decide) hq1 e) (fun w2 hD => ?_)
        refine g_aload_n h 0 t_X11_again_33 rfl ?_
        refine g_getR h 75 5 78 fl_11_33 rfl (by decide) rfl t_X11_again_34 ?_
        refine g_callVV h 78 (As := []) (st := []) my_X0_clear mi_X0_clear ml_11_164 rfl (by decide) rfl rfl rfl (Nat.le_of_ble_eq_true rfl) (by decide) t_X11_again_37 hD (fun _ e => S_X0_clear hρ  e) (fun w3 hD => ?_)
        refine g_iconst (v := 1) h t_X11_again_40 (by decide) ?_
        obtain rfl := Option.some.inj hD
        exact hR _ _ t_X11_again_41 (b01_n rfl)
      · refine g_iconst (v := 0) h t_X11_again_18 (by decide) ?_
        obtain rfl := Option.some.inj hD
        exact hR _ _ t_X11_again_19 (b01_n rfl)
def D_X11_count (p1 : Int32) : Wd → Option (Int32 × Wd) := fun w =>
  if p1 = 0 then (some (w.1 0 2, w)) else (if p1 = 1 then (some (w.1 0 3, w)) else (if p1 = 2 then (some (w.1 0 4, w)) else (if p1 = 3 then (bc (D_X5_inPits 0 w) fun x2 w1 => some (x2, w1)) else (if p1 = 4 then (bc (D_X5_isOver 0 w) fun x4 w3 => if x4 = 0 then (some (0, w3)) else (some (1, w3))) else (if p1 = 5 then (some (w.1 75 18, w)) else (if p1 = 6 then (some (w.1 112 3, w)) else (if p1 = 7 then (some (w.1 115 3, w)) else (if p1 = 8 then (some (w.1 78 2, w)) else (if p1 = 9 then (some (w.1 82 1, w)) else (if p1 = 10 then (some (w.1 80 1, w)) else (some ((-1), w))))))))))))
set_option maxRecDepth 20000 in
theorem S_X11_count {l0 : Launch} {ρ : Nat → Nat} {cs : Nat → ClassId} {G : va_G} (hρ : injN ρ) {p1 : Int32} {w : Wd} {rr : (Int32 × Wd)} (hD : D_X11_count p1 w = some rr) : CtI l0 ρ cs G y_X11_count prog_1_method_75_code 2 .int 2 [.ref (ρ 75), .int p1] w rr.1 rr.2 := by
  refine ctI_of hρ (by decide) (Nat.le_of_ble_eq_true rfl) (fun X hn h hR => ?_)
  unfold D_X11_count at hD
  show gG ρ cs G X 0 [(0, .ref (ρ 75)), (1, .int p1)] [] w
  refine g_iload_n h 1 t_X11_count_0 rfl ?_
  refine g_cas hD (fun hc0 hD => ?_) (fun hc0 hD => ?_)
  · refine g_tswI (off := 59) (tgt := 60) h t_X11_count_1 (by rw [hc0]; decide) (by rw [hc0]; decide) (by rw [hc0]; rfl) (by decide) ?_
    refine g_aload_n h 0 t_X11_count_60 rfl ?_
    refine g_getR h 75 0 0 fl_11_10 rfl (by decide) rfl t_X11_count_61 ?_
    refine g_getI h 0 2 fl_11_152 rfl (by decide) rfl t_X11_count_64 ?_
    obtain rfl := Option.some.inj hD
    exact hR _ _ t_X11_count_67 rfl
  · refine g_cas hD (fun hc1 hD => ?_) (fun hc1 hD => ?_)
    · refine g_tswI (off := 67) (tgt := 68) h t_X11_count_1 (by rw [hc1]; decide) (by rw [hc1]; decide) (by rw [hc1]; rfl) (by decide) ?_
      refine g_aload_n h 0 t_X11_count_68 rfl ?_
      refine g_getR h 75 0 0 fl_11_10 rfl (by decide) rfl t_X11_count_69 ?_
      refine g_getI h 0 3 fl_11_158 rfl (by decide) rfl t_X11_count_72 ?_
      obtain rfl := Option.some.inj hD
      exact hR _ _ t_X11_count_75 rfl
    · refine g_cas hD (fun hc2 hD => ?_) (fun hc2 hD => ?_)
      · refine g_tswI (off := 75) (tgt := 76) h t_X11_count_1 (by rw [hc2]; decide) (by rw [hc2]; decide) (by rw [hc2]; rfl) (by decide) ?_
        refine g_aload_n h 0 t_X11_count_76 rfl ?_
        refine g_getR h 75 0 0 fl_11_10 rfl (by decide) rfl t_X11_count_77 ?_
        refine g_getI h 0 4 fl_11_161 rfl (by decide) rfl t_X11_count_80 ?_
        obtain rfl := Option.some.inj hD
        exact hR _ _ t_X11_count_83 rfl
      · refine g_cas hD (fun hc3 hD => ?_) (fun hc3 hD => ?_)
        · refine g_tswI (off := 83) (tgt := 84) h t_X11_count_1 (by rw [hc3]; decide) (by rw [hc3]; decide) (by rw [hc3]; rfl) (by decide) ?_
          refine g_aload_n h 0 t_X11_count_84 rfl ?_
          refine g_getR h 75 0 0 fl_11_10 rfl (by decide) rfl t_X11_count_85 ?_
          refine g_callVI h 0 (As := []) (st := []) my_X5_inPits mi_X5_inPits ml_11_145 rfl (by decide) rfl rfl rfl (Nat.le_of_ble_eq_true rfl) (by decide) t_X11_count_88 hD (fun _ _ e => S_X5_inPits hρ (by decide) e) (fun x2 w1 hD => ?_)
          obtain rfl := Option.some.inj hD
          exact hR _ _ t_X11_count_91 rfl
        · refine g_cas hD (fun hc4 hD => ?_) (fun hc4 hD => ?_)
          · refine g_tswI (off := 91) (tgt := 92) h t_X11_count_1 (by rw [hc4]; decide) (by rw [hc4]; decide) (by rw [hc4]; rfl) (by decide) ?_
            refine g_aload_n h 0 t_X11_count_92 rfl ?_
            refine g_getR h 75 0 0 fl_11_10 rfl (by decide) rfl t_X11_count_93 ?_
            refine g_callVI h 0 (As := []) (st := []) my_X5_isOver mi_X5_isOver ml_11_245 rfl (by decide) rfl rfl rfl (Nat.le_of_ble_eq_true rfl) (by decide) t_X11_count_96 hD (fun _ _ e => S_X5_isOver hρ (by decide) e) (fun x4 w3 hD => ?_)
            refine g_if_eq (tgt := 106) h t_X11_count_99 (by decide) hD (fun hD => ?_) (fun hD => ?_)
            · refine g_iconst (v := 0) h t_X11_count_106 (by decide) ?_
              obtain rfl := Option.some.inj hD
              exact hR _ _ t_X11_count_107 rfl
            · refine g_iconst (v := 1) h t_X11_count_102 (by decide) ?_
              refine g_goto (tgt := 107) h t_X11_count_103 (by decide) ?_
              obtain rfl := Option.some.inj hD
              exact hR _ _ t_X11_count_107 rfl
          · refine g_cas hD (fun hc5 hD => ?_) (fun hc5 hD => ?_)
            · refine g_tswI (off := 107) (tgt := 108) h t_X11_count_1 (by rw [hc5]; decide) (by rw [hc5]; decide) (by rw [hc5]; rfl) (by decide) ?_
              refine g_aload_n h 0 t_X11_count_108 rfl ?_
              refine g_getI h 75 18 fl_11_112 rfl (by decide) rfl t_X11_count_109 ?_
              obtain rfl := Option.some.inj hD
              exact hR _ _ t_X11_count_112 rfl
            · refine g_cas hD (fun hc6 hD => ?_) (fun hc6 hD => ?_)
              · refine g_tswI (off := 112) (tgt := 113) h t_X11_count_1 (by rw [hc6]; decide) (by rw [hc6]; decide) (by rw [hc6]; rfl) (by decide) ?_
                refine g_aload_n h 0 t_X11_count_113 rfl ?_
                refine g_getR h 75 15 112 fl_11_101 rfl (by decide) rfl t_X11_count_114 ?_
                refine g_getI h 112 3 fl_11_383 rfl (by decide) rfl t_X11_count_117 ?_
                obtain rfl := Option.some.inj hD
                exact hR _ _ t_X11_count_120 rfl
              · refine g_cas hD (fun hc7 hD => ?_) (fun hc7 hD => ?_)
                · refine g_tswI (off := 120) (tgt := 121) h t_X11_count_1 (by rw [hc7]; decide) (by rw [hc7]; decide) (by rw [hc7]; rfl) (by decide) ?_
                  refine g_aload_n h 0 t_X11_count_121 rfl ?_
                  refine g_getR h 75 16 115 fl_11_105 rfl (by decide) rfl t_X11_count_122 ?_
                  refine g_getI h 115 3 fl_11_383 rfl (by decide) rfl t_X11_count_125 ?_
                  obtain rfl := Option.some.inj hD
                  exact hR _ _ t_X11_count_128 rfl
                · refine g_cas hD (fun hc8 hD => ?_) (fun hc8 hD => ?_)
                  · refine g_tswI (off := 128) (tgt := 129) h t_X11_count_1 (by rw [hc8]; decide) (by rw [hc8]; decide) (by rw [hc8]; rfl) (by decide) ?_
                    refine g_aload_n h 0 t_X11_count_129 rfl ?_
                    refine g_getR h 75 5 78 fl_11_33 rfl (by decide) rfl t_X11_count_130 ?_
                    refine g_getI h 78 2 fl_11_281 rfl (by decide) rfl t_X11_count_133 ?_
                    obtain rfl := Option.some.inj hD
                    exact hR _ _ t_X11_count_136 rfl
                  · refine g_cas hD (fun hc9 hD => ?_) (fun hc9 hD => ?_)
                    · refine g_tswI (off := 136) (tgt := 137) h t_X11_count_1 (by rw [hc9]; decide) (by rw [hc9]; decide) (by rw [hc9]; rfl) (by decide) ?_
                      refine g_aload_n h 0 t_X11_count_137 rfl ?_
                      refine g_getR h 75 7 82 fl_11_47 rfl (by decide) rfl t_X11_count_138 ?_
                      refine g_getI h 82 1 fl_11_450 rfl (by decide) rfl t_X11_count_141 ?_
                      obtain rfl := Option.some.inj hD
                      exact hR _ _ t_X11_count_144 rfl
                    · refine g_cas hD (fun hc10 hD => ?_) (fun hc10 hD => ?_)
                      · refine g_tswI (off := 144) (tgt := 145) h t_X11_count_1 (by rw [hc10]; decide) (by rw [hc10]; decide) (by rw [hc10]; rfl) (by decide) ?_
                        refine g_aload_n h 0 t_X11_count_145 rfl ?_
                        refine g_getR h 75 6 80 fl_11_40 rfl (by decide) rfl t_X11_count_146 ?_
                        refine g_getI h 80 1 fl_11_130 rfl (by decide) rfl t_X11_count_149 ?_
                        obtain rfl := Option.some.inj hD
                        exact hR _ _ t_X11_count_152 rfl
                      · refine g_tswO (tgt := 153) h t_X11_count_1 (by have n0 := lv_neT hc0 (a := 0) (by decide); have n1 := lv_neT hc1 (a := 1) (by decide); have n2 := lv_neT hc2 (a := 2) (by decide); have n3 := lv_neT hc3 (a := 3) (by decide); have n4 := lv_neT hc4 (a := 4) (by decide); have n5 := lv_neT hc5 (a := 5) (by decide); have n6 := lv_neT hc6 (a := 6) (by decide); have n7 := lv_neT hc7 (a := 7) (by decide); have n8 := lv_neT hc8 (a := 8) (by decide); have n9 := lv_neT hc9 (a := 9) (by decide); have n10 := lv_neT hc10 (a := 10) (by decide); omega) (by decide) ?_
                        refine g_iconst (v := (-1)) h t_X11_count_153 (by decide) ?_
                        obtain rfl := Option.some.inj hD
                        exact hR _ _ t_X11_count_154 rfl
