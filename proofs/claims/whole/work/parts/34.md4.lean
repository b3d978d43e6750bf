def y_X12_isSo : MethodName := ⟨"SowingBoardsModel", "isSo", "(III)Z"⟩
theorem t_X12_isSo_0 : decode prog_14_method_86_code 0 = .ok (.iload_n 2, 1) := by decide +kernel
theorem t_X12_isSo_1 : decode prog_14_method_86_code 1 = .ok (.tableswitch 93 0 3 #[31, 38, 54, 77], 31) := by decide +kernel
theorem t_X12_isSo_32 : decode prog_14_method_86_code 32 = .ok (.aload_n 0, 1) := by decide +kernel
theorem t_X12_isSo_33 : decode prog_14_method_86_code 33 = .ok (.iload_n 1, 1) := by decide +kernel
theorem t_X12_isSo_34 : decode prog_14_method_86_code 34 = .ok (.iload_n 3, 1) := by decide +kernel
theorem t_X12_isSo_35 : decode prog_14_method_86_code 35 = .ok (.invokevirtual 246, 3) := by decide +kernel
theorem t_X12_isSo_38 : decode prog_14_method_86_code 38 = .ok (.ireturn, 1) := by decide +kernel
theorem t_X12_isSo_39 : decode prog_14_method_86_code 39 = .ok (.aload_n 0, 1) := by decide +kernel
theorem t_X12_isSo_40 : decode prog_14_method_86_code 40 = .ok (.getfield 9, 3) := by decide +kernel
theorem t_X12_isSo_43 : decode prog_14_method_86_code 43 = .ok (.iload_n 1, 1) := by decide +kernel
theorem t_X12_isSo_44 : decode prog_14_method_86_code 44 = .ok (.iaload, 1) := by decide +kernel
theorem t_X12_isSo_45 : decode prog_14_method_86_code 45 = .ok (.iload_n 3, 1) := by decide +kernel
theorem t_X12_isSo_46 : decode prog_14_method_86_code 46 = .ok (.if_icmp .lt 7, 3) := by decide +kernel
theorem t_X12_isSo_49 : decode prog_14_method_86_code 49 = .ok (.iconst 1, 1) := by decide +kernel
theorem t_X12_isSo_50 : decode prog_14_method_86_code 50 = .ok (.goto 4, 3) := by decide +kernel
theorem t_X12_isSo_53 : decode prog_14_method_86_code 53 = .ok (.iconst 0, 1) := by decide +kernel
theorem t_X12_isSo_54 : decode prog_14_method_86_code 54 = .ok (.ireturn, 1) := by decide +kernel
theorem t_X12_isSo_55 : decode prog_14_method_86_code 55 = .ok (.aload_n 0, 1) := by decide +kernel
theorem t_X12_isSo_56 : decode prog_14_method_86_code 56 = .ok (.getfield 9, 3) := by decide +kernel
theorem t_X12_isSo_59 : decode prog_14_method_86_code 59 = .ok (.aload_n 0, 1) := by decide +kernel
theorem t_X12_isSo_60 : decode prog_14_method_86_code 60 = .ok (.invokevirtual 214, 3) := by decide +kernel
theorem t_X12_isSo_63 : decode prog_14_method_86_code 63 = .ok (.iconst 1, 1) := by decide +kernel
theorem t_X12_isSo_64 : decode prog_14_method_86_code 64 = .ok (.isub, 1) := by decide +kernel
theorem t_X12_isSo_65 : decode prog_14_method_86_code 65 = .ok (.iload_n 1, 1) := by decide +kernel
theorem t_X12_isSo_66 : decode prog_14_method_86_code 66 = .ok (.isub, 1) := by decide +kernel
theorem t_X12_isSo_67 : decode prog_14_method_86_code 67 = .ok (.iaload, 1) := by decide +kernel
theorem t_X12_isSo_68 : decode prog_14_method_86_code 68 = .ok (.iload_n 3, 1) := by decide +kernel
theorem t_X12_isSo_69 : decode prog_14_method_86_code 69 = .ok (.if_icmp .lt 7, 3) := by decide +kernel
theorem t_X12_isSo_72 : decode prog_14_method_86_code 72 = .ok (.iconst 1, 1) := by decide +kernel
theorem t_X12_isSo_73 : decode prog_14_method_86_code 73 = .ok (.goto 4, 3) := by decide +kernel
theorem t_X12_isSo_76 : decode prog_14_method_86_code 76 = .ok (.iconst 0, 1) := by decide +kernel
theorem t_X12_isSo_77 : decode prog_14_method_86_code 77 = .ok (.ireturn, 1) := by decide +kernel
theorem t_X12_isSo_78 : decode prog_14_method_86_code 78 = .ok (.iload_n 1, 1) := by decide +kernel
theorem t_X12_isSo_79 : decode prog_14_method_86_code 79 = .ok (.aload_n 0, 1) := by decide +kernel
theorem t_X12_isSo_80 : decode prog_14_method_86_code 80 = .ok (.getfield 13, 3) := by decide +kernel
theorem t_X12_isSo_83 : decode prog_14_method_86_code 83 = .ok (.irem, 1) := by decide +kernel
theorem t_X12_isSo_84 : decode prog_14_method_86_code 84 = .ok (.iload_n 3, 1) := by decide +kernel
theorem t_X12_isSo_85 : decode prog_14_method_86_code 85 = .ok (.if_icmp .ne 7, 3) := by decide +kernel
theorem t_X12_isSo_88 : decode prog_14_method_86_code 88 = .ok (.iconst 1, 1) := by decide +kernel
theorem t_X12_isSo_89 : decode prog_14_method_86_code 89 = .ok (.goto 4, 3) := by decide +kernel
theorem t_X12_isSo_92 : decode prog_14_method_86_code 92 = .ok (.iconst 0, 1) := by decide +kernel
theorem t_X12_isSo_93 : decode prog_14_method_86_code 93 = .ok (.ireturn, 1) := by decide +kernel
theorem t_X12_isSo_94 : decode prog_14_method_86_code 94 = .ok (.aload_n 0, 1) := by decide +kernel
theorem t_X12_isSo_95 : decode prog_14_method_86_code 95 = .ok (.iload_n 1, 1) := by decide +kernel
theorem t_X12_isSo_96 : decode prog_14_method_86_code 96 = .ok (.aload_n 0, 1) := by decide +kernel
theorem t_X12_isSo_97 : decode prog_14_method_86_code 97 = .ok (.getfield 9, 3) := by decide +kernel
theorem t_X12_isSo_100 : decode prog_14_method_86_code 100 = .ok (.bipush 14, 2) := by decide +kernel
theorem t_X12_isSo_102 : decode prog_14_method_86_code 102 = .ok (.iaload, 1) := by decide +kernel
theorem t_X12_isSo_103 : decode prog_14_method_86_code 103 = .ok (.invokevirtual 246, 3) := by decide +kernel
theorem t_X12_isSo_106 : decode prog_14_method_86_code 106 = .ok (.iload_n 3, 1) := by decide +kernel
theorem t_X12_isSo_107 : decode prog_14_method_86_code 107 = .ok (.iconst 1, 1) := by decide +kernel
theorem t_X12_isSo_108 : decode prog_14_method_86_code 108 = .ok (.if_icmp .ne 7, 3) := by decide +kernel
theorem t_X12_isSo_111 : decode prog_14_method_86_code 111 = .ok (.iconst 1, 1) := by decide +kernel
theorem t_X12_isSo_112 : decode prog_14_method_86_code 112 = .ok (.goto 4, 3) := by decide +kernel
theorem t_X12_isSo_115 : decode prog_14_method_86_code 115 = .ok (.iconst 0, 1) := by decide +kernel
theorem t_X12_isSo_116 : decode prog_14_method_86_code 116 = .ok (.if_icmp .ne 7, 3) := by decide +kernel
theorem t_X12_isSo_119 : decode prog_14_method_86_code 119 = .ok (.iconst 1, 1) := by decide +kernel
theorem t_X12_isSo_120 : decode prog_14_method_86_code 120 = .ok (.goto 4, 3) := by decide +kernel
theorem t_X12_isSo_123 : decode prog_14_method_86_code 123 = .ok (.iconst 0, 1) := by decide +kernel
theorem t_X12_isSo_124 : decode prog_14_method_86_code 124 = .ok (.ireturn, 1) := by decide +kernel
def y_X12_fitting : MethodName := ⟨"SowingBoardsModel", "fitting", "()I"⟩
theorem t_X12_fitting_0 : decode prog_14_method_87_code 0 = .ok (.iconst 0, 1) := by decide +kernel
theorem t_X12_fitting_1 : decode prog_14_method_87_code 1 = .ok (.istore_n 1, 1) := by decide +kernel
theorem t_X12_fitting_2 : decode prog_14_method_87_code 2 = .ok (.iconst 0, 1) := by decide +kernel
theorem t_X12_fitting_3 : decode prog_14_method_87_code 3 = .ok (.istore_n 2, 1) := by decide +kernel
theorem t_X12_fitting_4 : decode prog_14_method_87_code 4 = .ok (.iload_n 2, 1) := by decide +kernel
theorem t_X12_fitting_5 : decode prog_14_method_87_code 5 = .ok (.aload_n 0, 1) := by decide +kernel
theorem t_X12_fitting_6 : decode prog_14_method_87_code 6 = .ok (.invokevirtual 214, 3) := by decide +kernel
theorem t_X12_fitting_9 : decode prog_14_method_87_code 9 = .ok (.if_icmp .ge 75, 3) := by decide +kernel
theorem t_X12_fitting_12 : decode prog_14_method_87_code 12 = .ok (.iconst 1, 1) := by decide +kernel
theorem t_X12_fitting_13 : decode prog_14_method_87_code 13 = .ok (.istore_n 3, 1) := by decide +kernel
theorem t_X12_fitting_14 : decode prog_14_method_87_code 14 = .ok (.iconst 0, 1) := by decide +kernel
theorem t_X12_fitting_15 : decode prog_14_method_87_code 15 = .ok (.istore 4, 2) := by decide +kernel
theorem t_X12_fitting_17 : decode prog_14_method_87_code 17 = .ok (.iload 4, 2) := by decide +kernel
theorem t_X12_fitting_19 : decode prog_14_method_87_code 19 = .ok (.aload_n 0, 1) := by decide +kernel
theorem t_X12_fitting_20 : decode prog_14_method_87_code 20 = .ok (.getfield 354, 3) := by decide +kernel
theorem t_X12_fitting_23 : decode prog_14_method_87_code 23 = .ok (.if_icmp .ge 41, 3) := by decide +kernel
theorem t_X12_fitting_26 : decode prog_14_method_87_code 26 = .ok (.iload_n 3, 1) := by decide +kernel
theorem t_X12_fitting_27 : decode prog_14_method_87_code 27 = .ok (.ifCond .eq 29, 3) := by decide +kernel
theorem t_X12_fitting_30 : decode prog_14_method_87_code 30 = .ok (.aload_n 0, 1) := by decide +kernel
theorem t_X12_fitting_31 : decode prog_14_method_87_code 31 = .ok (.iload_n 2, 1) := by decide +kernel
theorem t_X12_fitting_32 : decode prog_14_method_87_code 32 = .ok (.aload_n 0, 1) := by decide +kernel
theorem t_X12_fitting_33 : decode prog_14_method_87_code 33 = .ok (.getfield 81, 3) := by decide +kernel
theorem t_X12_fitting_36 : decode prog_14_method_87_code 36 = .ok (.iload 4, 2) := by decide +kernel
theorem t_X12_fitting_38 : decode prog_14_method_87_code 38 = .ok (.iaload, 1) := by decide +kernel
theorem t_X12_fitting_39 : decode prog_14_method_87_code 39 = .ok (.aload_n 0, 1) := by decide +kernel
theorem t_X12_fitting_40 : decode prog_14_method_87_code 40 = .ok (.getfield 84, 3) := by decide +kernel
theorem t_X12_fitting_43 : decode prog_14_method_87_code 43 = .ok (.iload 4, 2) := by decide +kernel
theorem t_X12_fitting_45 : decode prog_14_method_87_code 45 = .ok (.iaload, 1) := by decide +kernel
theorem t_X12_fitting_46 : decode prog_14_method_87_code 46 = .ok (.invokevirtual 357, 3) := by decide +kernel
theorem t_X12_fitting_49 : decode prog_14_method_87_code 49 = .ok (.ifCond .eq 7, 3) := by decide +kernel
theorem t_X12_fitting_52 : decode prog_14_method_87_code 52 = .ok (.iconst 1, 1) := by decide +kernel
theorem t_X12_fitting_53 : decode prog_14_method_87_code 53 = .ok (.goto 4, 3) := by decide +kernel
theorem t_X12_fitting_56 : decode prog_14_method_87_code 56 = .ok (.iconst 0, 1) := by decide +kernel
theorem t_X12_fitting_57 : decode prog_14_method_87_code 57 = .ok (.istore_n 3, 1) := by decide +kernel
theorem t_X12_fitting_58 : decode prog_14_method_87_code 58 = .ok (.iinc 4 1, 3) := by decide +kernel
theorem t_X12_fitting_61 : decode prog_14_method_87_code 61 = .ok (.goto (-44), 3) := by decide +kernel
theorem t_X12_fitting_64 : decode prog_14_method_87_code 64 = .ok (.iload_n 1, 1) := by decide +kernel
theorem t_X12_fitting_65 : decode prog_14_method_87_code 65 = .ok (.iload_n 3, 1) := by decide +kernel
theorem t_X12_fitting_66 : decode prog_14_method_87_code 66 = .ok (.ifCond .eq 9, 3) := by decide +kernel
theorem t_X12_fitting_69 : decode prog_14_method_87_code 69 = .ok (.iconst 1, 1) := by decide +kernel
theorem t_X12_fitting_70 : decode prog_14_method_87_code 70 = .ok (.iload_n 2, 1) := by decide +kernel
theorem t_X12_fitting_71 : decode prog_14_method_87_code 71 = .ok (.ishl, 1) := by decide +kernel
theorem t_X12_fitting_72 : decode prog_14_method_87_code 72 = .ok (.goto 4, 3) := by decide +kernel
theorem t_X12_fitting_75 : decode prog_14_method_87_code 75 = .ok (.iconst 0, 1) := by decide +kernel
theorem t_X12_fitting_76 : decode prog_14_method_87_code 76 = .ok (.ior, 1) := by decide +kernel
theorem t_X12_fitting_77 : decode prog_14_method_87_code 77 = .ok (.istore_n 1, 1) := by decide +kernel
theorem t_X12_fitting_78 : decode prog_14_method_87_code 78 = .ok (.iinc 2 1, 3) := by decide +kernel
theorem t_X12_fitting_81 : decode prog_14_method_87_code 81 = .ok (.goto (-77), 3) := by decide +kernel
theorem t_X12_fitting_84 : decode prog_14_method_87_code 84 = .ok (.iload_n 1, 1) := by decide +kernel
theorem t_X12_fitting_85 : decode prog_14_method_87_code 85 = .ok (.ireturn, 1) := by decide +kernel
def y_X12_fits : MethodName := ⟨"SowingBoardsModel", "fits", "()I"⟩
theorem t_X12_fits_0 : decode prog_14_method_88_code 0 = .ok (.aload_n 0, 1) := by decide +kernel
theorem t_X12_fits_1 : decode prog_14_method_88_code 1 = .ok (.iconst 0, 1) := by decide +kernel
theorem t_X12_fits_2 : decode prog_14_method_88_code 2 = .ok (.putfield 109, 3) := by decide +kernel
theorem t_X12_fits_5 : decode prog_14_method_88_code 5 = .ok (.aload_n 0, 1) := by decide +kernel
theorem t_X12_fits_6 : decode prog_14_method_88_code 6 = .ok (.invokevirtual 360, 3) := by decide +kernel
theorem t_X12_fits_9 : decode prog_14_method_88_code 9 = .ok (.istore_n 1, 1) := by decide +kernel
theorem t_X12_fits_10 : decode prog_14_method_88_code 10 = .ok (.aload_n 0, 1) := by decide +kernel
theorem t_X12_fits_11 : decode prog_14_method_88_code 11 = .ok (.iconst 0, 1) := by decide +kernel
theorem t_X12_fits_12 : decode prog_14_method_88_code 12 = .ok (.putfield 112, 3) := by decide +kernel
theorem t_X12_fits_15 : decode prog_14_method_88_code 15 = .ok (.aload_n 0, 1) := by decide +kernel
theorem t_X12_fits_16 : decode prog_14_method_88_code 16 = .ok (.iload_n 1, 1) := by decide +kernel
theorem t_X12_fits_17 : decode prog_14_method_88_code 17 = .ok (.invokestatic 177, 3) := by decide +kernel
theorem t_X12_fits_20 : decode prog_14_method_88_code 20 = .ok (.i2l, 1) := by decide +kernel
theorem t_X12_fits_21 : decode prog_14_method_88_code 21 = .ok (.invokevirtual 260, 3) := by decide +kernel
theorem t_X12_fits_24 : decode prog_14_method_88_code 24 = .ok (.iload_n 1, 1) := by decide +kernel
theorem t_X12_fits_25 : decode prog_14_method_88_code 25 = .ok (.ireturn, 1) := by decide +kernel
def y_X12_asks : MethodName := ⟨"SowingBoardsModel", "asks", "()I"⟩
theorem t_X12_asks_0 : decode prog_14_method_89_code 0 = .ok (.aload_n 0, 1) := by decide +kernel
theorem t_X12_asks_1 : decode prog_14_method_89_code 1 = .ok (.iconst 0, 1) := by decide +kernel
theorem t_X12_asks_2 : decode prog_14_method_89_code 2 = .ok (.putfield 109, 3) := by decide +kernel
theorem t_X12_asks_5 : decode prog_14_method_89_code 5 = .ok (.aload_n 0, 1) := by decide +kernel
theorem t_X12_asks_6 : decode prog_14_method_89_code 6 = .ok (.invokevirtual 360, 3) := by decide +kernel
theorem t_X12_asks_9 : decode prog_14_method_89_code 9 = .ok (.istore_n 1, 1) := by decide +kernel
theorem t_X12_asks_10 : decode prog_14_method_89_code 10 = .ok (.iload_n 1, 1) := by decide +kernel
theorem t_X12_asks_11 : decode prog_14_method_89_code 11 = .ok (.ifCond .ne 6, 3) := by decide +kernel
theorem t_X12_asks_14 : decode prog_14_method_89_code 14 = .ok (.bipush (-2), 2) := by decide +kernel
theorem t_X12_asks_16 : decode prog_14_method_89_code 16 = .ok (.ireturn, 1) := by decide +kernel
theorem t_X12_asks_17 : decode prog_14_method_89_code 17 = .ok (.iconst (-1), 1) := by decide +kernel
theorem t_X12_asks_18 : decode prog_14_method_89_code 18 = .ok (.istore_n 2, 1) := by decide +kernel
theorem t_X12_asks_19 : decode prog_14_method_89_code 19 = .ok (.ldc_w 337, 3) := by decide +kernel
theorem t_X12_asks_22 : decode prog_14_method_89_code 22 = .ok (.istore_n 3, 1) := by decide +kernel
theorem t_X12_asks_23 : decode prog_14_method_89_code 23 = .ok (.iconst 0, 1) := by decide +kernel
theorem t_X12_asks_24 : decode prog_14_method_89_code 24 = .ok (.istore 4, 2) := by decide +kernel
theorem t_X12_asks_26 : decode prog_14_method_89_code 26 = .ok (.iload 4, 2) := by decide +kernel
theorem t_X12_asks_28 : decode prog_14_method_89_code 28 = .ok (.bipush 50, 2) := by decide +kernel
theorem t_X12_asks_30 : decode prog_14_method_89_code 30 = .ok (.if_icmp .ge 116, 3) := by decide +kernel
theorem t_X12_asks_33 : decode prog_14_method_89_code 33 = .ok (.iload 4, 2) := by decide +kernel
theorem t_X12_asks_35 : decode prog_14_method_89_code 35 = .ok (.bipush 10, 2) := by decide +kernel
theorem t_X12_asks_37 : decode prog_14_method_89_code 37 = .ok (.irem, 1) := by decide +kernel
theorem t_X12_asks_38 : decode prog_14_method_89_code 38 = .ok (.iload 4, 2) := by decide +kernel
theorem t_X12_asks_40 : decode prog_14_method_89_code 40 = .ok (.bipush 10, 2) := by decide +kernel
theorem t_X12_asks_42 : decode prog_14_method_89_code 42 = .ok (.idiv, 1) := by decide +kernel
theorem t_X12_asks_43 : decode prog_14_method_89_code 43 = .ok (.invokestatic 351, 3) := by decide +kernel
theorem t_X12_asks_46 : decode prog_14_method_89_code 46 = .ok (.if_icmp .le 6, 3) := by decide +kernel
theorem t_X12_asks_49 : decode prog_14_method_89_code 49 = .ok (.goto 91, 3) := by decide +kernel
theorem t_X12_asks_52 : decode prog_14_method_89_code 52 = .ok (.iconst 0, 1) := by decide +kernel
theorem t_X12_asks_53 : decode prog_14_method_89_code 53 = .ok (.istore 5, 2) := by decide +kernel
theorem t_X12_asks_55 : decode prog_14_method_89_code 55 = .ok (.iconst 0, 1) := by decide +kernel
theorem t_X12_asks_56 : decode prog_14_method_89_code 56 = .ok (.istore 6, 2) := by decide +kernel
theorem t_X12_asks_58 : decode prog_14_method_89_code 58 = .ok (.iload 6, 2) := by decide +kernel
theorem t_X12_asks_60 : decode prog_14_method_89_code 60 = .ok (.aload_n 0, 1) := by decide +kernel
theorem t_X12_asks_61 : decode prog_14_method_89_code 61 = .ok (.invokevirtual 214, 3) := by decide +kernel
theorem t_X12_asks_64 : decode prog_14_method_89_code 64 = .ok (.if_icmp .ge 47, 3) := by decide +kernel
theorem t_X12_asks_67 : decode prog_14_method_89_code 67 = .ok (.iload 5, 2) := by decide +kernel
theorem t_X12_asks_69 : decode prog_14_method_89_code 69 = .ok (.iload_n 1, 1) := by decide +kernel
theorem t_X12_asks_70 : decode prog_14_method_89_code 70 = .ok (.iload 6, 2) := by decide +kernel
theorem t_X12_asks_72 : decode prog_14_method_89_code 72 = .ok (.invokestatic 363, 3) := by decide +kernel
theorem t_X12_asks_75 : decode prog_14_method_89_code 75 = .ok (.ifCond .eq 26, 3) := by decide +kernel
theorem t_X12_asks_78 : decode prog_14_method_89_code 78 = .ok (.aload_n 0, 1) := by decide +kernel
theorem t_X12_asks_79 : decode prog_14_method_89_code 79 = .ok (.iload 6, 2) := by decide +kernel
theorem t_X12_asks_81 : decode prog_14_method_89_code 81 = .ok (.iload 4, 2) := by decide +kernel
theorem t_X12_asks_83 : decode prog_14_method_89_code 83 = .ok (.bipush 10, 2) := by decide +kernel
theorem t_X12_asks_85 : decode prog_14_method_89_code 85 = .ok (.idiv, 1) := by decide +kernel
theorem t_X12_asks_86 : decode prog_14_method_89_code 86 = .ok (.iload 4, 2) := by decide +kernel
theorem t_X12_asks_88 : decode prog_14_method_89_code 88 = .ok (.bipush 10, 2) := by decide +kernel
theorem t_X12_asks_90 : decode prog_14_method_89_code 90 = .ok (.irem, 1) := by decide +kernel
theorem t_X12_asks_91 : decode prog_14_method_89_code 91 = .ok (.invokevirtual 357, 3) := by decide +kernel
theorem t_X12_asks_94 : decode prog_14_method_89_code 94 = .ok (.ifCond .eq 7, 3) := by decide +kernel
theorem t_X12_asks_97 : decode prog_14_method_89_code 97 = .ok (.iconst 1, 1) := by decide +kernel
theorem t_X12_asks_98 : decode prog_14_method_89_code 98 = .ok (.goto 4, 3) := by decide +kernel
theorem t_X12_asks_101 : decode prog_14_method_89_code 101 = .ok (.iconst 0, 1) := by decide +kernel
theorem t_X12_asks_102 : decode prog_14_method_89_code 102 = .ok (.iadd, 1) := by decide +kernel
theorem t_X12_asks_103 : decode prog_14_method_89_code 103 = .ok (.istore 5, 2) := by decide +kernel
theorem t_X12_asks_105 : decode prog_14_method_89_code 105 = .ok (.iinc 6 1, 3) := by decide +kernel
theorem t_X12_asks_108 : decode prog_14_method_89_code 108 = .ok (.goto (-50), 3) := by decide +kernel
theorem t_X12_asks_111 : decode prog_14_method_89_code 111 = .ok (.iload 5, 2) := by decide +kernel
theorem t_X12_asks_113 : decode prog_14_method_89_code 113 = .ok (.iload_n 1, 1) := by decide +kernel
theorem t_X12_asks_114 : decode prog_14_method_89_code 114 = .ok (.invokestatic 177, 3) := by decide +kernel
theorem t_X12_asks_117 : decode prog_14_method_89_code 117 = .ok (.iload 5, 2) := by decide +kernel
theorem t_X12_asks_119 : decode prog_14_method_89_code 119 = .ok (.isub, 1) := by decide +kernel
theorem t_X12_asks_120 : decode prog_14_method_89_code 120 = .ok (.invokestatic 226, 3) := by decide +kernel
theorem t_X12_asks_123 : decode prog_14_method_89_code 123 = .ok (.istore 6, 2) := by decide +kernel
theorem t_X12_asks_125 : decode prog_14_method_89_code 125 = .ok (.iload 6, 2) := by decide +kernel
theorem t_X12_asks_127 : decode prog_14_method_89_code 127 = .ok (.iload_n 3, 1) := by decide +kernel
theorem t_X12_asks_128 : decode prog_14_method_89_code 128 = .ok (.if_icmp .lt 6, 3) := by decide +kernel
theorem t_X12_asks_131 : decode prog_14_method_89_code 131 = .ok (.goto 9, 3) := by decide +kernel
theorem t_X12_asks_134 : decode prog_14_method_89_code 134 = .ok (.iload 4, 2) := by decide +kernel
theorem t_X12_asks_136 : decode prog_14_method_89_code 136 = .ok (.istore_n 2, 1) := by decide +kernel
theorem t_X12_asks_137 : decode prog_14_method_89_code 137 = .ok (.iload 6, 2) := by decide +kernel
theorem t_X12_asks_139 : decode prog_14_method_89_code 139 = .ok (.istore_n 3, 1) := by decide +kernel
theorem t_X12_asks_140 : decode prog_14_method_89_code 140 = .ok (.iinc 4 1, 3) := by decide +kernel
theorem t_X12_asks_143 : decode prog_14_method_89_code 143 = .ok (.goto (-117), 3) := by decide +kernel
theorem t_X12_asks_146 : decode prog_14_method_89_code 146 = .ok (.aload_n 0, 1) := by decide +kernel
theorem t_X12_asks_147 : decode prog_14_method_89_code 147 = .ok (.iconst 0, 1) := by decide +kernel
theorem t_X12_asks_148 : decode prog_14_method_89_code 148 = .ok (.putfield 112, 3) := by decide +kernel
theorem t_X12_asks_151 : decode prog_14_method_89_code 151 = .ok (.aload_n 0, 1) := by decide +kernel
theorem t_X12_asks_152 : decode prog_14_method_89_code 152 = .ok (.iload_n 3, 1) := by decide +kernel
theorem t_X12_asks_153 : decode prog_14_method_89_code 153 = .ok (.i2l, 1) := by decide +kernel
theorem t_X12_asks_154 : decode prog_14_method_89_code 154 = .ok (.invokevirtual 260, 3) := by decide +kernel
theorem t_X12_asks_157 : decode prog_14_method_89_code 157 = .ok (.iload_n 2, 1) := by decide +kernel
theorem t_X12_asks_158 : decode prog_14_method_89_code 158 = .ok (.ireturn, 1) := by decide +kernel
def y_X12_saw : MethodName := ⟨"SowingBoardsModel", "saw", "(II)I"⟩
theorem t_X12_saw_0 : decode prog_14_method_90_code 0 = .ok (.aload_n 0, 1) := by decide +kernel
theorem t_X12_saw_1 : decode prog_14_method_90_code 1 = .ok (.iconst 0, 1) := by decide +kernel
theorem t_X12_saw_2 : decode prog_14_method_90_code 2 = .ok (.putfield 109, 3) := by decide +kernel
theorem t_X12_saw_5 : decode prog_14_method_90_code 5 = .ok (.iload_n 1, 1) := by decide +kernel
theorem t_X12_saw_6 : decode prog_14_method_90_code 6 = .ok (.iconst 0, 1) := by decide +kernel
theorem t_X12_saw_7 : decode prog_14_method_90_code 7 = .ok (.iconst 5, 1) := by decide +kernel
theorem t_X12_saw_8 : decode prog_14_method_90_code 8 = .ok (.invokestatic 118, 3) := by decide +kernel
theorem t_X12_saw_11 : decode prog_14_method_90_code 11 = .ok (.ifCond .eq 28, 3) := by decide +kernel
theorem t_X12_saw_14 : decode prog_14_method_90_code 14 = .ok (.iload_n 2, 1) := by decide +kernel
theorem t_X12_saw_15 : decode prog_14_method_90_code 15 = .ok (.iconst 0, 1) := by decide +kernel
theorem t_X12_saw_16 : decode prog_14_method_90_code 16 = .ok (.bipush 11, 2) := by decide +kernel
theorem t_X12_saw_18 : decode prog_14_method_90_code 18 = .ok (.invokestatic 118, 3) := by decide +kernel
theorem t_X12_saw_21 : decode prog_14_method_90_code 21 = .ok (.ifCond .ne 9, 3) := by decide +kernel
theorem t_X12_saw_24 : decode prog_14_method_90_code 24 = .ok (.iload_n 2, 1) := by decide +kernel
theorem t_X12_saw_25 : decode prog_14_method_90_code 25 = .ok (.bipush 50, 2) := by decide +kernel
theorem t_X12_saw_27 : decode prog_14_method_90_code 27 = .ok (.if_icmp .ne 12, 3) := by decide +kernel
theorem t_X12_saw_30 : decode prog_14_method_90_code 30 = .ok (.aload_n 0, 1) := by decide +kernel
theorem t_X12_saw_31 : decode prog_14_method_90_code 31 = .ok (.getfield 366, 3) := by decide +kernel
theorem t_X12_saw_34 : decode prog_14_method_90_code 34 = .ok (.bipush 10, 2) := by decide +kernel
theorem t_X12_saw_36 : decode prog_14_method_90_code 36 = .ok (.if_icmp .ne 5, 3) := by decide +kernel
theorem t_X12_saw_39 : decode prog_14_method_90_code 39 = .ok (.iconst (-1), 1) := by decide +kernel
theorem t_X12_saw_40 : decode prog_14_method_90_code 40 = .ok (.ireturn, 1) := by decide +kernel
theorem t_X12_saw_41 : decode prog_14_method_90_code 41 = .ok (.aload_n 0, 1) := by decide +kernel
theorem t_X12_saw_42 : decode prog_14_method_90_code 42 = .ok (.getfield 87, 3) := by decide +kernel
theorem t_X12_saw_45 : decode prog_14_method_90_code 45 = .ok (.aload_n 0, 1) := by decide +kernel
theorem t_X12_saw_46 : decode prog_14_method_90_code 46 = .ok (.getfield 366, 3) := by decide +kernel
theorem t_X12_saw_49 : decode prog_14_method_90_code 49 = .ok (.iload_n 1, 1) := by decide +kernel
theorem t_X12_saw_50 : decode prog_14_method_90_code 50 = .ok (.iastore, 1) := by decide +kernel
theorem t_X12_saw_51 : decode prog_14_method_90_code 51 = .ok (.aload_n 0, 1) := by decide +kernel
theorem t_X12_saw_52 : decode prog_14_method_90_code 52 = .ok (.getfield 90, 3) := by decide +kernel
theorem t_X12_saw_55 : decode prog_14_method_90_code 55 = .ok (.aload_n 0, 1) := by decide +kernel
theorem t_X12_saw_56 : decode prog_14_method_90_code 56 = .ok (.getfield 366, 3) := by decide +kernel
theorem t_X12_saw_59 : decode prog_14_method_90_code 59 = .ok (.iload_n 2, 1) := by decide +kernel
theorem t_X12_saw_60 : decode prog_14_method_90_code 60 = .ok (.iastore, 1) := by decide +kernel
theorem t_X12_saw_61 : decode prog_14_method_90_code 61 = .ok (.aload_n 0, 1) := by decide +kernel
theorem t_X12_saw_62 : decode prog_14_method_90_code 62 = .ok (.dup, 1) := by decide +kernel
theorem t_X12_saw_63 : decode prog_14_method_90_code 63 = .ok (.getfield 366, 3) := by decide +kernel
theorem t_X12_saw_66 : decode prog_14_method_90_code 66 = .ok (.iconst 1, 1) := by decide +kernel
theorem t_X12_saw_67 : decode prog_14_method_90_code 67 = .ok (.iadd, 1) := by decide +kernel
theorem t_X12_saw_68 : decode prog_14_method_90_code 68 = .ok (.putfield 366, 3) := by decide +kernel
theorem t_X12_saw_71 : decode prog_14_method_90_code 71 = .ok (.aload_n 0, 1) := by decide +kernel
theorem t_X12_saw_72 : decode prog_14_method_90_code 72 = .ok (.getfield 366, 3) := by decide +kernel
theorem t_X12_saw_75 : decode prog_14_method_90_code 75 = .ok (.ireturn, 1) := by decide +kernel
def y_X12_denies : MethodName := ⟨"SowingBoardsModel", "denies", "()I"⟩
theorem t_X12_denies_0 : decode prog_14_method_91_code 0 = .ok (.aload_n 0, 1) := by decide +kernel
theorem t_X12_denies_1 : decode prog_14_method_91_code 1 = .ok (.iconst 0, 1) := by decide +kernel
theorem t_X12_denies_2 : decode prog_14_method_91_code 2 = .ok (.putfield 109, 3) := by decide +kernel
theorem t_X12_denies_5 : decode prog_14_method_91_code 5 = .ok (.aload_n 0, 1) := by decide +kernel
theorem t_X12_denies_6 : decode prog_14_method_91_code 6 = .ok (.getfield 366, 3) := by decide +kernel
theorem t_X12_denies_9 : decode prog_14_method_91_code 9 = .ok (.istore_n 1, 1) := by decide +kernel
theorem t_X12_denies_10 : decode prog_14_method_91_code 10 = .ok (.aload_n 0, 1) := by decide +kernel
theorem t_X12_denies_11 : decode prog_14_method_91_code 11 = .ok (.iconst 0, 1) := by decide +kernel
theorem t_X12_denies_12 : decode prog_14_method_91_code 12 = .ok (.putfield 366, 3) := by decide +kernel
theorem t_X12_denies_15 : decode prog_14_method_91_code 15 = .ok (.iload_n 1, 1) := by decide +kernel
theorem t_X12_denies_16 : decode prog_14_method_91_code 16 = .ok (.ireturn, 1) := by decide +kernel
def y_X12_fallsBy : MethodName := ⟨"SowingBoardsModel", "fallsBy", "(II)I"⟩
theorem t_X12_fallsBy_0 : decode prog_14_method_92_code 0 = .ok (.aload_n 0, 1) := by decide +kernel
theorem t_X12_fallsBy_1 : decode prog_14_method_92_code 1 = .ok (.aload_n 0, 1) := by decide +kernel
theorem t_X12_fallsBy_2 : decode prog_14_method_92_code 2 = .ok (.getfield 9, 3) := by decide +kernel
theorem t_X12_fallsBy_5 : decode prog_14_method_92_code 5 = .ok (.iload_n 2, 1) := by decide +kernel
theorem t_X12_fallsBy_6 : decode prog_14_method_92_code 6 = .ok (.invokevirtual 264, 3) := by decide +kernel
theorem t_X12_fallsBy_9 : decode prog_14_method_92_code 9 = .ok (.ifCond .ge 5, 3) := by decide +kernel
theorem t_X12_fallsBy_12 : decode prog_14_method_92_code 12 = .ok (.iconst (-1), 1) := by decide +kernel
theorem t_X12_fallsBy_13 : decode prog_14_method_92_code 13 = .ok (.ireturn, 1) := by decide +kernel
theorem t_X12_fallsBy_14 : decode prog_14_method_92_code 14 = .ok (.aload_n 0, 1) := by decide +kernel
theorem t_X12_fallsBy_15 : decode prog_14_method_92_code 15 = .ok (.getfield 17, 3) := by decide +kernel
theorem t_X12_fallsBy_18 : decode prog_14_method_92_code 18 = .ok (.istore_n 3, 1) := by decide +kernel
theorem t_X12_fallsBy_19 : decode prog_14_method_92_code 19 = .ok (.aload_n 0, 1) := by decide +kernel
theorem t_X12_fallsBy_20 : decode prog_14_method_92_code 20 = .ok (.iload_n 1, 1) := by decide +kernel
theorem t_X12_fallsBy_21 : decode prog_14_method_92_code 21 = .ok (.putfield 17, 3) := by decide +kernel
theorem t_X12_fallsBy_24 : decode prog_14_method_92_code 24 = .ok (.aload_n 0, 1) := by decide +kernel
theorem t_X12_fallsBy_25 : decode prog_14_method_92_code 25 = .ok (.getfield 9, 3) := by decide +kernel
theorem t_X12_fallsBy_28 : decode prog_14_method_92_code 28 = .ok (.aload_n 0, 1) := by decide +kernel
theorem t_X12_fallsBy_29 : decode prog_14_method_92_code 29 = .ok (.getfield 46, 3) := by decide +kernel
theorem t_X12_fallsBy_32 : decode prog_14_method_92_code 32 = .ok (.iconst 0, 1) := by decide +kernel
theorem t_X12_fallsBy_33 : decode prog_14_method_92_code 33 = .ok (.invokestatic 256, 3) := by decide +kernel
theorem t_X12_fallsBy_36 : decode prog_14_method_92_code 36 = .ok (.aload_n 0, 1) := by decide +kernel
theorem t_X12_fallsBy_37 : decode prog_14_method_92_code 37 = .ok (.aload_n 0, 1) := by decide +kernel
theorem t_X12_fallsBy_38 : decode prog_14_method_92_code 38 = .ok (.getfield 46, 3) := by decide +kernel
theorem t_X12_fallsBy_41 : decode prog_14_method_92_code 41 = .ok (.iload_n 2, 1) := by decide +kernel
theorem t_X12_fallsBy_42 : decode prog_14_method_92_code 42 = .ok (.invokevirtual 272, 3) := by decide +kernel
theorem t_X12_fallsBy_45 : decode prog_14_method_92_code 45 = .ok (.aload_n 0, 1) := by decide +kernel
theorem t_X12_fallsBy_46 : decode prog_14_method_92_code 46 = .ok (.iload_n 3, 1) := by decide +kernel
theorem t_X12_fallsBy_47 : decode prog_14_method_92_code 47 = .ok (.putfield 17, 3) := by decide +kernel
theorem t_X12_fallsBy_50 : decode prog_14_method_92_code 50 = .ok (.aload_n 0, 1) := by decide +kernel
theorem t_X12_fallsBy_51 : decode prog_14_method_92_code 51 = .ok (.getfield 233, 3) := by decide +kernel
theorem t_X12_fallsBy_54 : decode prog_14_method_92_code 54 = .ok (.ireturn, 1) := by decide +kernel
def y_X12_layLaws : MethodName := ⟨"SowingBoardsModel", "layLaws", "()I"⟩
theorem t_X12_layLaws_0 : decode prog_14_method_93_code 0 = .ok (.iconst 0, 1) := by decide +kernel
theorem t_X12_layLaws_1 : decode prog_14_method_93_code 1 = .ok (.istore_n 1, 1) := by decide +kernel
theorem t_X12_layLaws_2 : decode prog_14_method_93_code 2 = .ok (.iconst 0, 1) := by decide +kernel
theorem t_X12_layLaws_3 : decode prog_14_method_93_code 3 = .ok (.istore_n 2, 1) := by decide +kernel
theorem t_X12_layLaws_4 : decode prog_14_method_93_code 4 = .ok (.iload_n 2, 1) := by decide +kernel
theorem t_X12_layLaws_5 : decode prog_14_method_93_code 5 = .ok (.bipush 64, 2) := by decide +kernel
theorem t_X12_layLaws_7 : decode prog_14_method_93_code 7 = .ok (.if_icmp .ge 89, 3) := by decide +kernel
theorem t_X12_layLaws_10 : decode prog_14_method_93_code 10 = .ok (.aload_n 0, 1) := by decide +kernel
theorem t_X12_layLaws_11 : decode prog_14_method_93_code 11 = .ok (.getfield 93, 3) := by decide +kernel
theorem t_X12_layLaws_14 : decode prog_14_method_93_code 14 = .ok (.iload_n 2, 1) := by decide +kernel
theorem t_X12_layLaws_15 : decode prog_14_method_93_code 15 = .ok (.iconst 1, 1) := by decide +kernel
theorem t_X12_layLaws_16 : decode prog_14_method_93_code 16 = .ok (.bastore, 1) := by decide +kernel
theorem t_X12_layLaws_17 : decode prog_14_method_93_code 17 = .ok (.iconst 0, 1) := by decide +kernel
theorem t_X12_layLaws_18 : decode prog_14_method_93_code 18 = .ok (.istore_n 3, 1) := by decide +kernel
theorem t_X12_layLaws_19 : decode prog_14_method_93_code 19 = .ok (.iload_n 3, 1) := by decide +kernel
theorem t_X12_layLaws_20 : decode prog_14_method_93_code 20 = .ok (.aload_n 0, 1) := by decide +kernel
theorem t_X12_layLaws_21 : decode prog_14_method_93_code 21 = .ok (.getfield 366, 3) := by decide +kernel
theorem t_X12_layLaws_24 : decode prog_14_method_93_code 24 = .ok (.if_icmp .ge 49, 3) := by decide +kernel
theorem t_X12_layLaws_27 : decode prog_14_method_93_code 27 = .ok (.aload_n 0, 1) := by decide +kernel
theorem t_X12_layLaws_28 : decode prog_14_method_93_code 28 = .ok (.getfield 93, 3) := by decide +kernel
theorem t_X12_layLaws_31 : decode prog_14_method_93_code 31 = .ok (.iload_n 2, 1) := by decide +kernel
theorem t_X12_layLaws_32 : decode prog_14_method_93_code 32 = .ok (.aload_n 0, 1) := by decide +kernel
theorem t_X12_layLaws_33 : decode prog_14_method_93_code 33 = .ok (.getfield 93, 3) := by decide +kernel
theorem t_X12_layLaws_36 : decode prog_14_method_93_code 36 = .ok (.iload_n 2, 1) := by decide +kernel
theorem t_X12_layLaws_37 : decode prog_14_method_93_code 37 = .ok (.baload, 1) := by decide +kernel
theorem t_X12_layLaws_38 : decode prog_14_method_93_code 38 = .ok (.ifCond .eq 27, 3) := by decide +kernel
theorem t_X12_layLaws_41 : decode prog_14_method_93_code 41 = .ok (.aload_n 0, 1) := by decide +kernel
theorem t_X12_layLaws_42 : decode prog_14_method_93_code 42 = .ok (.iload_n 2, 1) := by decide +kernel
theorem t_X12_layLaws_43 : decode prog_14_method_93_code 43 = .ok (.aload_n 0, 1) := by decide +kernel
theorem t_X12_layLaws_44 : decode prog_14_method_93_code 44 = .ok (.getfield 87, 3) := by decide +kernel
theorem t_X12_layLaws_47 : decode prog_14_method_93_code 47 = .ok (.iload_n 3, 1) := by decide +kernel
theorem t_X12_layLaws_48 : decode prog_14_method_93_code 48 = .ok (.iaload, 1) := by decide +kernel
theorem t_X12_layLaws_49 : decode prog_14_method_93_code 49 = .ok (.invokevirtual 369, 3) := by decide +kernel
theorem t_X12_layLaws_52 : decode prog_14_method_93_code 52 = .ok (.aload_n 0, 1) := by decide +kernel
theorem t_X12_layLaws_53 : decode prog_14_method_93_code 53 = .ok (.getfield 90, 3) := by decide +kernel
theorem t_X12_layLaws_56 : decode prog_14_method_93_code 56 = .ok (.iload_n 3, 1) := by decide +kernel
theorem t_X12_layLaws_57 : decode prog_14_method_93_code 57 = .ok (.iaload, 1) := by decide +kernel
theorem t_X12_layLaws_58 : decode prog_14_method_93_code 58 = .ok (.if_icmp .ne 7, 3) := by decide +kernel
theorem t_X12_layLaws_61 : decode prog_14_method_93_code 61 = .ok (.iconst 1, 1) := by decide +kernel
theorem t_X12_layLaws_62 : decode prog_14_method_93_code 62 = .ok (.goto 4, 3) := by decide +kernel
theorem t_X12_layLaws_65 : decode prog_14_method_93_code 65 = .ok (.iconst 0, 1) := by decide +kernel
theorem t_X12_layLaws_66 : decode prog_14_method_93_code 66 = .ok (.bastore, 1) := by decide +kernel
theorem t_X12_layLaws_67 : decode prog_14_method_93_code 67 = .ok (.iinc 3 1, 3) := by decide +kernel
theorem t_X12_layLaws_70 : decode prog_14_method_93_code 70 = .ok (.goto (-51), 3) := by decide +kernel
theorem t_X12_layLaws_73 : decode prog_14_method_93_code 73 = .ok (.iload_n 1, 1) := by decide +kernel
theorem t_X12_layLaws_74 : decode prog_14_method_93_code 74 = .ok (.aload_n 0, 1) := by decide +kernel
theorem t_X12_layLaws_75 : decode prog_14_method_93_code 75 = .ok (.getfield 93, 3) := by decide +kernel
theorem t_X12_layLaws_78 : decode prog_14_method_93_code 78 = .ok (.iload_n 2, 1) := by decide +kernel
theorem t_X12_layLaws_79 : decode prog_14_method_93_code 79 = .ok (.baload, 1) := by decide +kernel
theorem t_X12_layLaws_80 : decode prog_14_method_93_code 80 = .ok (.ifCond .eq 7, 3) := by decide +kernel
theorem t_X12_layLaws_83 : decode prog_14_method_93_code 83 = .ok (.iconst 1, 1) := by decide +kernel
theorem t_X12_layLaws_84 : decode prog_14_method_93_code 84 = .ok (.goto 4, 3) := by decide +kernel
theorem t_X12_layLaws_87 : decode prog_14_method_93_code 87 = .ok (.iconst 0, 1) := by decide +kernel
theorem t_X12_layLaws_88 : decode prog_14_method_93_code 88 = .ok (.iadd, 1) := by decide +kernel
theorem t_X12_layLaws_89 : decode prog_14_method_93_code 89 = .ok (.istore_n 1, 1) := by decide +kernel
theorem t_X12_layLaws_90 : decode prog_14_method_93_code 90 = .ok (.iinc 2 1, 3) := by decide +kernel
theorem t_X12_layLaws_93 : decode prog_14_method_93_code 93 = .ok (.goto (-89), 3) := by decide +kernel
theorem t_X12_layLaws_96 : decode prog_14_method_93_code 96 = .ok (.iload_n 1, 1) := by decide +kernel
theorem t_X12_layLaws_97 : decode prog_14_method_93_code 97 = .ok (.ireturn, 1) := by decide +kernel
def y_X12_guess : MethodName := ⟨"SowingBoardsModel", "guess", "()I"⟩
theorem t_X12_guess_0 : decode prog_14_method_94_code 0 = .ok (.aload_n 0, 1) := by decide +kernel
theorem t_X12_guess_1 : decode prog_14_method_94_code 1 = .ok (.iconst 0, 1) := by decide +kernel
theorem t_X12_guess_2 : decode prog_14_method_94_code 2 = .ok (.putfield 109, 3) := by decide +kernel
theorem t_X12_guess_5 : decode prog_14_method_94_code 5 = .ok (.aload_n 0, 1) := by decide +kernel
theorem t_X12_guess_6 : decode prog_14_method_94_code 6 = .ok (.invokevirtual 372, 3) := by decide +kernel
theorem t_X12_guess_9 : decode prog_14_method_94_code 9 = .ok (.istore_n 1, 1) := by decide +kernel
theorem t_X12_guess_10 : decode prog_14_method_94_code 10 = .ok (.iconst (-1), 1) := by decide +kernel
theorem t_X12_guess_11 : decode prog_14_method_94_code 11 = .ok (.istore_n 2, 1) := by decide +kernel
theorem t_X12_guess_12 : decode prog_14_method_94_code 12 = .ok (.bipush 63, 2) := by decide +kernel
theorem t_X12_guess_14 : decode prog_14_method_94_code 14 = .ok (.istore_n 3, 1) := by decide +kernel
theorem t_X12_guess_15 : decode prog_14_method_94_code 15 = .ok (.iconst 0, 1) := by decide +kernel
theorem t_X12_guess_16 : decode prog_14_method_94_code 16 = .ok (.istore 4, 2) := by decide +kernel
theorem t_X12_guess_18 : decode prog_14_method_94_code 18 = .ok (.iload 4, 2) := by decide +kernel
theorem t_X12_guess_20 : decode prog_14_method_94_code 20 = .ok (.bipush 64, 2) := by decide +kernel
theorem t_X12_guess_22 : decode prog_14_method_94_code 22 = .ok (.if_icmp .ge 39, 3) := by decide +kernel
theorem t_X12_guess_25 : decode prog_14_method_94_code 25 = .ok (.aload_n 0, 1) := by decide +kernel
theorem t_X12_guess_26 : decode prog_14_method_94_code 26 = .ok (.getfield 93, 3) := by decide +kernel
theorem t_X12_guess_29 : decode prog_14_method_94_code 29 = .ok (.iload 4, 2) := by decide +kernel
theorem t_X12_guess_31 : decode prog_14_method_94_code 31 = .ok (.baload, 1) := by decide +kernel
theorem t_X12_guess_32 : decode prog_14_method_94_code 32 = .ok (.ifCond .ne 6, 3) := by decide +kernel
theorem t_X12_guess_35 : decode prog_14_method_94_code 35 = .ok (.goto 20, 3) := by decide +kernel
theorem t_X12_guess_38 : decode prog_14_method_94_code 38 = .ok (.iload_n 2, 1) := by decide +kernel
theorem t_X12_guess_39 : decode prog_14_method_94_code 39 = .ok (.iconst (-1), 1) := by decide +kernel
theorem t_X12_guess_40 : decode prog_14_method_94_code 40 = .ok (.if_icmp .ne 8, 3) := by decide +kernel
theorem t_X12_guess_43 : decode prog_14_method_94_code 43 = .ok (.iload 4, 2) := by decide +kernel
theorem t_X12_guess_45 : decode prog_14_method_94_code 45 = .ok (.goto 4, 3) := by decide +kernel
theorem t_X12_guess_48 : decode prog_14_method_94_code 48 = .ok (.iload_n 2, 1) := by decide +kernel
theorem t_X12_guess_49 : decode prog_14_method_94_code 49 = .ok (.istore_n 2, 1) := by decide +kernel
theorem t_X12_guess_50 : decode prog_14_method_94_code 50 = .ok (.iload_n 3, 1) := by decide +kernel
theorem t_X12_guess_51 : decode prog_14_method_94_code 51 = .ok (.iload 4, 2) := by decide +kernel
theorem t_X12_guess_53 : decode prog_14_method_94_code 53 = .ok (.iand, 1) := by decide +kernel
theorem t_X12_guess_54 : decode prog_14_method_94_code 54 = .ok (.istore_n 3, 1) := by decide +kernel
theorem t_X12_guess_55 : decode prog_14_method_94_code 55 = .ok (.iinc 4 1, 3) := by decide +kernel
theorem t_X12_guess_58 : decode prog_14_method_94_code 58 = .ok (.goto (-40), 3) := by decide +kernel
theorem t_X12_guess_61 : decode prog_14_method_94_code 61 = .ok (.aload_n 0, 1) := by decide +kernel
theorem t_X12_guess_62 : decode prog_14_method_94_code 62 = .ok (.iconst 0, 1) := by decide +kernel
theorem t_X12_guess_63 : decode prog_14_method_94_code 63 = .ok (.putfield 112, 3) := by decide +kernel
theorem t_X12_guess_66 : decode prog_14_method_94_code 66 = .ok (.iload_n 1, 1) := by decide +kernel
theorem t_X12_guess_67 : decode prog_14_method_94_code 67 = .ok (.ifCond .le 15, 3) := by decide +kernel
theorem t_X12_guess_70 : decode prog_14_method_94_code 70 = .ok (.aload_n 0, 1) := by decide +kernel
theorem t_X12_guess_71 : decode prog_14_method_94_code 71 = .ok (.iload_n 2, 1) := by decide +kernel
theorem t_X12_guess_72 : decode prog_14_method_94_code 72 = .ok (.i2l, 1) := by decide +kernel
theorem t_X12_guess_73 : decode prog_14_method_94_code 73 = .ok (.invokevirtual 260, 3) := by decide +kernel
theorem t_X12_guess_76 : decode prog_14_method_94_code 76 = .ok (.aload_n 0, 1) := by decide +kernel
theorem t_X12_guess_77 : decode prog_14_method_94_code 77 = .ok (.iload_n 3, 1) := by decide +kernel
theorem t_X12_guess_78 : decode prog_14_method_94_code 78 = .ok (.i2l, 1) := by decide +kernel
theorem t_X12_guess_79 : decode prog_14_method_94_code 79 = .ok (.invokevirtual 260, 3) := by decide +kernel
theorem t_X12_guess_82 : decode prog_14_method_94_code 82 = .ok (.iload_n 1, 1) := by decide +kernel
theorem t_X12_guess_83 : decode prog_14_method_94_code 83 = .ok (.ireturn, 1) := by decide +kernel
def y_X12_tries : MethodName := ⟨"SowingBoardsModel", "tries", "()I"⟩
theorem t_X12_tries_0 : decode prog_14_method_95_code 0 = .ok (.aload_n 0, 1) := by decide +kernel
theorem t_X12_tries_1 : decode prog_14_method_95_code 1 = .ok (.iconst 0, 1) := by decide +kernel
theorem t_X12_tries_2 : decode prog_14_method_95_code 2 = .ok (.putfield 109, 3) := by decide +kernel
theorem t_X12_tries_5 : decode prog_14_method_95_code 5 = .ok (.aload_n 0, 1) := by decide +kernel
theorem t_X12_tries_6 : decode prog_14_method_95_code 6 = .ok (.invokevirtual 372, 3) := by decide +kernel
theorem t_X12_tries_9 : decode prog_14_method_95_code 9 = .ok (.ifCond .eq 14, 3) := by decide +kernel
theorem t_X12_tries_12 : decode prog_14_method_95_code 12 = .ok (.aload_n 0, 1) := by decide +kernel
theorem t_X12_tries_13 : decode prog_14_method_95_code 13 = .ok (.aload_n 0, 1) := by decide +kernel
theorem t_X12_tries_14 : decode prog_14_method_95_code 14 = .ok (.getfield 9, 3) := by decide +kernel
theorem t_X12_tries_17 : decode prog_14_method_95_code 17 = .ok (.invokevirtual 282, 3) := by decide +kernel
theorem t_X12_tries_20 : decode prog_14_method_95_code 20 = .ok (.ifCond .eq 6, 3) := by decide +kernel
theorem t_X12_tries_23 : decode prog_14_method_95_code 23 = .ok (.bipush (-2), 2) := by decide +kernel
theorem t_X12_tries_25 : decode prog_14_method_95_code 25 = .ok (.ireturn, 1) := by decide +kernel
theorem t_X12_tries_26 : decode prog_14_method_95_code 26 = .ok (.iconst (-1), 1) := by decide +kernel
theorem t_X12_tries_27 : decode prog_14_method_95_code 27 = .ok (.istore_n 1, 1) := by decide +kernel
theorem t_X12_tries_28 : decode prog_14_method_95_code 28 = .ok (.ldc_w 337, 3) := by decide +kernel
theorem t_X12_tries_31 : decode prog_14_method_95_code 31 = .ok (.istore_n 2, 1) := by decide +kernel
theorem t_X12_tries_32 : decode prog_14_method_95_code 32 = .ok (.iconst 0, 1) := by decide +kernel
theorem t_X12_tries_33 : decode prog_14_method_95_code 33 = .ok (.istore_n 3, 1) := by decide +kernel
theorem t_X12_tries_34 : decode prog_14_method_95_code 34 = .ok (.iload_n 3, 1) := by decide +kernel
theorem t_X12_tries_35 : decode prog_14_method_95_code 35 = .ok (.aload_n 0, 1) := by decide +kernel
theorem t_X12_tries_36 : decode prog_14_method_95_code 36 = .ok (.getfield 13, 3) := by decide +kernel
theorem t_X12_tries_39 : decode prog_14_method_95_code 39 = .ok (.if_icmp .ge 128, 3) := by decide +kernel
theorem t_X12_tries_42 : decode prog_14_method_95_code 42 = .ok (.aload_n 0, 1) := by decide +kernel
theorem t_X12_tries_43 : decode prog_14_method_95_code 43 = .ok (.aload_n 0, 1) := by decide +kernel
theorem t_X12_tries_44 : decode prog_14_method_95_code 44 = .ok (.getfield 9, 3) := by decide +kernel
theorem t_X12_tries_47 : decode prog_14_method_95_code 47 = .ok (.iload_n 3, 1) := by decide +kernel
theorem t_X12_tries_48 : decode prog_14_method_95_code 48 = .ok (.invokevirtual 264, 3) := by decide +kernel
theorem t_X12_tries_51 : decode prog_14_method_95_code 51 = .ok (.ifCond .ge 6, 3) := by decide +kernel
theorem t_X12_tries_54 : decode prog_14_method_95_code 54 = .ok (.goto 107, 3) := by decide +kernel
theorem t_X12_tries_57 : decode prog_14_method_95_code 57 = .ok (.iconst 0, 1) := by decide +kernel
theorem t_X12_tries_58 : decode prog_14_method_95_code 58 = .ok (.istore 4, 2) := by decide +kernel
theorem t_X12_tries_60 : decode prog_14_method_95_code 60 = .ok (.iconst 0, 1) := by decide +kernel
theorem t_X12_tries_61 : decode prog_14_method_95_code 61 = .ok (.istore 5, 2) := by decide +kernel
theorem t_X12_tries_63 : decode prog_14_method_95_code 63 = .ok (.iload 5, 2) := by decide +kernel
theorem t_X12_tries_65 : decode prog_14_method_95_code 65 = .ok (.bipush 50, 2) := by decide +kernel
theorem t_X12_tries_67 : decode prog_14_method_95_code 67 = .ok (.if_icmp .gt 17, 3) := by decide +kernel
theorem t_X12_tries_70 : decode prog_14_method_95_code 70 = .ok (.aload_n 0, 1) := by decide +kernel
theorem t_X12_tries_71 : decode prog_14_method_95_code 71 = .ok (.getfield 97, 3) := by decide +kernel
theorem t_X12_tries_74 : decode prog_14_method_95_code 74 = .ok (.iload 5, 2) := by decide +kernel
theorem t_X12_tries_76 : decode prog_14_method_95_code 76 = .ok (.iconst 0, 1) := by decide +kernel
theorem t_X12_tries_77 : decode prog_14_method_95_code 77 = .ok (.iastore, 1) := by decide +kernel
theorem t_X12_tries_78 : decode prog_14_method_95_code 78 = .ok (.iinc 5 1, 3) := by decide +kernel
theorem t_X12_tries_81 : decode prog_14_method_95_code 81 = .ok (.goto (-18), 3) := by decide +kernel
theorem t_X12_tries_84 : decode prog_14_method_95_code 84 = .ok (.iconst 0, 1) := by decide +kernel
theorem t_X12_tries_85 : decode prog_14_method_95_code 85 = .ok (.istore 5, 2) := by decide +kernel
theorem t_X12_tries_87 : decode prog_14_method_95_code 87 = .ok (.iload 5, 2) := by decide +kernel
theorem t_X12_tries_89 : decode prog_14_method_95_code 89 = .ok (.bipush 64, 2) := by decide +kernel
theorem t_X12_tries_91 : decode prog_14_method_95_code 91 = .ok (.if_icmp .ge 56, 3) := by decide +kernel
theorem t_X12_tries_94 : decode prog_14_method_95_code 94 = .ok (.aload_n 0, 1) := by decide +kernel
theorem t_X12_tries_95 : decode prog_14_method_95_code 95 = .ok (.getfield 93, 3) := by decide +kernel
theorem t_X12_tries_98 : decode prog_14_method_95_code 98 = .ok (.iload 5, 2) := by decide +kernel
theorem t_X12_tries_100 : decode prog_14_method_95_code 100 = .ok (.baload, 1) := by decide +kernel
theorem t_X12_tries_101 : decode prog_14_method_95_code 101 = .ok (.ifCond .ne 6, 3) := by decide +kernel
theorem t_X12_tries_104 : decode prog_14_method_95_code 104 = .ok (.goto 37, 3) := by decide +kernel
theorem t_X12_tries_107 : decode prog_14_method_95_code 107 = .ok (.aload_n 0, 1) := by decide +kernel
theorem t_X12_tries_108 : decode prog_14_method_95_code 108 = .ok (.iload 5, 2) := by decide +kernel
theorem t_X12_tries_110 : decode prog_14_method_95_code 110 = .ok (.iload_n 3, 1) := by decide +kernel
theorem t_X12_tries_111 : decode prog_14_method_95_code 111 = .ok (.invokevirtual 369, 3) := by decide +kernel
theorem t_X12_tries_114 : decode prog_14_method_95_code 114 = .ok (.istore 6, 2) := by decide +kernel
theorem t_X12_tries_116 : decode prog_14_method_95_code 116 = .ok (.aload_n 0, 1) := by decide +kernel
theorem t_X12_tries_117 : decode prog_14_method_95_code 117 = .ok (.getfield 97, 3) := by decide +kernel
theorem t_X12_tries_120 : decode prog_14_method_95_code 120 = .ok (.iload 6, 2) := by decide +kernel
theorem t_X12_tries_122 : decode prog_14_method_95_code 122 = .ok (.dup2, 1) := by decide +kernel
theorem t_X12_tries_123 : decode prog_14_method_95_code 123 = .ok (.iaload, 1) := by decide +kernel
theorem t_X12_tries_124 : decode prog_14_method_95_code 124 = .ok (.iconst 1, 1) := by decide +kernel
theorem t_X12_tries_125 : decode prog_14_method_95_code 125 = .ok (.iadd, 1) := by decide +kernel
theorem t_X12_tries_126 : decode prog_14_method_95_code 126 = .ok (.iastore, 1) := by decide +kernel
theorem t_X12_tries_127 : decode prog_14_method_95_code 127 = .ok (.iload 4, 2) := by decide +kernel
theorem t_X12_tries_129 : decode prog_14_method_95_code 129 = .ok (.aload_n 0, 1) := by decide +kernel
theorem t_X12_tries_130 : decode prog_14_method_95_code 130 = .ok (.getfield 97, 3) := by decide +kernel
theorem t_X12_tries_133 : decode prog_14_method_95_code 133 = .ok (.iload 6, 2) := by decide +kernel
theorem t_X12_tries_135 : decode prog_14_method_95_code 135 = .ok (.iaload, 1) := by decide +kernel
theorem t_X12_tries_136 : decode prog_14_method_95_code 136 = .ok (.invokestatic 226, 3) := by decide +kernel
theorem t_X12_tries_139 : decode prog_14_method_95_code 139 = .ok (.istore 4, 2) := by decide +kernel
theorem t_X12_tries_141 : decode prog_14_method_95_code 141 = .ok (.iinc 5 1, 3) := by decide +kernel
theorem t_X12_tries_144 : decode prog_14_method_95_code 144 = .ok (.goto (-57), 3) := by decide +kernel
theorem t_X12_tries_147 : decode prog_14_method_95_code 147 = .ok (.iload 4, 2) := by decide +kernel
theorem t_X12_tries_149 : decode prog_14_method_95_code 149 = .ok (.iload_n 2, 1) := by decide +kernel
theorem t_X12_tries_150 : decode prog_14_method_95_code 150 = .ok (.if_icmp .lt 6, 3) := by decide +kernel
theorem t_X12_tries_153 : decode prog_14_method_95_code 153 = .ok (.goto 8, 3) := by decide +kernel
theorem t_X12_tries_156 : decode prog_14_method_95_code 156 = .ok (.iload_n 3, 1) := by decide +kernel
theorem t_X12_tries_157 : decode prog_14_method_95_code 157 = .ok (.istore_n 1, 1) := by decide +kernel
theorem t_X12_tries_158 : decode prog_14_method_95_code 158 = .ok (.iload 4, 2) := by decide +kernel
theorem t_X12_tries_160 : decode prog_14_method_95_code 160 = .ok (.istore_n 2, 1) := by decide +kernel
theorem t_X12_tries_161 : decode prog_14_method_95_code 161 = .ok (.iinc 3 1, 3) := by decide +kernel
theorem t_X12_tries_164 : decode prog_14_method_95_code 164 = .ok (.goto (-130), 3) := by decide +kernel
theorem t_X12_tries_167 : decode prog_14_method_95_code 167 = .ok (.aload_n 0, 1) := by decide +kernel
theorem t_X12_tries_168 : decode prog_14_method_95_code 168 = .ok (.iconst 0, 1) := by decide +kernel
theorem t_X12_tries_169 : decode prog_14_method_95_code 169 = .ok (.putfield 112, 3) := by decide +kernel
theorem t_X12_tries_172 : decode prog_14_method_95_code 172 = .ok (.aload_n 0, 1) := by decide +kernel
theorem t_X12_tries_173 : decode prog_14_method_95_code 173 = .ok (.iload_n 2, 1) := by decide +kernel
theorem t_X12_tries_174 : decode prog_14_method_95_code 174 = .ok (.i2l, 1) := by decide +kernel
theorem t_X12_tries_175 : decode prog_14_method_95_code 175 = .ok (.invokevirtual 260, 3) := by decide +kernel
theorem t_X12_tries_178 : decode prog_14_method_95_code 178 = .ok (.iload_n 1, 1) := by decide +kernel
theorem t_X12_tries_179 : decode prog_14_method_95_code 179 = .ok (.ireturn, 1) := by decide +kernel
def y_X12_gets : MethodName := ⟨"SowingBoardsModel", "gets", "(III)I"⟩
theorem t_X12_gets_0 : decode prog_14_method_96_code 0 = .ok (.iload_n 0, 1) := by decide +kernel
theorem t_X12_gets_1 : decode prog_14_method_96_code 1 = .ok (.iload_n 1, 1) := by decide +kernel
theorem t_X12_gets_2 : decode prog_14_method_96_code 2 = .ok (.if_icmp .ne 9, 3) := by decide +kernel
theorem t_X12_gets_5 : decode prog_14_method_96_code 5 = .ok (.iload_n 2, 1) := by decide +kernel
theorem t_X12_gets_6 : decode prog_14_method_96_code 6 = .ok (.iconst 3, 1) := by decide +kernel
theorem t_X12_gets_7 : decode prog_14_method_96_code 7 = .ok (.idiv, 1) := by decide +kernel
theorem t_X12_gets_8 : decode prog_14_method_96_code 8 = .ok (.iconst 1, 1) := by decide +kernel
theorem t_X12_gets_9 : decode prog_14_method_96_code 9 = .ok (.isub, 1) := by decide +kernel
theorem t_X12_gets_10 : decode prog_14_method_96_code 10 = .ok (.ireturn, 1) := by decide +kernel
theorem t_X12_gets_11 : decode prog_14_method_96_code 11 = .ok (.iload_n 0, 1) := by decide +kernel
theorem t_X12_gets_12 : decode prog_14_method_96_code 12 = .ok (.iload_n 1, 1) := by decide +kernel
theorem t_X12_gets_13 : decode prog_14_method_96_code 13 = .ok (.if_icmp .le 9, 3) := by decide +kernel
theorem t_X12_gets_16 : decode prog_14_method_96_code 16 = .ok (.iload_n 2, 1) := by decide +kernel
theorem t_X12_gets_17 : decode prog_14_method_96_code 17 = .ok (.iload_n 0, 1) := by decide +kernel
theorem t_X12_gets_18 : decode prog_14_method_96_code 18 = .ok (.isub, 1) := by decide +kernel
theorem t_X12_gets_19 : decode prog_14_method_96_code 19 = .ok (.goto 6, 3) := by decide +kernel
theorem t_X12_gets_22 : decode prog_14_method_96_code 22 = .ok (.iload_n 0, 1) := by decide +kernel
theorem t_X12_gets_23 : decode prog_14_method_96_code 23 = .ok (.iconst 2, 1) := by decide +kernel
theorem t_X12_gets_24 : decode prog_14_method_96_code 24 = .ok (.idiv, 1) := by decide +kernel
theorem t_X12_gets_25 : decode prog_14_method_96_code 25 = .ok (.ireturn, 1) := by decide +kernel
def y_X12_isBest : MethodName := ⟨"SowingBoardsModel", "isBest", "(III)Z"⟩
theorem t_X12_isBest_0 : decode prog_14_method_97_code 0 = .ok (.iconst 0, 1) := by decide +kernel
theorem t_X12_isBest_1 : decode prog_14_method_97_code 1 = .ok (.istore_n 3, 1) := by decide +kernel
theorem t_X12_isBest_2 : decode prog_14_method_97_code 2 = .ok (.iload_n 3, 1) := by decide +kernel
theorem t_X12_isBest_3 : decode prog_14_method_97_code 3 = .ok (.bipush 9, 2) := by decide +kernel
theorem t_X12_isBest_5 : decode prog_14_method_97_code 5 = .ok (.if_icmp .gt 26, 3) := by decide +kernel
theorem t_X12_isBest_8 : decode prog_14_method_97_code 8 = .ok (.iload_n 3, 1) := by decide +kernel
theorem t_X12_isBest_9 : decode prog_14_method_97_code 9 = .ok (.iload_n 1, 1) := by decide +kernel
theorem t_X12_isBest_10 : decode prog_14_method_97_code 10 = .ok (.iload_n 2, 1) := by decide +kernel
theorem t_X12_isBest_11 : decode prog_14_method_97_code 11 = .ok (.invokestatic 375, 3) := by decide +kernel
theorem t_X12_isBest_14 : decode prog_14_method_97_code 14 = .ok (.iload_n 0, 1) := by decide +kernel
theorem t_X12_isBest_15 : decode prog_14_method_97_code 15 = .ok (.iload_n 1, 1) := by decide +kernel
theorem t_X12_isBest_16 : decode prog_14_method_97_code 16 = .ok (.iload_n 2, 1) := by decide +kernel
theorem t_X12_isBest_17 : decode prog_14_method_97_code 17 = .ok (.invokestatic 375, 3) := by decide +kernel
theorem t_X12_isBest_20 : decode prog_14_method_97_code 20 = .ok (.if_icmp .le 5, 3) := by decide +kernel
theorem t_X12_isBest_23 : decode prog_14_method_97_code 23 = .ok (.iconst 0, 1) := by decide +kernel
theorem t_X12_isBest_24 : decode prog_14_method_97_code 24 = .ok (.ireturn, 1) := by decide +kernel
theorem t_X12_isBest_25 : decode prog_14_method_97_code 25 = .ok (.iinc 3 1, 3) := by decide +kernel
theorem t_X12_isBest_28 : decode prog_14_method_97_code 28 = .ok (.goto (-26), 3) := by decide +kernel
theorem t_X12_isBest_31 : decode prog_14_method_97_code 31 = .ok (.iconst 1, 1) := by decide +kernel
theorem t_X12_isBest_32 : decode prog_14_method_97_code 32 = .ok (.ireturn, 1) := by decide +kernel
def y_X12_bids : MethodName := ⟨"SowingBoardsModel", "bids", "(I)I"⟩
theorem t_X12_bids_0 : decode prog_14_method_98_code 0 = .ok (.aload_n 0, 1) := by decide +kernel
theorem t_X12_bids_1 : decode prog_14_method_98_code 1 = .ok (.iconst 0, 1) := by decide +kernel
theorem t_X12_bids_2 : decode prog_14_method_98_code 2 = .ok (.putfield 109, 3) := by decide +kernel
theorem t_X12_bids_5 : decode prog_14_method_98_code 5 = .ok (.iload_n 1, 1) := by decide +kernel
theorem t_X12_bids_6 : decode prog_14_method_98_code 6 = .ok (.iconst 0, 1) := by decide +kernel
theorem t_X12_bids_7 : decode prog_14_method_98_code 7 = .ok (.bipush 20, 2) := by decide +kernel
theorem t_X12_bids_9 : decode prog_14_method_98_code 9 = .ok (.invokestatic 118, 3) := by decide +kernel
theorem t_X12_bids_12 : decode prog_14_method_98_code 12 = .ok (.ifCond .ne 5, 3) := by decide +kernel
theorem t_X12_bids_15 : decode prog_14_method_98_code 15 = .ok (.iconst (-1), 1) := by decide +kernel
theorem t_X12_bids_16 : decode prog_14_method_98_code 16 = .ok (.ireturn, 1) := by decide +kernel
theorem t_X12_bids_17 : decode prog_14_method_98_code 17 = .ok (.iconst 0, 1) := by decide +kernel
theorem t_X12_bids_18 : decode prog_14_method_98_code 18 = .ok (.istore_n 2, 1) := by decide +kernel
theorem t_X12_bids_19 : decode prog_14_method_98_code 19 = .ok (.aload_n 0, 1) := by decide +kernel
theorem t_X12_bids_20 : decode prog_14_method_98_code 20 = .ok (.iconst 0, 1) := by decide +kernel
theorem t_X12_bids_21 : decode prog_14_method_98_code 21 = .ok (.putfield 112, 3) := by decide +kernel
theorem t_X12_bids_24 : decode prog_14_method_98_code 24 = .ok (.iconst 0, 1) := by decide +kernel
theorem t_X12_bids_25 : decode prog_14_method_98_code 25 = .ok (.istore_n 3, 1) := by decide +kernel
theorem t_X12_bids_26 : decode prog_14_method_98_code 26 = .ok (.iload_n 3, 1) := by decide +kernel
theorem t_X12_bids_27 : decode prog_14_method_98_code 27 = .ok (.bipush 9, 2) := by decide +kernel
theorem t_X12_bids_29 : decode prog_14_method_98_code 29 = .ok (.if_icmp .gt 68, 3) := by decide +kernel
theorem t_X12_bids_32 : decode prog_14_method_98_code 32 = .ok (.iconst 0, 1) := by decide +kernel
theorem t_X12_bids_33 : decode prog_14_method_98_code 33 = .ok (.istore 4, 2) := by decide +kernel
theorem t_X12_bids_35 : decode prog_14_method_98_code 35 = .ok (.iload 4, 2) := by decide +kernel
theorem t_X12_bids_37 : decode prog_14_method_98_code 37 = .ok (.bipush 9, 2) := by decide +kernel
theorem t_X12_bids_39 : decode prog_14_method_98_code 39 = .ok (.if_icmp .gt 52, 3) := by decide +kernel
theorem t_X12_bids_42 : decode prog_14_method_98_code 42 = .ok (.iload_n 3, 1) := by decide +kernel
theorem t_X12_bids_43 : decode prog_14_method_98_code 43 = .ok (.iload 4, 2) := by decide +kernel
theorem t_X12_bids_45 : decode prog_14_method_98_code 45 = .ok (.iload_n 1, 1) := by decide +kernel
theorem t_X12_bids_46 : decode prog_14_method_98_code 46 = .ok (.invokestatic 379, 3) := by decide +kernel
theorem t_X12_bids_49 : decode prog_14_method_98_code 49 = .ok (.ifCond .eq 36, 3) := by decide +kernel
theorem t_X12_bids_52 : decode prog_14_method_98_code 52 = .ok (.iload 4, 2) := by decide +kernel
theorem t_X12_bids_54 : decode prog_14_method_98_code 54 = .ok (.iload_n 3, 1) := by decide +kernel
theorem t_X12_bids_55 : decode prog_14_method_98_code 55 = .ok (.iload_n 1, 1) := by decide +kernel
theorem t_X12_bids_56 : decode prog_14_method_98_code 56 = .ok (.invokestatic 379, 3) := by decide +kernel
theorem t_X12_bids_59 : decode prog_14_method_98_code 59 = .ok (.ifCond .ne 6, 3) := by decide +kernel
theorem t_X12_bids_62 : decode prog_14_method_98_code 62 = .ok (.goto 23, 3) := by decide +kernel
theorem t_X12_bids_65 : decode prog_14_method_98_code 65 = .ok (.iload_n 2, 1) := by decide +kernel
theorem t_X12_bids_66 : decode prog_14_method_98_code 66 = .ok (.ifCond .ne 16, 3) := by decide +kernel
theorem t_X12_bids_69 : decode prog_14_method_98_code 69 = .ok (.aload_n 0, 1) := by decide +kernel
theorem t_X12_bids_70 : decode prog_14_method_98_code 70 = .ok (.iload_n 3, 1) := by decide +kernel
theorem t_X12_bids_71 : decode prog_14_method_98_code 71 = .ok (.i2l, 1) := by decide +kernel
theorem t_X12_bids_72 : decode prog_14_method_98_code 72 = .ok (.invokevirtual 260, 3) := by decide +kernel
theorem t_X12_bids_75 : decode prog_14_method_98_code 75 = .ok (.aload_n 0, 1) := by decide +kernel
theorem t_X12_bids_76 : decode prog_14_method_98_code 76 = .ok (.iload 4, 2) := by decide +kernel
theorem t_X12_bids_78 : decode prog_14_method_98_code 78 = .ok (.i2l, 1) := by decide +kernel
theorem t_X12_bids_79 : decode prog_14_method_98_code 79 = .ok (.invokevirtual 260, 3) := by decide +kernel
theorem t_X12_bids_82 : decode prog_14_method_98_code 82 = .ok (.iinc 2 1, 3) := by decide +kernel
theorem t_X12_bids_85 : decode prog_14_method_98_code 85 = .ok (.iinc 4 1, 3) := by decide +kernel
theorem t_X12_bids_88 : decode prog_14_method_98_code 88 = .ok (.goto (-53), 3) := by decide +kernel
theorem t_X12_bids_91 : decode prog_14_method_98_code 91 = .ok (.iinc 3 1, 3) := by decide +kernel
theorem t_X12_bids_94 : decode prog_14_method_98_code 94 = .ok (.goto (-68), 3) := by decide +kernel
theorem t_X12_bids_97 : decode prog_14_method_98_code 97 = .ok (.iload_n 2, 1) := by decide +kernel
theorem t_X12_bids_98 : decode prog_14_method_98_code 98 = .ok (.ireturn, 1) := by decide +kernel
def y_X12_changeRules : MethodName := ⟨"SowingBoardsModel", "changeRules", "()V"⟩
theorem t_X12_changeRules_0 : decode prog_14_method_99_code 0 = .ok (.aload_n 0, 1) := by decide +kernel
theorem t_X12_changeRules_1 : decode prog_14_method_99_code 1 = .ok (.getfield 31, 3) := by decide +kernel
theorem t_X12_changeRules_4 : decode prog_14_method_99_code 4 = .ok (.astore_n 1, 1) := by decide +kernel
theorem t_X12_changeRules_5 : decode prog_14_method_99_code 5 = .ok (.aload_n 0, 1) := by decide +kernel
theorem t_X12_changeRules_6 : decode prog_14_method_99_code 6 = .ok (.aload_n 0, 1) := by decide +kernel
theorem t_X12_changeRules_7 : decode prog_14_method_99_code 7 = .ok (.getfield 34, 3) := by decide +kernel
theorem t_X12_changeRules_10 : decode prog_14_method_99_code 10 = .ok (.putfield 31, 3) := by decide +kernel
theorem t_X12_changeRules_13 : decode prog_14_method_99_code 13 = .ok (.aload_n 0, 1) := by decide +kernel
theorem t_X12_changeRules_14 : decode prog_14_method_99_code 14 = .ok (.aload_n 1, 1) := by decide +kernel
theorem t_X12_changeRules_15 : decode prog_14_method_99_code 15 = .ok (.putfield 34, 3) := by decide +kernel
theorem t_X12_changeRules_18 : decode prog_14_method_99_code 18 = .ok (.aload_n 0, 1) := by decide +kernel
theorem t_X12_changeRules_19 : decode prog_14_method_99_code 19 = .ok (.getfield 211, 3) := by decide +kernel
theorem t_X12_changeRules_22 : decode prog_14_method_99_code 22 = .ok (.istore_n 2, 1) := by decide +kernel
theorem t_X12_changeRules_23 : decode prog_14_method_99_code 23 = .ok (.aload_n 0, 1) := by decide +kernel
theorem t_X12_changeRules_24 : decode prog_14_method_99_code 24 = .ok (.aload_n 0, 1) := by decide +kernel
theorem t_X12_changeRules_25 : decode prog_14_method_99_code 25 = .ok (.getfield 382, 3) := by decide +kernel
theorem t_X12_changeRules_28 : decode prog_14_method_99_code 28 = .ok (.putfield 211, 3) := by decide +kernel
theorem t_X12_changeRules_31 : decode prog_14_method_99_code 31 = .ok (.aload_n 0, 1) := by decide +kernel
theorem t_X12_changeRules_32 : decode prog_14_method_99_code 32 = .ok (.iload_n 2, 1) := by decide +kernel
theorem t_X12_changeRules_33 : decode prog_14_method_99_code 33 = .ok (.putfield 382, 3) := by decide +kernel
theorem t_X12_changeRules_36 : decode prog_14_method_99_code 36 = .ok (.return_, 1) := by decide +kernel
def y_X12_more : MethodName := ⟨"SowingBoardsModel", "more", "(Z)I"⟩
theorem t_X12_more_0 : decode prog_14_method_100_code 0 = .ok (.aload_n 0, 1) := by decide +kernel
theorem t_X12_more_1 : decode prog_14_method_100_code 1 = .ok (.getfield 9, 3) := by decide +kernel
theorem t_X12_more_4 : decode prog_14_method_100_code 4 = .ok (.aload_n 0, 1) := by decide +kernel
theorem t_X12_more_5 : decode prog_14_method_100_code 5 = .ok (.getfield 46, 3) := by decide +kernel
theorem t_X12_more_8 : decode prog_14_method_100_code 8 = .ok (.iconst 0, 1) := by decide +kernel
theorem t_X12_more_9 : decode prog_14_method_100_code 9 = .ok (.invokestatic 256, 3) := by decide +kernel
theorem t_X12_more_12 : decode prog_14_method_100_code 12 = .ok (.iconst 0, 1) := by decide +kernel
theorem t_X12_more_13 : decode prog_14_method_100_code 13 = .ok (.istore_n 2, 1) := by decide +kernel
theorem t_X12_more_14 : decode prog_14_method_100_code 14 = .ok (.iload_n 2, 1) := by decide +kernel
theorem t_X12_more_15 : decode prog_14_method_100_code 15 = .ok (.bipush 20, 2) := by decide +kernel
theorem t_X12_more_17 : decode prog_14_method_100_code 17 = .ok (.if_icmp .ge 65, 3) := by decide +kernel
theorem t_X12_more_20 : decode prog_14_method_100_code 20 = .ok (.aload_n 0, 1) := by decide +kernel
theorem t_X12_more_21 : decode prog_14_method_100_code 21 = .ok (.aload_n 0, 1) := by decide +kernel
theorem t_X12_more_22 : decode prog_14_method_100_code 22 = .ok (.getfield 46, 3) := by decide +kernel
theorem t_X12_more_25 : decode prog_14_method_100_code 25 = .ok (.invokevirtual 282, 3) := by decide +kernel
theorem t_X12_more_28 : decode prog_14_method_100_code 28 = .ok (.ifCond .ne 54, 3) := by decide +kernel
theorem t_X12_more_31 : decode prog_14_method_100_code 31 = .ok (.iload_n 1, 1) := by decide +kernel
theorem t_X12_more_32 : decode prog_14_method_100_code 32 = .ok (.ifCond .eq 17, 3) := by decide +kernel
theorem t_X12_more_35 : decode prog_14_method_100_code 35 = .ok (.aload_n 0, 1) := by decide +kernel
theorem t_X12_more_36 : decode prog_14_method_100_code 36 = .ok (.getfield 46, 3) := by decide +kernel
theorem t_X12_more_39 : decode prog_14_method_100_code 39 = .ok (.bipush 14, 2) := by decide +kernel
theorem t_X12_more_41 : decode prog_14_method_100_code 41 = .ok (.iaload, 1) := by decide +kernel
theorem t_X12_more_42 : decode prog_14_method_100_code 42 = .ok (.ifCond .ne 7, 3) := by decide +kernel
theorem t_X12_more_45 : decode prog_14_method_100_code 45 = .ok (.iconst 1, 1) := by decide +kernel
theorem t_X12_more_46 : decode prog_14_method_100_code 46 = .ok (.goto 4, 3) := by decide +kernel
theorem t_X12_more_49 : decode prog_14_method_100_code 49 = .ok (.iconst 0, 1) := by decide +kernel
theorem t_X12_more_50 : decode prog_14_method_100_code 50 = .ok (.istore_n 3, 1) := by decide +kernel
theorem t_X12_more_51 : decode prog_14_method_100_code 51 = .ok (.iload_n 3, 1) := by decide +kernel
theorem t_X12_more_52 : decode prog_14_method_100_code 52 = .ok (.ifCond .eq 7, 3) := by decide +kernel
theorem t_X12_more_55 : decode prog_14_method_100_code 55 = .ok (.aload_n 0, 1) := by decide +kernel
theorem t_X12_more_56 : decode prog_14_method_100_code 56 = .ok (.invokevirtual 385, 3) := by decide +kernel
theorem t_X12_more_59 : decode prog_14_method_100_code 59 = .ok (.aload_n 0, 1) := by decide +kernel
theorem t_X12_more_60 : decode prog_14_method_100_code 60 = .ok (.aload_n 0, 1) := by decide +kernel
theorem t_X12_more_61 : decode prog_14_method_100_code 61 = .ok (.getfield 46, 3) := by decide +kernel
theorem t_X12_more_64 : decode prog_14_method_100_code 64 = .ok (.invokevirtual 289, 3) := by decide +kernel
theorem t_X12_more_67 : decode prog_14_method_100_code 67 = .ok (.pop, 1) := by decide +kernel
theorem t_X12_more_68 : decode prog_14_method_100_code 68 = .ok (.iload_n 3, 1) := by decide +kernel
theorem t_X12_more_69 : decode prog_14_method_100_code 69 = .ok (.ifCond .eq 7, 3) := by decide +kernel
theorem t_X12_more_72 : decode prog_14_method_100_code 72 = .ok (.aload_n 0, 1) := by decide +kernel
theorem t_X12_more_73 : decode prog_14_method_100_code 73 = .ok (.invokevirtual 385, 3) := by decide +kernel
theorem t_X12_more_76 : decode prog_14_method_100_code 76 = .ok (.iinc 2 1, 3) := by decide +kernel
theorem t_X12_more_79 : decode prog_14_method_100_code 79 = .ok (.goto (-65), 3) := by decide +kernel
theorem t_X12_more_82 : decode prog_14_method_100_code 82 = .ok (.aload_n 0, 1) := by decide +kernel
theorem t_X12_more_83 : decode prog_14_method_100_code 83 = .ok (.getfield 46, 3) := by decide +kernel
theorem t_X12_more_86 : decode prog_14_method_100_code 86 = .ok (.bipush 12, 2) := by decide +kernel
theorem t_X12_more_88 : decode prog_14_method_100_code 88 = .ok (.iaload, 1) := by decide +kernel
theorem t_X12_more_89 : decode prog_14_method_100_code 89 = .ok (.aload_n 0, 1) := by decide +kernel
theorem t_X12_more_90 : decode prog_14_method_100_code 90 = .ok (.getfield 46, 3) := by decide +kernel
theorem t_X12_more_93 : decode prog_14_method_100_code 93 = .ok (.bipush 13, 2) := by decide +kernel
theorem t_X12_more_95 : decode prog_14_method_100_code 95 = .ok (.iaload, 1) := by decide +kernel
theorem t_X12_more_96 : decode prog_14_method_100_code 96 = .ok (.isub, 1) := by decide +kernel
theorem t_X12_more_97 : decode prog_14_method_100_code 97 = .ok (.ireturn, 1) := by decide +kernel
def y_X12_other : MethodName := ⟨"SowingBoardsModel", "other", "()I"⟩
theorem t_X12_other_0 : decode prog_14_method_101_code 0 = .ok (.aload_n 0, 1) := by decide +kernel
theorem t_X12_other_1 : decode prog_14_method_101_code 1 = .ok (.iconst 0, 1) := by decide +kernel
theorem t_X12_other_2 : decode prog_14_method_101_code 2 = .ok (.putfield 109, 3) := by decide +kernel
theorem t_X12_other_5 : decode prog_14_method_101_code 5 = .ok (.aload_n 0, 1) := by decide +kernel
theorem t_X12_other_6 : decode prog_14_method_101_code 6 = .ok (.getfield 115, 3) := by decide +kernel
theorem t_X12_other_9 : decode prog_14_method_101_code 9 = .ok (.istore_n 1, 1) := by decide +kernel
theorem t_X12_other_10 : decode prog_14_method_101_code 10 = .ok (.aload_n 0, 1) := by decide +kernel
theorem t_X12_other_11 : decode prog_14_method_101_code 11 = .ok (.invokevirtual 208, 3) := by decide +kernel
theorem t_X12_other_14 : decode prog_14_method_101_code 14 = .ok (.ifCond .ne 10, 3) := by decide +kernel
theorem t_X12_other_17 : decode prog_14_method_101_code 17 = .ok (.iconst (-1), 1) := by decide +kernel
theorem t_X12_other_18 : decode prog_14_method_101_code 18 = .ok (.aload_n 0, 1) := by decide +kernel
theorem t_X12_other_19 : decode prog_14_method_101_code 19 = .ok (.getfield 134, 3) := by decide +kernel
theorem t_X12_other_22 : decode prog_14_method_101_code 22 = .ok (.isub, 1) := by decide +kernel
theorem t_X12_other_23 : decode prog_14_method_101_code 23 = .ok (.ireturn, 1) := by decide +kernel
theorem t_X12_other_24 : decode prog_14_method_101_code 24 = .ok (.iconst 0, 1) := by decide +kernel
theorem t_X12_other_25 : decode prog_14_method_101_code 25 = .ok (.istore_n 2, 1) := by decide +kernel
theorem t_X12_other_26 : decode prog_14_method_101_code 26 = .ok (.iload_n 2, 1) := by decide +kernel
theorem t_X12_other_27 : decode prog_14_method_101_code 27 = .ok (.iload_n 1, 1) := by decide +kernel
theorem t_X12_other_28 : decode prog_14_method_101_code 28 = .ok (.if_icmp .ge 21, 3) := by decide +kernel
theorem t_X12_other_31 : decode prog_14_method_101_code 31 = .ok (.aload_n 0, 1) := by decide +kernel
theorem t_X12_other_32 : decode prog_14_method_101_code 32 = .ok (.getfield 34, 3) := by decide +kernel
theorem t_X12_other_35 : decode prog_14_method_101_code 35 = .ok (.iload_n 2, 1) := by decide +kernel
theorem t_X12_other_36 : decode prog_14_method_101_code 36 = .ok (.aload_n 0, 1) := by decide +kernel
theorem t_X12_other_37 : decode prog_14_method_101_code 37 = .ok (.getfield 20, 3) := by decide +kernel
theorem t_X12_other_40 : decode prog_14_method_101_code 40 = .ok (.iload_n 2, 1) := by decide +kernel
theorem t_X12_other_41 : decode prog_14_method_101_code 41 = .ok (.baload, 1) := by decide +kernel
theorem t_X12_other_42 : decode prog_14_method_101_code 42 = .ok (.bastore, 1) := by decide +kernel
theorem t_X12_other_43 : decode prog_14_method_101_code 43 = .ok (.iinc 2 1, 3) := by decide +kernel
theorem t_X12_other_46 : decode prog_14_method_101_code 46 = .ok (.goto (-20), 3) := by decide +kernel
theorem t_X12_other_49 : decode prog_14_method_101_code 49 = .ok (.aload_n 0, 1) := by decide +kernel
theorem t_X12_other_50 : decode prog_14_method_101_code 50 = .ok (.iload_n 1, 1) := by decide +kernel
theorem t_X12_other_51 : decode prog_14_method_101_code 51 = .ok (.putfield 382, 3) := by decide +kernel
theorem t_X12_other_54 : decode prog_14_method_101_code 54 = .ok (.aload_n 0, 1) := by decide +kernel
theorem t_X12_other_55 : decode prog_14_method_101_code 55 = .ok (.iconst 1, 1) := by decide +kernel
theorem t_X12_other_56 : decode prog_14_method_101_code 56 = .ok (.invokevirtual 388, 3) := by decide +kernel
theorem t_X12_other_59 : decode prog_14_method_101_code 59 = .ok (.istore_n 2, 1) := by decide +kernel
theorem t_X12_other_60 : decode prog_14_method_101_code 60 = .ok (.aload_n 0, 1) := by decide +kernel
theorem t_X12_other_61 : decode prog_14_method_101_code 61 = .ok (.iconst 0, 1) := by decide +kernel
theorem t_X12_other_62 : decode prog_14_method_101_code 62 = .ok (.invokevirtual 388, 3) := by decide +kernel
theorem t_X12_other_65 : decode prog_14_method_101_code 65 = .ok (.istore_n 3, 1) := by decide +kernel
theorem t_X12_other_66 : decode prog_14_method_101_code 66 = .ok (.aload_n 0, 1) := by decide +kernel
theorem t_X12_other_67 : decode prog_14_method_101_code 67 = .ok (.iconst 0, 1) := by decide +kernel
theorem t_X12_other_68 : decode prog_14_method_101_code 68 = .ok (.putfield 112, 3) := by decide +kernel
theorem t_X12_other_71 : decode prog_14_method_101_code 71 = .ok (.aload_n 0, 1) := by decide +kernel
theorem t_X12_other_72 : decode prog_14_method_101_code 72 = .ok (.sipush 300, 3) := by decide +kernel
theorem t_X12_other_75 : decode prog_14_method_101_code 75 = .ok (.iload_n 2, 1) := by decide +kernel
theorem t_X12_other_76 : decode prog_14_method_101_code 76 = .ok (.iadd, 1) := by decide +kernel
theorem t_X12_other_77 : decode prog_14_method_101_code 77 = .ok (.i2l, 1) := by decide +kernel
theorem t_X12_other_78 : decode prog_14_method_101_code 78 = .ok (.invokevirtual 260, 3) := by decide +kernel
theorem t_X12_other_81 : decode prog_14_method_101_code 81 = .ok (.aload_n 0, 1) := by decide +kernel
theorem t_X12_other_82 : decode prog_14_method_101_code 82 = .ok (.sipush 300, 3) := by decide +kernel
theorem t_X12_other_85 : decode prog_14_method_101_code 85 = .ok (.iload_n 3, 1) := by decide +kernel
theorem t_X12_other_86 : decode prog_14_method_101_code 86 = .ok (.iadd, 1) := by decide +kernel
theorem t_X12_other_87 : decode prog_14_method_101_code 87 = .ok (.i2l, 1) := by decide +kernel
theorem t_X12_other_88 : decode prog_14_method_101_code 88 = .ok (.invokevirtual 260, 3) := by decide +kernel
theorem t_X12_other_91 : decode prog_14_method_101_code 91 = .ok (.sipush 600, 3) := by decide +kernel
theorem t_X12_other_94 : decode prog_14_method_101_code 94 = .ok (.iload_n 2, 1) := by decide +kernel
theorem t_X12_other_95 : decode prog_14_method_101_code 95 = .ok (.iadd, 1) := by decide +kernel
theorem t_X12_other_96 : decode prog_14_method_101_code 96 = .ok (.iload_n 3, 1) := by decide +kernel
theorem t_X12_other_97 : decode prog_14_method_101_code 97 = .ok (.isub, 1) := by decide +kernel
theorem t_X12_other_98 : decode prog_14_method_101_code 98 = .ok (.ireturn, 1) := by decide +kernel
def y_X12_draw : MethodName := ⟨"SowingBoardsModel", "draw", "(I)I"⟩
theorem t_X12_draw_0 : decode prog_14_method_102_code 0 = .ok (.aload_n 0, 1) := by decide +kernel
theorem t_X12_draw_1 : decode prog_14_method_102_code 1 = .ok (.aload_n 0, 1) := by decide +kernel
theorem t_X12_draw_2 : decode prog_14_method_102_code 2 = .ok (.getfield 392, 3) := by decide +kernel
theorem t_X12_draw_5 : decode prog_14_method_102_code 5 = .ok (.ldc_w 395, 3) := by decide +kernel
theorem t_X12_draw_8 : decode prog_14_method_102_code 8 = .ok (.imul, 1) := by decide +kernel
theorem t_X12_draw_9 : decode prog_14_method_102_code 9 = .ok (.sipush 12345, 3) := by decide +kernel
theorem t_X12_draw_12 : decode prog_14_method_102_code 12 = .ok (.iadd, 1) := by decide +kernel
theorem t_X12_draw_13 : decode prog_14_method_102_code 13 = .ok (.putfield 392, 3) := by decide +kernel
theorem t_X12_draw_16 : decode prog_14_method_102_code 16 = .ok (.aload_n 0, 1) := by decide +kernel
theorem t_X12_draw_17 : decode prog_14_method_102_code 17 = .ok (.getfield 392, 3) := by decide +kernel
theorem t_X12_draw_20 : decode prog_14_method_102_code 20 = .ok (.bipush 16, 2) := by decide +kernel
theorem t_X12_draw_22 : decode prog_14_method_102_code 22 = .ok (.iushr, 1) := by decide +kernel
theorem t_X12_draw_23 : decode prog_14_method_102_code 23 = .ok (.iload_n 1, 1) := by decide +kernel
theorem t_X12_draw_24 : decode prog_14_method_102_code 24 = .ok (.irem, 1) := by decide +kernel
theorem t_X12_draw_25 : decode prog_14_method_102_code 25 = .ok (.ireturn, 1) := by decide +kernel
def y_X12_fullPit : MethodName := ⟨"SowingBoardsModel", "fullPit", "([II)I"⟩
theorem t_X12_fullPit_0 : decode prog_14_method_103_code 0 = .ok (.iload_n 2, 1) := by decide +kernel
theorem t_X12_fullPit_1 : decode prog_14_method_103_code 1 = .ok (.istore_n 3, 1) := by decide +kernel
theorem t_X12_fullPit_2 : decode prog_14_method_103_code 2 = .ok (.iconst 0, 1) := by decide +kernel
theorem t_X12_fullPit_3 : decode prog_14_method_103_code 3 = .ok (.istore 4, 2) := by decide +kernel
theorem t_X12_fullPit_5 : decode prog_14_method_103_code 5 = .ok (.aload_n 0, 1) := by decide +kernel
theorem t_X12_fullPit_6 : decode prog_14_method_103_code 6 = .ok (.aload_n 1, 1) := by decide +kernel
theorem t_X12_fullPit_7 : decode prog_14_method_103_code 7 = .ok (.iload 4, 2) := by decide +kernel
theorem t_X12_fullPit_9 : decode prog_14_method_103_code 9 = .ok (.invokevirtual 264, 3) := by decide +kernel
theorem t_X12_fullPit_12 : decode prog_14_method_103_code 12 = .ok (.ifCond .lt 7, 3) := by decide +kernel
theorem t_X12_fullPit_15 : decode prog_14_method_103_code 15 = .ok (.iload_n 3, 1) := by decide +kernel
theorem t_X12_fullPit_16 : decode prog_14_method_103_code 16 = .ok (.ifCond .le 27, 3) := by decide +kernel
theorem t_X12_fullPit_19 : decode prog_14_method_103_code 19 = .ok (.iload_n 3, 1) := by decide +kernel
theorem t_X12_fullPit_20 : decode prog_14_method_103_code 20 = .ok (.aload_n 0, 1) := by decide +kernel
theorem t_X12_fullPit_21 : decode prog_14_method_103_code 21 = .ok (.aload_n 1, 1) := by decide +kernel
theorem t_X12_fullPit_22 : decode prog_14_method_103_code 22 = .ok (.iload 4, 2) := by decide +kernel
theorem t_X12_fullPit_24 : decode prog_14_method_103_code 24 = .ok (.invokevirtual 264, 3) := by decide +kernel
theorem t_X12_fullPit_27 : decode prog_14_method_103_code 27 = .ok (.ifCond .ne 7, 3) := by decide +kernel
theorem t_X12_fullPit_30 : decode prog_14_method_103_code 30 = .ok (.iconst 1, 1) := by decide +kernel
theorem t_X12_fullPit_31 : decode prog_14_method_103_code 31 = .ok (.goto 4, 3) := by decide +kernel
theorem t_X12_fullPit_34 : decode prog_14_method_103_code 34 = .ok (.iconst 0, 1) := by decide +kernel
theorem t_X12_fullPit_35 : decode prog_14_method_103_code 35 = .ok (.isub, 1) := by decide +kernel
theorem t_X12_fullPit_36 : decode prog_14_method_103_code 36 = .ok (.istore_n 3, 1) := by decide +kernel
theorem t_X12_fullPit_37 : decode prog_14_method_103_code 37 = .ok (.iinc 4 1, 3) := by decide +kernel
theorem t_X12_fullPit_40 : decode prog_14_method_103_code 40 = .ok (.goto (-35), 3) := by decide +kernel
theorem t_X12_fullPit_43 : decode prog_14_method_103_code 43 = .ok (.iload 4, 2) := by decide +kernel
theorem t_X12_fullPit_45 : decode prog_14_method_103_code 45 = .ok (.ireturn, 1) := by decide +kernel
def y_X12_years : MethodName := ⟨"SowingBoardsModel", "years", "(II)I"⟩
theorem t_X12_years_0 : decode prog_14_method_104_code 0 = .ok (.aload_n 0, 1) := by decide +kernel
theorem t_X12_years_1 : decode prog_14_method_104_code 1 = .ok (.iconst 0, 1) := by decide +kernel
theorem t_X12_years_2 : decode prog_14_method_104_code 2 = .ok (.putfield 109, 3) := by decide +kernel
theorem t_X12_years_5 : decode prog_14_method_104_code 5 = .ok (.iload_n 2, 1) := by decide +kernel
theorem t_X12_years_6 : decode prog_14_method_104_code 6 = .ok (.iconst 1, 1) := by decide +kernel
theorem t_X12_years_7 : decode prog_14_method_104_code 7 = .ok (.bipush 60, 2) := by decide +kernel
theorem t_X12_years_9 : decode prog_14_method_104_code 9 = .ok (.invokestatic 118, 3) := by decide +kernel
theorem t_X12_years_12 : decode prog_14_method_104_code 12 = .ok (.ifCond .ne 5, 3) := by decide +kernel
theorem t_X12_years_15 : decode prog_14_method_104_code 15 = .ok (.iconst (-1), 1) := by decide +kernel
theorem t_X12_years_16 : decode prog_14_method_104_code 16 = .ok (.ireturn, 1) := by decide +kernel
theorem t_X12_years_17 : decode prog_14_method_104_code 17 = .ok (.aload_n 0, 1) := by decide +kernel
theorem t_X12_years_18 : decode prog_14_method_104_code 18 = .ok (.iload_n 1, 1) := by decide +kernel
theorem t_X12_years_19 : decode prog_14_method_104_code 19 = .ok (.putfield 392, 3) := by decide +kernel
theorem t_X12_years_22 : decode prog_14_method_104_code 22 = .ok (.aload_n 0, 1) := by decide +kernel
theorem t_X12_years_23 : decode prog_14_method_104_code 23 = .ok (.getfield 9, 3) := by decide +kernel
theorem t_X12_years_26 : decode prog_14_method_104_code 26 = .ok (.aload_n 0, 1) := by decide +kernel
theorem t_X12_years_27 : decode prog_14_method_104_code 27 = .ok (.getfield 46, 3) := by decide +kernel
theorem t_X12_years_30 : decode prog_14_method_104_code 30 = .ok (.iconst 0, 1) := by decide +kernel
theorem t_X12_years_31 : decode prog_14_method_104_code 31 = .ok (.invokestatic 256, 3) := by decide +kernel
theorem t_X12_years_34 : decode prog_14_method_104_code 34 = .ok (.iconst 0, 1) := by decide +kernel
theorem t_X12_years_35 : decode prog_14_method_104_code 35 = .ok (.istore_n 3, 1) := by decide +kernel
theorem t_X12_years_36 : decode prog_14_method_104_code 36 = .ok (.iconst 0, 1) := by decide +kernel
theorem t_X12_years_37 : decode prog_14_method_104_code 37 = .ok (.istore 4, 2) := by decide +kernel
theorem t_X12_years_39 : decode prog_14_method_104_code 39 = .ok (.iload 4, 2) := by decide +kernel
theorem t_X12_years_41 : decode prog_14_method_104_code 41 = .ok (.iload_n 2, 1) := by decide +kernel
theorem t_X12_years_42 : decode prog_14_method_104_code 42 = .ok (.if_icmp .ge 117, 3) := by decide +kernel
theorem t_X12_years_45 : decode prog_14_method_104_code 45 = .ok (.aload_n 0, 1) := by decide +kernel
theorem t_X12_years_46 : decode prog_14_method_104_code 46 = .ok (.iconst 3, 1) := by decide +kernel
theorem t_X12_years_47 : decode prog_14_method_104_code 47 = .ok (.invokevirtual 396, 3) := by decide +kernel
theorem t_X12_years_50 : decode prog_14_method_104_code 50 = .ok (.istore 5, 2) := by decide +kernel
theorem t_X12_years_52 : decode prog_14_method_104_code 52 = .ok (.aload_n 0, 1) := by decide +kernel
theorem t_X12_years_53 : decode prog_14_method_104_code 53 = .ok (.aload_n 0, 1) := by decide +kernel
theorem t_X12_years_54 : decode prog_14_method_104_code 54 = .ok (.getfield 46, 3) := by decide +kernel
theorem t_X12_years_57 : decode prog_14_method_104_code 57 = .ok (.invokevirtual 282, 3) := by decide +kernel
theorem t_X12_years_60 : decode prog_14_method_104_code 60 = .ok (.ifCond .eq 6, 3) := by decide +kernel
theorem t_X12_years_63 : decode prog_14_method_104_code 63 = .ok (.goto 90, 3) := by decide +kernel
theorem t_X12_years_66 : decode prog_14_method_104_code 66 = .ok (.iconst 0, 1) := by decide +kernel
theorem t_X12_years_67 : decode prog_14_method_104_code 67 = .ok (.istore 6, 2) := by decide +kernel
theorem t_X12_years_69 : decode prog_14_method_104_code 69 = .ok (.iconst 0, 1) := by decide +kernel
theorem t_X12_years_70 : decode prog_14_method_104_code 70 = .ok (.istore 7, 2) := by decide +kernel
theorem t_X12_years_72 : decode prog_14_method_104_code 72 = .ok (.iload 7, 2) := by decide +kernel
theorem t_X12_years_74 : decode prog_14_method_104_code 74 = .ok (.aload_n 0, 1) := by decide +kernel
theorem t_X12_years_75 : decode prog_14_method_104_code 75 = .ok (.getfield 13, 3) := by decide +kernel
theorem t_X12_years_78 : decode prog_14_method_104_code 78 = .ok (.if_icmp .ge 32, 3) := by decide +kernel
theorem t_X12_years_81 : decode prog_14_method_104_code 81 = .ok (.iload 6, 2) := by decide +kernel
theorem t_X12_years_83 : decode prog_14_method_104_code 83 = .ok (.aload_n 0, 1) := by decide +kernel
theorem t_X12_years_84 : decode prog_14_method_104_code 84 = .ok (.aload_n 0, 1) := by decide +kernel
theorem t_X12_years_85 : decode prog_14_method_104_code 85 = .ok (.getfield 46, 3) := by decide +kernel
theorem t_X12_years_88 : decode prog_14_method_104_code 88 = .ok (.iload 7, 2) := by decide +kernel
theorem t_X12_years_90 : decode prog_14_method_104_code 90 = .ok (.invokevirtual 264, 3) := by decide +kernel
theorem t_X12_years_93 : decode prog_14_method_104_code 93 = .ok (.ifCond .ne 7, 3) := by decide +kernel
theorem t_X12_years_96 : decode prog_14_method_104_code 96 = .ok (.iconst 1, 1) := by decide +kernel
theorem t_X12_years_97 : decode prog_14_method_104_code 97 = .ok (.goto 4, 3) := by decide +kernel
theorem t_X12_years_100 : decode prog_14_method_104_code 100 = .ok (.iconst 0, 1) := by decide +kernel
theorem t_X12_years_101 : decode prog_14_method_104_code 101 = .ok (.iadd, 1) := by decide +kernel
theorem t_X12_years_102 : decode prog_14_method_104_code 102 = .ok (.istore 6, 2) := by decide +kernel
theorem t_X12_years_104 : decode prog_14_method_104_code 104 = .ok (.iinc 7 1, 3) := by decide +kernel
theorem t_X12_years_107 : decode prog_14_method_104_code 107 = .ok (.goto (-35), 3) := by decide +kernel
theorem t_X12_years_110 : decode prog_14_method_104_code 110 = .ok (.iload 5, 2) := by decide +kernel
theorem t_X12_years_112 : decode prog_14_method_104_code 112 = .ok (.iconst 2, 1) := by decide +kernel
theorem t_X12_years_113 : decode prog_14_method_104_code 113 = .ok (.if_icmp .ne 15, 3) := by decide +kernel
theorem t_X12_years_116 : decode prog_14_method_104_code 116 = .ok (.aload_n 0, 1) := by decide +kernel
theorem t_X12_years_117 : decode prog_14_method_104_code 117 = .ok (.aload_n 0, 1) := by decide +kernel
theorem t_X12_years_118 : decode prog_14_method_104_code 118 = .ok (.getfield 46, 3) := by decide +kernel
theorem t_X12_years_121 : decode prog_14_method_104_code 121 = .ok (.invokevirtual 289, 3) := by decide +kernel
theorem t_X12_years_124 : decode prog_14_method_104_code 124 = .ok (.pop, 1) := by decide +kernel
theorem t_X12_years_125 : decode prog_14_method_104_code 125 = .ok (.goto 25, 3) := by decide +kernel
theorem t_X12_years_128 : decode prog_14_method_104_code 128 = .ok (.aload_n 0, 1) := by decide +kernel
theorem t_X12_years_129 : decode prog_14_method_104_code 129 = .ok (.aload_n 0, 1) := by decide +kernel
theorem t_X12_years_130 : decode prog_14_method_104_code 130 = .ok (.getfield 46, 3) := by decide +kernel
theorem t_X12_years_133 : decode prog_14_method_104_code 133 = .ok (.aload_n 0, 1) := by decide +kernel
theorem t_X12_years_134 : decode prog_14_method_104_code 134 = .ok (.aload_n 0, 1) := by decide +kernel
theorem t_X12_years_135 : decode prog_14_method_104_code 135 = .ok (.getfield 46, 3) := by decide +kernel
theorem t_X12_years_138 : decode prog_14_method_104_code 138 = .ok (.aload_n 0, 1) := by decide +kernel
theorem t_X12_years_139 : decode prog_14_method_104_code 139 = .ok (.iload 6, 2) := by decide +kernel
theorem t_X12_years_141 : decode prog_14_method_104_code 141 = .ok (.invokevirtual 396, 3) := by decide +kernel
theorem t_X12_years_144 : decode prog_14_method_104_code 144 = .ok (.invokevirtual 399, 3) := by decide +kernel
theorem t_X12_years_147 : decode prog_14_method_104_code 147 = .ok (.invokevirtual 272, 3) := by decide +kernel
theorem t_X12_years_150 : decode prog_14_method_104_code 150 = .ok (.iinc 3 1, 3) := by decide +kernel
theorem t_X12_years_153 : decode prog_14_method_104_code 153 = .ok (.iinc 4 1, 3) := by decide +kernel
theorem t_X12_years_156 : decode prog_14_method_104_code 156 = .ok (.goto (-117), 3) := by decide +kernel
theorem t_X12_years_159 : decode prog_14_method_104_code 159 = .ok (.aload_n 0, 1) := by decide +kernel
theorem t_X12_years_160 : decode prog_14_method_104_code 160 = .ok (.iconst 0, 1) := by decide +kernel
theorem t_X12_years_161 : decode prog_14_method_104_code 161 = .ok (.putfield 112, 3) := by decide +kernel
theorem t_X12_years_164 : decode prog_14_method_104_code 164 = .ok (.aload_n 0, 1) := by decide +kernel
theorem t_X12_years_165 : decode prog_14_method_104_code 165 = .ok (.iload_n 3, 1) := by decide +kernel
theorem t_X12_years_166 : decode prog_14_method_104_code 166 = .ok (.i2l, 1) := by decide +kernel
theorem t_X12_years_167 : decode prog_14_method_104_code 167 = .ok (.invokevirtual 260, 3) := by decide +kernel
theorem t_X12_years_170 : decode prog_14_method_104_code 170 = .ok (.aload_n 0, 1) := by decide +kernel
theorem t_X12_years_171 : decode prog_14_method_104_code 171 = .ok (.aload_n 0, 1) := by decide +kernel
theorem t_X12_years_172 : decode prog_14_method_104_code 172 = .ok (.getfield 46, 3) := by decide +kernel
theorem t_X12_years_175 : decode prog_14_method_104_code 175 = .ok (.bipush 14, 2) := by decide +kernel
theorem t_X12_years_177 : decode prog_14_method_104_code 177 = .ok (.iaload, 1) := by decide +kernel
theorem t_X12_years_178 : decode prog_14_method_104_code 178 = .ok (.i2l, 1) := by decide +kernel
theorem t_X12_years_179 : decode prog_14_method_104_code 179 = .ok (.invokevirtual 260, 3) := by decide +kernel
theorem t_X12_years_182 : decode prog_14_method_104_code 182 = .ok (.sipush 300, 3) := by decide +kernel
theorem t_X12_years_185 : decode prog_14_method_104_code 185 = .ok (.aload_n 0, 1) := by decide +kernel
theorem t_X12_years_186 : decode prog_14_method_104_code 186 = .ok (.getfield 46, 3) := by decide +kernel
theorem t_X12_years_189 : decode prog_14_method_104_code 189 = .ok (.bipush 12, 2) := by decide +kernel
theorem t_X12_years_191 : decode prog_14_method_104_code 191 = .ok (.iaload, 1) := by decide +kernel
theorem t_X12_years_192 : decode prog_14_method_104_code 192 = .ok (.iadd, 1) := by decide +kernel
theorem t_X12_years_193 : decode prog_14_method_104_code 193 = .ok (.aload_n 0, 1) := by decide +kernel
theorem t_X12_years_194 : decode prog_14_method_104_code 194 = .ok (.getfield 46, 3) := by decide +kernel
theorem t_X12_years_197 : decode prog_14_method_104_code 197 = .ok (.bipush 13, 2) := by decide +kernel
theorem t_X12_years_199 : decode prog_14_method_104_code 199 = .ok (.iaload, 1) := by decide +kernel
theorem t_X12_years_200 : decode prog_14_method_104_code 200 = .ok (.isub, 1) := by decide +kernel
theorem t_X12_years_201 : decode prog_14_method_104_code 201 = .ok (.ireturn, 1) := by decide +kernel
theorem fl_12_34 : FLk "SowingBoardsModel" 34 12 15 := ⟨_, rfl, by decide, Or.inl (vtb_at 1353 (by decide +kernel) rfl)⟩
theorem fl_12_87 : FLk "SowingBoardsModel" 87 12 44 := ⟨_, rfl, by decide, Or.inl (vtb_at 1382 (by decide +kernel) rfl)⟩
theorem fl_12_90 : FLk "SowingBoardsModel" 90 12 45 := ⟨_, rfl, by decide, Or.inl (vtb_at 1383 (by decide +kernel) rfl)⟩
theorem fl_12_93 : FLk "SowingBoardsModel" 93 12 47 := ⟨_, rfl, by decide, Or.inl (vtb_at 1385 (by decide +kernel) rfl)⟩
theorem fl_12_97 : FLk "SowingBoardsModel" 97 12 48 := ⟨_, rfl, by decide, Or.inl (vtb_at 1386 (by decide +kernel) rfl)⟩
theorem fl_12_366 : FLk "SowingBoardsModel" 366 12 46 := ⟨_, rfl, by decide, Or.inl (vtb_at 1384 (by decide +kernel) rfl)⟩
theorem fl_12_382 : FLk "SowingBoardsModel" 382 12 49 := ⟨_, rfl, by decide, Or.inl (vtb_at 1387 (by decide +kernel) rfl)⟩
theorem fl_12_392 : FLk "SowingBoardsModel" 392 12 50 := ⟨_, rfl, by decide, Or.inl (vtb_at 1388 (by decide +kernel) rfl)⟩
theorem fp_12_46 : FPk 12 46 "I" := ⟨_, rfl, rfl, rfl⟩
theorem fp_12_49 : FPk 12 49 "I" := ⟨_, rfl, rfl, rfl⟩
theorem fp_12_50 : FPk 12 50 "I" := ⟨_, rfl, rfl, rfl⟩
theorem cc_12_395 : Cond.constant "SowingBoardsModel" 395 1103515245 ∈ vtb := vtb_at 1908 (by decide +kernel) rfl
theorem my_X12_isSo : MY y_X12_isSo prog_14_method_86_code 4 (some .boolean) 3 := ⟨vtb_at 1846 (by decide +kernel) rfl, vtb_at 152 (by decide +kernel) rfl, ⟨by decide, by decide, by decide +kernel⟩, by decide⟩
theorem mi_X12_isSo : MI y_X12_isSo := ⟨vtb_at 1845 (by decide +kernel) rfl, vtb_at 131 (by decide +kernel) rfl⟩
theorem my_X12_fitting : MY y_X12_fitting prog_14_method_87_code 5 (some .int) 0 := ⟨vtb_at 1842 (by decide +kernel) rfl, vtb_at 152 (by decide +kernel) rfl, ⟨by decide, by decide, by decide +kernel⟩, by decide⟩
theorem mi_X12_fitting : MI y_X12_fitting := ⟨vtb_at 1841 (by decide +kernel) rfl, vtb_at 130 (by decide +kernel) rfl⟩
theorem my_X12_has : MY y_X12_has prog_14_method_4_code 2 (some .boolean) 2 := ⟨vtb_at 1853 (by decide +kernel) rfl, vtb_at 152 (by decide +kernel) rfl, ⟨by decide, by decide, by decide +kernel⟩, by decide⟩
theorem ms_X12_has : Cond.static y_X12_has ∈ vtb := vtb_at 1852 (by decide +kernel) rfl
theorem my_X12_fallsBy : MY y_X12_fallsBy prog_14_method_92_code 4 (some .int) 2 := ⟨vtb_at 1873 (by decide +kernel) rfl, vtb_at 152 (by decide +kernel) rfl, ⟨by decide, by decide, by decide +kernel⟩, by decide⟩
theorem mi_X12_fallsBy : MI y_X12_fallsBy := ⟨vtb_at 1872 (by decide +kernel) rfl, vtb_at 133 (by decide +kernel) rfl⟩
theorem my_X12_layLaws : MY y_X12_layLaws prog_14_method_93_code 4 (some .int) 0 := ⟨vtb_at 1869 (by decide +kernel) rfl, vtb_at 152 (by decide +kernel) rfl, ⟨by decide, by decide, by decide +kernel⟩, by decide⟩
theorem mi_X12_layLaws : MI y_X12_layLaws := ⟨vtb_at 1868 (by decide +kernel) rfl, vtb_at 132 (by decide +kernel) rfl⟩
theorem my_X12_gets : MY y_X12_gets prog_14_method_96_code 3 (some .int) 3 := ⟨vtb_at 1887 (by decide +kernel) rfl, vtb_at 152 (by decide +kernel) rfl, ⟨by decide, by decide, by decide +kernel⟩, by decide⟩
theorem ms_X12_gets : Cond.static y_X12_gets ∈ vtb := vtb_at 1886 (by decide +kernel) rfl
theorem my_X12_isBest : MY y_X12_isBest prog_14_method_97_code 4 (some .boolean) 3 := ⟨vtb_at 1884 (by decide +kernel) rfl, vtb_at 152 (by decide +kernel) rfl, ⟨by decide, by decide, by decide +kernel⟩, by decide⟩
theorem ms_X12_isBest : Cond.static y_X12_isBest ∈ vtb := vtb_at 1883 (by decide +kernel) rfl
theorem my_X12_changeRules : MY y_X12_changeRules prog_14_method_99_code 3 none 0 := ⟨vtb_at 1899 (by decide +kernel) rfl, vtb_at 152 (by decide +kernel) rfl, ⟨by decide, by decide, by decide +kernel⟩, by decide⟩
theorem mi_X12_changeRules : MI y_X12_changeRules := ⟨vtb_at 1898 (by decide +kernel) rfl, vtb_at 135 (by decide +kernel) rfl⟩
theorem my_X12_more : MY y_X12_more prog_14_method_100_code 4 (some .int) 1 := ⟨vtb_at 1895 (by decide +kernel) rfl, vtb_at 152 (by decide +kernel) rfl, ⟨by decide, by decide, by decide +kernel⟩, by decide⟩
theorem mi_X12_more : MI y_X12_more := ⟨vtb_at 1894 (by decide +kernel) rfl, vtb_at 134 (by decide +kernel) rfl⟩
theorem my_X12_draw : MY y_X12_draw prog_14_method_102_code 2 (some .int) 1 := ⟨vtb_at 1907 (by decide +kernel) rfl, vtb_at 152 (by decide +kernel) rfl, ⟨by decide, by decide, by decide +kernel⟩, by decide⟩
theorem mi_X12_draw : MI y_X12_draw := ⟨vtb_at 1906 (by decide +kernel) rfl, vtb_at 136 (by decide +kernel) rfl⟩
theorem my_X12_fullPit : MY y_X12_fullPit prog_14_method_103_code 5 (some .int) 2 := ⟨vtb_at 1912 (by decide +kernel) rfl, vtb_at 152 (by decide +kernel) rfl, ⟨by decide, by decide, by decide +kernel⟩, by decide⟩
theorem mi_X12_fullPit : MI y_X12_fullPit := ⟨vtb_at 1911 (by decide +kernel) rfl, vtb_at 137 (by decide +kernel) rfl⟩
theorem ml_12_357 : ML "SowingBoardsModel" 357 y_X12_isSo := Or.inl (vtb_at 1843 (by decide +kernel) rfl)
theorem ml_12_360 : ML "SowingBoardsModel" 360 y_X12_fitting := Or.inl (vtb_at 1839 (by decide +kernel) rfl)
theorem ml_12_363 : ML "SowingBoardsModel" 363 y_X12_has := Or.inl (vtb_at 1851 (by decide +kernel) rfl)
theorem ml_12_369 : ML "SowingBoardsModel" 369 y_X12_fallsBy := Or.inl (vtb_at 1870 (by decide +kernel) rfl)
theorem ml_12_372 : ML "SowingBoardsModel" 372 y_X12_layLaws := Or.inl (vtb_at 1866 (by decide +kernel) rfl)
theorem ml_12_375 : ML "SowingBoardsModel" 375 y_X12_gets := Or.inl (vtb_at 1885 (by decide +kernel) rfl)
theorem ml_12_379 : ML "SowingBoardsModel" 379 y_X12_isBest := Or.inl (vtb_at 1882 (by decide +kernel) rfl)
theorem ml_12_385 : ML "SowingBoardsModel" 385 y_X12_changeRules := Or.inl (vtb_at 1896 (by decide +kernel) rfl)
theorem ml_12_388 : ML "SowingBoardsModel" 388 y_X12_more := Or.inl (vtb_at 1892 (by decide +kernel) rfl)
theorem ml_12_396 : ML "SowingBoardsModel" 396 y_X12_draw := Or.inl (vtb_at 1904 (by decide +kernel) rfl)
theorem ml_12_399 : ML "SowingBoardsModel" 399 y_X12_fullPit := Or.inl (vtb_at 1909 (by decide +kernel) rfl)
def D_X12_isSo (p1 : Int32) (p2 : Int32) (p3 : Int32) : Wd → Option (Int32 × Wd) := fun w =>
  if p2 = 0 then (bc (D_X12_isOf p1 p3 w) fun x2 w1 => if b01 x2 then some (x2, w1) else none) else (if p2 = 1 then (if ib p1 16 then (if (w.1 120 p1.toNatClampNeg) < p3 then (some (0, w)) else (some (1, w))) else none) else (if p2 = 2 then (bc (D_X12_pits w) fun x4 w3 => if ib ((x4 - 1) - p1) 16 then (if (w3.1 120 ((x4 - 1) - p1).toNatClampNeg) < p3 then (some (0, w3)) else (some (1, w3))) else none) else (if p2 = 3 then (if ¬ (w.1 119 1) = 0 then (if (p1 - p1 / (w.1 119 1) * (w.1 119 1)) = p3 then (some (1, w)) else (some (0, w))) else none) else (if ib 14 16 then (bc (D_X12_isOf p1 (w.1 120 (14 : Int32).toNatClampNeg) w) fun x6 w5 => if p3 = 1 then (if x6 = 1 then (some (1, w5)) else (some (0, w5))) else (if x6 = 0 then (some (1, w5)) else (some (0, w5)))) else none))))
set_option maxRecDepth 20000 in
theorem S_X12_isSo {l0 : Launch} {ρ : Nat → Nat} {cs : Nat → ClassId} {G : va_G} (hρ : injN ρ) {p1 : Int32} {p2 : Int32} {p3 : Int32} {w : Wd} {rr : (Int32 × Wd)} (hD : D_X12_isSo p1 p2 p3 w = some rr) : CtI l0 ρ cs G y_X12_isSo prog_14_method_86_code 4 .boolean 1 [.ref (ρ 119), .int p1, .int p2, .int p3] w rr.1 rr.2 := by
  refine ctI_of hρ (by decide) (Nat.le_of_ble_eq_true rfl) (fun X hn h hR => ?_)
  unfold D_X12_isSo at hD
  show gG ρ cs G X 0 [(0, .ref (ρ 119)), (1, .int p1), (2, .int p2), (3, .int p3)] [] w
  refine g_iload_n h 2 t_X12_isSo_0 rfl ?_
  refine g_cas hD (fun hc0 hD => ?_) (fun hc0 hD => ?_)
  · refine g_tswI (off := 31) (tgt := 32) h t_X12_isSo_1 (by rw [hc0]; decide) (by rw [hc0]; decide) (by rw [hc0]; rfl) (by decide) ?_
    refine g_aload_n h 0 t_X12_isSo_32 rfl ?_
    refine g_iload_n h 1 t_X12_isSo_33 rfl ?_
    refine g_iload_n h 3 t_X12_isSo_34 rfl ?_
    refine g_callVI h 119 (As := [.int p1, .int p3]) (st := []) my_X12_isOf mi_X12_isOf ml_12_246 rfl (by decide) rfl rfl rfl (Nat.le_of_ble_eq_true rfl) (by decide) t_X12_isSo_35 hD (fun _ _ e => S_X12_isOf hρ  e) (fun x2 w1 hD => ?_)
    obtain ⟨hb, hD⟩ := of_ite hD
    obtain rfl := Option.some.inj hD
    exact hR _ _ t_X12_isSo_38 (b01_n hb)
  · refine g_cas hD (fun hc1 hD => ?_) (fun hc1 hD => ?_)
    · refine g_tswI (off := 38) (tgt := 39) h t_X12_isSo_1 (by rw [hc1]; decide) (by rw [hc1]; decide) (by rw [hc1]; rfl) (by decide) ?_
      refine g_aload_n h 0 t_X12_isSo_39 rfl ?_
      refine g_getR h 119 0 120 fl_12_9 rfl (by decide) rfl t_X12_isSo_40 ?_
      refine g_iload_n h 1 t_X12_isSo_43 rfl ?_
      refine g_iald h 120 rfl (by decide) t_X12_isSo_44 hD (fun hD => ?_)
      refine g_iload_n h 3 t_X12_isSo_45 rfl ?_
      refine g_icmp_lt (tgt := 53) h t_X12_isSo_46 (by decide) hD (fun hD => ?_) (fun hD => ?_)
      · refine g_iconst (v := 0) h t_X12_isSo_53 (by decide) ?_
        obtain rfl := Option.some.inj hD
        exact hR _ _ t_X12_isSo_54 (b01_n rfl)
      · refine g_iconst (v := 1) h t_X12_isSo_49 (by decide) ?_
        refine g_goto (tgt := 54) h t_X12_isSo_50 (by decide) ?_
        obtain rfl := Option.some.inj hD
        exact hR _ _ t_X12_isSo_54 (b01_n rfl)
    · refine g_cas hD (fun hc2 hD => ?_) (fun hc2 hD => ?_)
      · refine g_tswI (off := 54) (tgt := 55) h t_X12_isSo_1 (by rw [hc2]; decide) (by rw [hc2]; decide) (by rw [hc2]; rfl) (by decide) ?_
        refine g_aload_n h 0 t_X12_isSo_55 rfl ?_
        refine g_getR h 119 0 120 fl_12_9 rfl (by decide) rfl t_X12_isSo_56 ?_
        refine g_aload_n h 0 t_X12_isSo_59 rfl ?_
        refine g_callVI h 119 (As := []) (st := [.ref (ρ 120)]) my_X12_pits mi_X12_pits ml_12_214 rfl (by decide) rfl rfl rfl (Nat.le_of_ble_eq_true rfl) (by decide) t_X12_isSo_60 hD (fun _ _ e => S_X12_pits hρ  e) (fun x4 w3 hD => ?_)
        refine g_iconst (v := 1) h t_X12_isSo_63 (by decide) ?_
        refine g_isub h t_X12_isSo_64 ?_
        refine g_iload_n h 1 t_X12_isSo_65 rfl ?_
        refine g_isub h t_X12_isSo_66 ?_
        refine g_iald h 120 rfl (by decide) t_X12_isSo_67 hD (fun hD => ?_)
        refine g_iload_n h 3 t_X12_isSo_68 rfl ?_
        refine g_icmp_lt (tgt := 76) h t_X12_isSo_69 (by decide) hD (fun hD => ?_) (fun hD => ?_)
        · refine g_iconst (v := 0) h t_X12_isSo_76 (by decide) ?_
          obtain rfl := Option.some.inj hD
          exact hR _ _ t_X12_isSo_77 (b01_n rfl)
        · refine g_iconst (v := 1) h t_X12_isSo_72 (by decide) ?_
          refine g_goto (tgt := 77) h t_X12_isSo_73 (by decide) ?_
          obtain rfl := Option.some.inj hD
          exact hR _ _ t_X12_isSo_77 (b01_n rfl)
      · refine g_cas hD (fun hc3 hD => ?_) (fun hc3 hD => ?_)
        · refine g_tswI (off := 77) (tgt := 78) h t_X12_isSo_1 (by rw [hc3]; decide) (by rw [hc3]; decide) (by rw [hc3]; rfl) (by decide) ?_
          refine g_iload_n h 1 t_X12_isSo_78 rfl ?_
          refine g_aload_n h 0 t_X12_isSo_79 rfl ?_
          refine g_getI h 119 1 fl_12_13 rfl (by decide) rfl t_X12_isSo_80 ?_
          refine g_irem h t_X12_isSo_83 hD (fun hD => ?_)
          refine g_iload_n h 3 t_X12_isSo_84 rfl ?_
          refine g_icmp_ne (tgt := 92) h t_X12_isSo_85 (by decide) hD (fun hD => ?_) (fun hD => ?_)
          · refine g_iconst (v := 0) h t_X12_isSo_92 (by decide) ?_
            obtain rfl := Option.some.inj hD
            exact hR _ _ t_X12_isSo_93 (b01_n rfl)
          · refine g_iconst (v := 1) h t_X12_isSo_88 (by decide) ?_
            refine g_goto (tgt := 93) h t_X12_isSo_89 (by decide) ?_
            obtain rfl := Option.some.inj hD
            exact hR _ _ t_X12_isSo_93 (b01_n rfl)
        · refine g_tswO (tgt := 94) h t_X12_isSo_1 (by have n0 := lv_neT hc0 (a := 0) (by decide); have n1 := lv_neT hc1 (a := 1) (by decide); have n2 := lv_neT hc2 (a := 2) (by decide); have n3 := lv_neT hc3 (a := 3) (by decide); omega) (by decide) ?_
          refine g_aload_n h 0 t_X12_isSo_94 rfl ?_
          refine g_iload_n h 1 t_X12_isSo_95 rfl ?_
          refine g_aload_n h 0 t_X12_isSo_96 rfl ?_
          refine g_getR h 119 0 120 fl_12_9 rfl (by decide) rfl t_X12_isSo_97 ?_
          refine g_bipush (v := 14) h t_X12_isSo_100 (by decide) ?_
          refine g_iald h 120 rfl (by decide) t_X12_isSo_102 hD (fun hD => ?_)
          refine g_callVI h 119 (As := [.int p1, .int (w.1 120 (14 : Int32).toNatClampNeg)]) (st := []) my_X12_isOf mi_X12_isOf ml_12_246 rfl (by decide) rfl rfl rfl (Nat.le_of_ble_eq_true rfl) (by decide) t_X12_isSo_103 hD (fun _ _ e => S_X12_isOf hρ  e) (fun x6 w5 hD => ?_)
          refine g_iload_n h 3 t_X12_isSo_106 rfl ?_
          refine g_iconst (v := 1) h t_X12_isSo_107 (by decide) ?_
          refine g_icmp_ne (tgt := 115) h t_X12_isSo_108 (by decide) hD (fun hD => ?_) (fun hD => ?_)
          · refine g_iconst (v := 0) h t_X12_isSo_115 (by decide) ?_
            refine g_icmp_ne (tgt := 123) h t_X12_isSo_116 (by decide) hD (fun hD => ?_) (fun hD => ?_)
            · refine g_iconst (v := 0) h t_X12_isSo_123 (by decide) ?_
              obtain rfl := Option.some.inj hD
              exact hR _ _ t_X12_isSo_124 (b01_n rfl)
            · refine g_iconst (v := 1) h t_X12_isSo_119 (by decide) ?_
              refine g_goto (tgt := 124) h t_X12_isSo_120 (by decide) ?_
              obtain rfl := Option.some.inj hD
              exact hR _ _ t_X12_isSo_124 (b01_n rfl)
          · refine g_iconst (v := 1) h t_X12_isSo_111 (by decide) ?_
            refine g_goto (tgt := 116) h t_X12_isSo_112 (by decide) ?_
            refine g_icmp_ne (tgt := 123) h t_X12_isSo_116 (by decide) hD (fun hD => ?_) (fun hD => ?_)
            · refine g_iconst (v := 0) h t_X12_isSo_123 (by decide) ?_
              obtain rfl := Option.some.inj hD
              exact hR _ _ t_X12_isSo_124 (b01_n rfl)
            · refine g_iconst (v := 1) h t_X12_isSo_119 (by decide) ?_
              refine g_goto (tgt := 124) h t_X12_isSo_120 (by decide) ?_
              obtain rfl := Option.some.inj hD
              exact hR _ _ t_X12_isSo_124 (b01_n rfl)
def J_X12_fitting_j56_1 (k17 : Int32 → Wd → Option (Int32 × Wd)) : Wd → Option (Int32 × Wd) := fun w19 =>
  k17 0 w19
def J_X12_fitting_j57_2 (r17 : Int32 → Int32 → Wd → Option (Int32 × Wd)) (x13 : Int32) : Int32 → Wd → Option (Int32 × Wd) := fun x15 w16 =>
  bd (x13 + 1) fun x18 => r17 x15 x18 w16
def L_X12_fitting_17 (x8 : Int32) (x9 : Int32) (k10 : Int32 → Wd → Option (Int32 × Wd)) : Nat → Int32 → Int32 → Wd → Option (Int32 × Wd)
  | 0, _, _, _ => none
  | n11 + 1, x12, x13, w14 =>
    if (w14.1 119 43) ≤ x13 then (k10 x12 w14) else (bd (J_X12_fitting_j57_2 (L_X12_fitting_17 x8 x9 k10 n11) x13) fun k17 => bd (J_X12_fitting_j56_1 k17) fun k20 => if x12 = 0 then (k20 w14) else (if ib x13 12 then (if ib x13 12 then (bc (D_X12_isSo x9 (w14.1 152 x13.toNatClampNeg) (w14.1 153 x13.toNatClampNeg) w14) fun x22 w21 => if x22 = 0 then (k20 w21) else (k17 1 w21)) else none) else none))
def J_X12_fitting_j76_3 (r4 : Int32 → Int32 → Wd → Option (Int32 × Wd)) (x3 : Int32) (x4 : Int32) : Int32 → Wd → Option (Int32 × Wd) := fun x25 w26 =>
  bd (x3 ||| x25) fun x28 => bd (x4 + 1) fun x29 => r4 x28 x29 w26
def J_X12_fitting_x64_4 (r4 : Int32 → Int32 → Wd → Option (Int32 × Wd)) (x3 : Int32) (x4 : Int32) : Int32 → Wd → Option (Int32 × Wd) := fun x23 w24 =>
  bd (J_X12_fitting_j76_3 (r4) x3 x4) fun k27 => if x23 = 0 then (k27 0 w24) else (k27 (1 <<< (x4 &&& 31)) w24)
def L_X12_fitting_4 (k1 : Int32 → Wd → Option (Int32 × Wd)) : Nat → Int32 → Int32 → Wd → Option (Int32 × Wd)
  | 0, _, _, _ => none
  | n2 + 1, x3, x4, w5 =>
    bc (D_X12_pits w5) fun x7 w6 => if x7 ≤ x4 then (k1 x3 w6) else (L_X12_fitting_17 x3 x4 (J_X12_fitting_x64_4 (L_X12_fitting_4 k1 n2) x3 x4) FU 1 0 w6)
def J_X12_fitting_x84_5  : Int32 → Wd → Option (Int32 × Wd) := fun x30 w31 =>
  some (x30, w31)
def D_X12_fitting  : Wd → Option (Int32 × Wd) := fun w =>
  L_X12_fitting_4 J_X12_fitting_x84_5 FU 0 0 w
set_option maxRecDepth 20000 in
theorem Q_X12_fitting_17 {l0 : Launch} {ρ : Nat → Nat} {cs : Nat → ClassId} {G : va_G} {X : Cx} (hρ : injN ρ) (hn : X.2.2.2.2.2.2.2.2.2.2.1 = 5) (h : Okx l0 ρ cs G X prog_14_method_87_code "SowingBoardsModel" 2) {rr : (Int32 × Wd)} (hR : ∀ pc L, decode prog_14_method_87_code pc = .ok (.ireturn, 1) → narrow .int (.int rr.1) = .int rr.1 → gG ρ cs G X pc L [.int rr.1] rr.2) {x8 : Int32} {x9 : Int32} {k10 : Int32 → Wd → Option (Int32 × Wd)} (hk10 : ∀ (z3 : Int32) (w1 : Wd), k10 z3 w1 = some rr → gG ρ cs G X 64 [(0, .ref (ρ 119)), (1, .int x8), (2, .int x9), (3, .int z3)] [] w1) : ∀ (n : Nat) (x12 : Int32) (x13 : Int32) (w : Wd), L_X12_fitting_17 x8 x9 k10 n x12 x13 w = some rr → gG ρ cs G X 17 [(0, .ref (ρ 119)), (1, .int x8), (2, .int x9), (3, .int x12), (4, .int x13)] [] w := by
  intro n
  induction n with
  | zero =>
    intro x12 x13 w hD
    cases hD
  | succ n11 ih =>
    intro x12 x13 w14 hD
    unfold L_X12_fitting_17 at hD
    refine g_iload h 4 t_X12_fitting_17 rfl ?_
    refine g_aload_n h 0 t_X12_fitting_19 rfl ?_
    refine g_getI h 119 43 fl_12_354 rfl (by decide) rfl t_X12_fitting_20 ?_
    refine g_icmp_ge (tgt := 64) h t_X12_fitting_23 (by decide) hD (fun hD => ?_) (fun hD => ?_)
    · refine g_loc (L' := [(0, .ref (ρ 119)), (1, .int x8), (2, .int x9), (3, .int x12)]) h [0, 1, 2, 3] rfl ?_
      exact hk10 x12 _ hD
    · refine g_iload_n h 3 t_X12_fitting_26 rfl ?_
      refine g_join (P := fun k17 => ∀ (x15 : Int32) (w16 : Wd), k17 x15 w16 = some rr → gG ρ cs G X 57 [(0, .ref (ρ 119)), (1, .int x8), (2, .int x9), (4, .int x13)] [.int x15] w16) hD ?_ (fun k17 hk17 hD => ?_)
      · intro x15 w16 hD
        unfold J_X12_fitting_j57_2 at hD
        refine g_istore_n (L' := [(3, .int x15), (0, .ref (ρ 119)), (1, .int x8), (2, .int x9), (4, .int x13)]) h hn t_X12_fitting_57 rfl (by decide) rfl ?_
        obtain ⟨x18, ex18, hD⟩ := bd_ex hD
        refine g_iinc (v := x18) (L' := [(4, .int x18), (3, .int x15), (0, .ref (ρ 119)), (1, .int x8), (2, .int x9)]) h hn t_X12_fitting_58 (k := 4) rfl (by rw [ex18]; rfl) (by decide) rfl ?_
        refine g_goto (tgt := 17) h t_X12_fitting_61 (by decide) ?_
        refine g_loc (L' := [(0, .ref (ρ 119)), (1, .int x8), (2, .int x9), (3, .int x15), (4, .int x18)]) h [2, 3, 4, 1, 0] rfl ?_
        exact ih x15 x18 _ hD
      · refine g_join (P := fun k20 => ∀ (w19 : Wd), k20 w19 = some rr → gG ρ cs G X 56 [(0, .ref (ρ 119)), (1, .int x8), (2, .int x9), (4, .int x13)] [] w19) hD ?_ (fun k20 hk20 hD => ?_)
        · intro w19 hD
          unfold J_X12_fitting_j56_1 at hD
          refine g_iconst (v := 0) h t_X12_fitting_56 (by decide) ?_
          refine g_loc (L' := [(0, .ref (ρ 119)), (1, .int x8), (2, .int x9), (4, .int x13)]) h [0, 1, 2, 3] rfl ?_
          exact hk17 0 _ hD
        · refine g_if_eq (tgt := 56) h t_X12_fitting_27 (by decide) hD (fun hD => ?_) (fun hD => ?_)
          · refine g_loc (L' := [(0, .ref (ρ 119)), (1, .int x8), (2, .int x9), (4, .int x13)]) h [0, 1, 2, 4] rfl ?_
            exact hk20 _ hD
          · refine g_aload_n h 0 t_X12_fitting_30 rfl ?_
            refine g_iload_n h 2 t_X12_fitting_31 rfl ?_
            refine g_aload_n h 0 t_X12_fitting_32 rfl ?_
            refine g_getR h 119 41 152 fl_12_81 rfl (by decide) rfl t_X12_fitting_33 ?_
            refine g_iload h 4 t_X12_fitting_36 rfl ?_
            refine g_iald h 152 rfl (by decide) t_X12_fitting_38 hD (fun hD => ?_)
            refine g_aload_n h 0 t_X12_fitting_39 rfl ?_
            refine g_getR h 119 42 153 fl_12_84 rfl (by decide) rfl t_X12_fitting_40 ?_
            refine g_iload h 4 t_X12_fitting_43 rfl ?_
            refine g_iald h 153 rfl (by decide) t_X12_fitting_45 hD (fun hD => ?_)
            refine g_callVI h 119 (As := [.int x9, .int (w14.1 152 x13.toNatClampNeg), .int (w14.1 153 x13.toNatClampNeg)]) (st := []) my_X12_isSo mi_X12_isSo ml_12_357 rfl (by decide) rfl rfl rfl (Nat.le_of_ble_eq_true rfl) (by decide) t_X12_fitting_46 hD (fun _ _ e => S_X12_isSo hρ  e) (fun x22 w21 hD => ?_)
            refine g_if_eq (tgt := 56) h t_X12_fitting_49 (by decide) hD (fun hD => ?_) (fun hD => ?_)
            · refine g_loc (L' := [(0, .ref (ρ 119)), (1, .int x8), (2, .int x9), (4, .int x13)]) h [0, 1, 2, 4] rfl ?_
              exact hk20 _ hD
            · refine g_iconst (v := 1) h t_X12_fitting_52 (by decide) ?_
              refine g_goto (tgt := 57) h t_X12_fitting_53 (by decide) ?_
              refine g_loc (L' := [(0, .ref (ρ 119)), (1, .int x8), (2, .int x9), (4, .int x13)]) h [0, 1, 2, 4] rfl ?_
              exact hk17 1 _ hD
set_option maxRecDepth 20000 in
theorem Q_X12_fitting_4 {l0 : Launch} {ρ : Nat → Nat} {cs : Nat → ClassId} {G : va_G} {X : Cx} (hρ : injN ρ) (hn : X.2.2.2.2.2.2.2.2.2.2.1 = 5) (h : Okx l0 ρ cs G X prog_14_method_87_code "SowingBoardsModel" 2) {rr : (Int32 × Wd)} (hR : ∀ pc L, decode prog_14_method_87_code pc = .ok (.ireturn, 1) → narrow .int (.int rr.1) = .int rr.1 → gG ρ cs G X pc L [.int rr.1] rr.2)  {k1 : Int32 → Wd → Option (Int32 × Wd)} (hk1 : ∀ (z1 : Int32) (w1 : Wd), k1 z1 w1 = some rr → gG ρ cs G X 84 [(1, .int z1)] [] w1) : ∀ (n : Nat) (x3 : Int32) (x4 : Int32) (w : Wd), L_X12_fitting_4 k1 n x3 x4 w = some rr → gG ρ cs G X 4 [(0, .ref (ρ 119)), (1, .int x3), (2, .int x4)] [] w := by
  intro n
  induction n with
  | zero =>
    intro x3 x4 w hD
    cases hD
  | succ n2 ih =>
    intro x3 x4 w5 hD
    unfold L_X12_fitting_4 at hD
    refine g_iload_n h 2 t_X12_fitting_4 rfl ?_
    refine g_aload_n h 0 t_X12_fitting_5 rfl ?_
    refine g_callVI h 119 (As := []) (st := [.int x4]) my_X12_pits mi_X12_pits ml_12_214 rfl (by decide) rfl rfl rfl (Nat.le_of_ble_eq_true rfl) (by decide) t_X12_fitting_6 hD (fun _ _ e => S_X12_pits hρ  e) (fun x7 w6 hD => ?_)
    refine g_icmp_ge (tgt := 84) h t_X12_fitting_9 (by decide) hD (fun hD => ?_) (fun hD => ?_)
    · refine g_loc (L' := [(1, .int x3)]) h [1] rfl ?_
      exact hk1 x3 _ hD
    · refine g_iconst (v := 1) h t_X12_fitting_12 (by decide) ?_
      refine g_istore_n (L' := [(3, .int 1), (0, .ref (ρ 119)), (1, .int x3), (2, .int x4)]) h hn t_X12_fitting_13 rfl (by decide) rfl ?_
      refine g_iconst (v := 0) h t_X12_fitting_14 (by decide) ?_
      refine g_istore (L' := [(4, .int 0), (3, .int 1), (0, .ref (ρ 119)), (1, .int x3), (2, .int x4)]) h hn t_X12_fitting_15 (by decide) rfl ?_
      refine g_loc (L' := [(0, .ref (ρ 119)), (1, .int x3), (2, .int x4), (3, .int 1), (4, .int 0)]) h [2, 3, 4, 1, 0] rfl ?_
      refine Q_X12_fitting_17 hρ hn h hR  ?_ _ _ _ _ hD
      · intro x23 w24 hD
        unfold J_X12_fitting_x64_4 at hD
        refine g_iload_n h 1 t_X12_fitting_64 rfl ?_
        refine g_iload_n h 3 t_X12_fitting_65 rfl ?_
        refine g_join (P := fun k27 => ∀ (x25 : Int32) (w26 : Wd), k27 x25 w26 = some rr → gG ρ cs G X 76 [(0, .ref (ρ 119)), (2, .int x4)] [.int x25, .int x3] w26) hD ?_ (fun k27 hk27 hD => ?_)
        · intro x25 w26 hD
          unfold J_X12_fitting_j76_3 at hD
          refine g_ior h t_X12_fitting_76 ?_
          refine g_bdI hD (fun x28 hD => ?_)
          refine g_istore_n (L' := [(1, .int x28), (0, .ref (ρ 119)), (2, .int x4)]) h hn t_X12_fitting_77 rfl (by decide) rfl ?_
          obtain ⟨x29, ex29, hD⟩ := bd_ex hD
          refine g_iinc (v := x29) (L' := [(2, .int x29), (1, .int x28), (0, .ref (ρ 119))]) h hn t_X12_fitting_78 (k := 2) rfl (by rw [ex29]; rfl) (by decide) rfl ?_
          refine g_goto (tgt := 4) h t_X12_fitting_81 (by decide) ?_
          refine g_loc (L' := [(0, .ref (ρ 119)), (1, .int x28), (2, .int x29)]) h [2, 1, 0] rfl ?_
          exact ih x28 x29 _ hD
        · refine g_if_eq (tgt := 75) h t_X12_fitting_66 (by decide) hD (fun hD => ?_) (fun hD => ?_)
          · refine g_iconst (v := 0) h t_X12_fitting_75 (by decide) ?_
            refine g_loc (L' := [(0, .ref (ρ 119)), (2, .int x4)]) h [0, 2] rfl ?_
            exact hk27 0 _ hD
          · refine g_iconst (v := 1) h t_X12_fitting_69 (by decide) ?_
            refine g_iload_n h 2 t_X12_fitting_70 rfl ?_
            refine g_ishl h t_X12_fitting_71 ?_
            refine g_goto (tgt := 76) h t_X12_fitting_72 (by decide) ?_
            refine g_loc (L' := [(0, .ref (ρ 119)), (2, .int x4)]) h [0, 2] rfl ?_
            exact hk27 (1 <<< (x4 &&& 31)) _ hD
set_option maxRecDepth 20000 in
theorem S_X12_fitting {l0 : Launch} {ρ : Nat → Nat} {cs : Nat → ClassId} {G : va_G} (hρ : injN ρ)  {w : Wd} {rr : (Int32 × Wd)} (hD : D_X12_fitting w = some rr) : CtI l0 ρ cs G y_X12_fitting prog_14_method_87_code 5 .int 2 [.ref (ρ 119)] w rr.1 rr.2 := by
  refine ctI_of hρ (by decide) (Nat.le_of_ble_eq_true rfl) (fun X hn h hR => ?_)
  unfold D_X12_fitting at hD
  show gG ρ cs G X 0 [(0, .ref (ρ 119))] [] w
  refine g_iconst (v := 0) h t_X12_fitting_0 (by decide) ?_
  refine g_istore_n (L' := [(1, .int 0), (0, .ref (ρ 119))]) h hn t_X12_fitting_1 rfl (by decide) rfl ?_
  refine g_iconst (v := 0) h t_X12_fitting_2 (by decide) ?_
  refine g_istore_n (L' := [(2, .int 0), (1, .int 0), (0, .ref (ρ 119))]) h hn t_X12_fitting_3 rfl (by decide) rfl ?_
  refine g_loc (L' := [(0, .ref (ρ 119)), (1, .int 0), (2, .int 0)]) h [2, 1, 0] rfl ?_
  refine Q_X12_fitting_4 hρ hn h hR  ?_ _ _ _ _ hD
  · intro x30 w31 hD
    unfold J_X12_fitting_x84_5 at hD
    refine g_iload_n h 0 t_X12_fitting_84 rfl ?_
    obtain rfl := Option.some.inj hD
    exact hR _ _ t_X12_fitting_85 rfl
def D_X12_fits  : Wd → Option (Int32 × Wd) := fun w =>
  bd (wI w 119 7 0) fun w1 => bc (D_X12_fitting w1) fun x3 w2 => bd (wI w2 119 6 0) fun w4 => bc (D_J6_bitCount_0f7a4 x3 w4) fun x6 w5 => bv (D_X12_tell x6.toInt64 w5) fun w7 => some (x3, w7)
set_option maxRecDepth 20000 in
theorem S_X12_fits {l0 : Launch} {ρ : Nat → Nat} {cs : Nat → ClassId} {G : va_G} (hρ : injN ρ)  {w : Wd} {rr : (Int32 × Wd)} (hD : D_X12_fits w = some rr) : CtI l0 ρ cs G y_X12_fits prog_14_method_88_code 2 .int 3 [.ref (ρ 119)] w rr.1 rr.2 := by
  refine ctI_of hρ (by decide) (Nat.le_of_ble_eq_true rfl) (fun X hn h hR => ?_)
  unfold D_X12_fits at hD
  show gG ρ cs G X 0 [(0, .ref (ρ 119))] [] w
  refine g_aload_n h 0 t_X12_fits_0 rfl ?_
  refine g_iconst (v := 0) h t_X12_fits_1 (by decide) ?_
  refine g_putI h 119 7 fl_12_109 fp_12_7 rfl (by decide) rfl t_X12_fits_2 hD (fun w1 hD => ?_)
  refine g_aload_n h 0 t_X12_fits_5 rfl ?_
  refine g_callVI h 119 (As := []) (st := []) my_X12_fitting mi_X12_fitting ml_12_360 rfl (by decide) rfl rfl rfl (Nat.le_of_ble_eq_true rfl) (by decide) t_X12_fits_6 hD (fun _ _ e => S_X12_fitting hρ  e) (fun x3 w2 hD => ?_)
  refine g_istore_n (L' := [(1, .int x3), (0, .ref (ρ 119))]) h hn t_X12_fits_9 rfl (by decide) rfl ?_
  refine g_aload_n h 1 t_X12_fits_10 rfl ?_
  refine g_iconst (v := 0) h t_X12_fits_11 (by decide) ?_
  refine g_putI h 119 6 fl_12_112 fp_12_6 rfl (by decide) rfl t_X12_fits_12 hD (fun w4 hD => ?_)
  refine g_aload_n h 1 t_X12_fits_15 rfl ?_
  refine g_iload_n h 0 t_X12_fits_16 rfl ?_
  refine g_callSI h (As := [.int x3]) (st := [.ref (ρ 119)]) my_J6_bitCount_0f7a4 ms_J6_bitCount_0f7a4 ml_12_177 rfl rfl (Nat.le_of_ble_eq_true rfl) (by decide) t_X12_fits_17 hD (fun _ _ e => S_J6_bitCount_0f7a4 hρ  e) (fun x6 w5 hD => ?_)
  refine g_i2l h t_X12_fits_20 ?_
  refine g_callVV h 119 (As := [.long x6.toInt64]) (st := []) my_X12_tell mi_X12_tell ml_12_260 rfl (by decide) rfl rfl rfl (Nat.le_of_ble_eq_true rfl) (by decide) t_X12_fits_21 hD (fun _ e => S_X12_tell hρ  e) (fun w7 hD => ?_)
  refine g_iload_n h 0 t_X12_fits_24 rfl ?_
  obtain rfl := Option.some.inj hD
  exact hR _ _ t_X12_fits_25 rfl
def J_X12_asks_j101_1 (k33 : Int32 → Wd → Option (Int32 × Wd)) : Wd → Option (Int32 × Wd) := fun w36 =>
  k33 0 w36
def J_X12_asks_j102_2 (r58 : Int32 → Int32 → Wd → Option (Int32 × Wd)) (x24 : Int32) (x25 : Int32) : Int32 → Wd → Option (Int32 × Wd) := fun x31 w32 =>
  bd (x24 + x31) fun x34 => bd (x25 + 1) fun x35 => r58 x34 x35 w32
def L_X12_asks_58 (x18 : Int32) (x19 : Int32) (x20 : Int32) (x21 : Int32) (k22 : Int32 → Wd → Option (Int32 × Wd)) : Nat → Int32 → Int32 → Wd → Option (Int32 × Wd)
  | 0, _, _, _ => none
  | n23 + 1, x24, x25, w26 =>
    bc (D_X12_pits w26) fun x28 w27 => if x28 ≤ x25 then (k22 x24 w27) else (bc (D_X12_has x18 x25 w27) fun x30 w29 => bd (J_X12_asks_j102_2 (L_X12_asks_58 x18 x19 x20 x21 k22 n23) x24 x25) fun k33 => bd (J_X12_asks_j101_1 k33) fun k37 => if x30 = 0 then (k37 w29) else (if ¬ (10 : Int32) = 0 then (if ¬ (10 : Int32) = 0 then (bc (D_X12_isSo x25 (x21 / 10) (x21 - x21 / 10 * 10) w29) fun x39 w38 => if x39 = 0 then (k37 w38) else (k33 1 w38)) else none) else none))
def J_X12_asks_x111_3 (x4 : Int32) (x8 : Int32) (k16 : Int32 → Int32 → Wd → Option (Int32 × Wd)) (x9 : Int32) (x7 : Int32) : Int32 → Wd → Option (Int32 × Wd) := fun x40 w41 =>
  bc (D_J6_bitCount_0f7a4 x4 w41) fun x43 w42 => bd (imax x40 (x43 - x40)) fun x44 => if x44 < x8 then (k16 x9 x44 w42) else (k16 x7 x8 w42)
def J_X12_asks_j140_4 (r26 : Int32 → Int32 → Int32 → Wd → Option (Int32 × Wd)) (x9 : Int32) : Int32 → Int32 → Wd → Option (Int32 × Wd) := fun x13 x14 w15 =>
  bd (x9 + 1) fun x17 => r26 x13 x14 x17 w15
def L_X12_asks_26 (x4 : Int32) (k5 : Int32 → Int32 → Wd → Option (Int32 × Wd)) : Nat → Int32 → Int32 → Int32 → Wd → Option (Int32 × Wd)
  | 0, _, _, _, _ => none
  | n6 + 1, x7, x8, x9, w10 =>
    if 50 ≤ x9 then (k5 x7 x8 w10) else (if ¬ (10 : Int32) = 0 then (if ¬ (10 : Int32) = 0 then (bc (D_X12_highOf (x9 / 10) w10) fun x12 w11 => bd (J_X12_asks_j140_4 (L_X12_asks_26 x4 k5 n6) x9) fun k16 => if (x9 - x9 / 10 * 10) ≤ x12 then (L_X12_asks_58 x4 x7 x8 x9 (J_X12_asks_x111_3 x4 x8 k16 x9 x7) FU 0 0 w11) else (k16 x7 x8 w11)) else none) else none)
def J_X12_asks_x146_5  : Int32 → Int32 → Wd → Option (Int32 × Wd) := fun x45 x46 w47 =>
  bd (wI w47 119 6 0) fun w48 => bv (D_X12_tell x46.toInt64 w48) fun w49 => some (x45, w49)
def D_X12_asks  : Wd → Option (Int32 × Wd) := fun w =>
  bd (wI w 119 7 0) fun w1 => bc (D_X12_fitting w1) fun x3 w2 => if x3 = 0 then (some ((-2), w2)) else (L_X12_asks_26 x3 J_X12_asks_x146_5 FU (-1) 1000000 0 w2)
set_option maxRecDepth 20000 in
theorem Q_X12_asks_58 {l0 : Launch} {ρ : Nat → Nat} {cs : Nat → ClassId} {G : va_G} {X : Cx} (hρ : injN ρ) (hn : X.2.2.2.2.2.2.2.2.2.2.1 = 7) (h : Okx l0 ρ cs G X prog_14_method_89_code "SowingBoardsModel" 3) {rr : (Int32 × Wd)} (hR : ∀ pc L, decode prog_14_method_89_code pc = .ok (.ireturn, 1) → narrow .int (.int rr.1) = .int rr.1 → gG ρ cs G X pc L [.int rr.1] rr.2) {x18 : Int32} {x19 : Int32} {x20 : Int32} {x21 : Int32} {k22 : Int32 → Wd → Option (Int32 × Wd)} (hk22 : ∀ (z5 : Int32) (w1 : Wd), k22 z5 w1 = some rr → gG ρ cs G X 111 [(0, .ref (ρ 119)), (1, .int x18), (2, .int x19), (3, .int x20), (4, .int x21), (5, .int z5)] [] w1) : ∀ (n : Nat) (x24 : Int32) (x25 : Int32) (w : Wd), L_X12_asks_58 x18 x19 x20 x21 k22 n x24 x25 w = some rr → gG ρ cs G X 58 [(0, .ref (ρ 119)), (1, .int x18), (2, .int x19), (3, .int x20), (4, .int x21), (5, .int x24), (6, .int x25)] [] w := by
  intro n
  induction n with
  | zero =>
    intro x24 x25 w hD
    cases hD
  | succ n23 ih =>
    intro x24 x25 w26 hD
    unfold L_X12_asks_58 at hD
    refine g_iload h 6 t_X12_asks_58 rfl ?_
    refine g_aload_n h 0 t_X12_asks_60 rfl ?_
    refine g_callVI h 119 (As := []) (st := [.int x25]) my_X12_pits mi_X12_pits ml_12_214 rfl (by decide) rfl rfl rfl (Nat.le_of_ble_eq_true rfl) (by decide) t_X12_asks_61 hD (fun _ _ e => S_X12_pits hρ  e) (fun x28 w27 hD => ?_)
    refine g_icmp_ge (tgt := 111) h t_X12_asks_64 (by decide) hD (fun hD => ?_) (fun hD => ?_)
    · refine g_loc (L' := [(0, .ref (ρ 119)), (1, .int x18), (2, .int x19), (3, .int x20), (4, .int x21), (5, .int x24)]) h [0, 1, 2, 3, 4, 5] rfl ?_
      exact hk22 x24 _ hD
    · refine g_iload h 5 t_X12_asks_67 rfl ?_
      refine g_iload_n h 1 t_X12_asks_69 rfl ?_
      refine g_iload h 6 t_X12_asks_70 rfl ?_
      refine g_callSI h (As := [.int x18, .int x25]) (st := [.int x24]) my_X12_has ms_X12_has ml_12_363 rfl rfl (Nat.le_of_ble_eq_true rfl) (by decide) t_X12_asks_72 hD (fun _ _ e => S_X12_has hρ  e) (fun x30 w29 hD => ?_)
      refine g_join (P := fun k33 => ∀ (x31 : Int32) (w32 : Wd), k33 x31 w32 = some rr → gG ρ cs G X 102 [(0, .ref (ρ 119)), (1, .int x18), (2, .int x19), (3, .int x20), (4, .int x21), (6, .int x25)] [.int x31, .int x24] w32) hD ?_ (fun k33 hk33 hD => ?_)
      · intro x31 w32 hD
        unfold J_X12_asks_j102_2 at hD
        refine g_iadd h t_X12_asks_102 ?_
        refine g_bdI hD (fun x34 hD => ?_)
        refine g_istore (L' := [(5, .int x34), (0, .ref (ρ 119)), (1, .int x18), (2, .int x19), (3, .int x20), (4, .int x21), (6, .int x25)]) h hn t_X12_asks_103 (by decide) rfl ?_
        obtain ⟨x35, ex35, hD⟩ := bd_ex hD
        refine g_iinc (v := x35) (L' := [(6, .int x35), (5, .int x34), (0, .ref (ρ 119)), (1, .int x18), (2, .int x19), (3, .int x20), (4, .int x21)]) h hn t_X12_asks_105 (k := 6) rfl (by rw [ex35]; rfl) (by decide) rfl ?_
        refine g_goto (tgt := 58) h t_X12_asks_108 (by decide) ?_
        refine g_loc (L' := [(0, .ref (ρ 119)), (1, .int x18), (2, .int x19), (3, .int x20), (4, .int x21), (5, .int x34), (6, .int x35)]) h [2, 3, 4, 5, 6, 1, 0] rfl ?_
        exact ih x34 x35 _ hD
      · refine g_join (P := fun k37 => ∀ (w36 : Wd), k37 w36 = some rr → gG ρ cs G X 101 [(0, .ref (ρ 119)), (1, .int x18), (2, .int x19), (3, .int x20), (4, .int x21), (6, .int x25)] [.int x24] w36) hD ?_ (fun k37 hk37 hD => ?_)
        · intro w36 hD
          unfold J_X12_asks_j101_1 at hD
          refine g_iconst (v := 0) h t_X12_asks_101 (by decide) ?_
          refine g_loc (L' := [(0, .ref (ρ 119)), (1, .int x18), (2, .int x19), (3, .int x20), (4, .int x21), (6, .int x25)]) h [0, 1, 2, 3, 4, 5] rfl ?_
          exact hk33 0 _ hD
        · refine g_if_eq (tgt := 101) h t_X12_asks_75 (by decide) hD (fun hD => ?_) (fun hD => ?_)
          · refine g_loc (L' := [(0, .ref (ρ 119)), (1, .int x18), (2, .int x19), (3, .int x20), (4, .int x21), (6, .int x25)]) h [0, 1, 2, 3, 4, 6] rfl ?_
            exact hk37 _ hD
          · refine g_aload_n h 0 t_X12_asks_78 rfl ?_
            refine g_iload h 6 t_X12_asks_79 rfl ?_
            refine g_iload h 4 t_X12_asks_81 rfl ?_
            refine g_bipush (v := 10) h t_X12_asks_83 (by decide) ?_
            refine g_idiv h t_X12_asks_85 hD (fun hD => ?_)
            refine g_iload h 4 t_X12_asks_86 rfl ?_
            refine g_bipush (v := 10) h t_X12_asks_88 (by decide) ?_
            refine g_irem h t_X12_asks_90 hD (fun hD => ?_)
            refine g_callVI h 119 (As := [.int x25, .int (x21 / 10), .int (x21 - x21 / 10 * 10)]) (st := [.int x24]) my_X12_isSo mi_X12_isSo ml_12_357 rfl (by decide) rfl rfl rfl (Nat.le_of_ble_eq_true rfl) (by decide) t_X12_asks_91 hD (fun _ _ e => S_X12_isSo hρ  e) (fun x39 w38 hD => ?_)
            refine g_if_eq (tgt := 101) h t_X12_asks_94 (by decide) hD (fun hD => ?_) (fun hD => ?_)
            · refine g_loc (L' := [(0, .ref (ρ 119)), (1, .int x18), (2, .int x19), (3, .int x20), (4, .int x21), (6, .int x25)]) h [0, 1, 2, 3, 4, 6] rfl ?_
              exact hk37 _ hD
            · refine g_iconst (v := 1) h t_X12_asks_97 (by decide) ?_
              refine g_goto (tgt := 102) h t_X12_asks_98 (by decide) ?_
              refine g_loc (L' := [(0, .ref (ρ 119)), (1, .int x18), (2, .int x19), (3, .int x20), (4, .int x21), (6, .int x25)]) h [0, 1, 2, 3, 4, 6] rfl ?_
              exact hk33 1 _ hD
set_option maxRecDepth 20000 in
theorem Q_X12_asks_26 {l0 : Launch} {ρ : Nat → Nat} {cs : Nat → ClassId} {G : va_G} {X : Cx} (hρ : injN ρ) (hn : X.2.2.2.2.2.2.2.2.2.2.1 = 7) (h : Okx l0 ρ cs G X prog_14_method_89_code "SowingBoardsModel" 3) {rr : (Int32 × Wd)} (hR : ∀ pc L, decode prog_14_method_89_code pc = .ok (.ireturn, 1) → narrow .int (.int rr.1) = .int rr.1 → gG ρ cs G X pc L [.int rr.1] rr.2) {x4 : Int32} {k5 : Int32 → Int32 → Wd → Option (Int32 × Wd)} (hk5 : ∀ (z2 : Int32) (z3 : Int32) (w1 : Wd), k5 z2 z3 w1 = some rr → gG ρ cs G X 146 [(0, .ref (ρ 119)), (2, .int z2), (3, .int z3)] [] w1) : ∀ (n : Nat) (x7 : Int32) (x8 : Int32) (x9 : Int32) (w : Wd), L_X12_asks_26 x4 k5 n x7 x8 x9 w = some rr → gG ρ cs G X 26 [(0, .ref (ρ 119)), (1, .int x4), (2, .int x7), (3, .int x8), (4, .int x9)] [] w := by
  intro n
  induction n with
  | zero =>
    intro x7 x8 x9 w hD
    cases hD
  | succ n6 ih =>
    intro x7 x8 x9 w10 hD
    unfold L_X12_asks_26 at hD
    refine g_iload h 4 t_X12_asks_26 rfl ?_
    refine g_bipush (v := 50) h t_X12_asks_28 (by decide) ?_
    refine g_icmp_ge (tgt := 146) h t_X12_asks_30 (by decide) hD (fun hD => ?_) (fun hD => ?_)
    · refine g_loc (L' := [(0, .ref (ρ 119)), (2, .int x7), (3, .int x8)]) h [0, 2, 3] rfl ?_
      exact hk5 x7 x8 _ hD
    · refine g_iload h 4 t_X12_asks_33 rfl ?_
      refine g_bipush (v := 10) h t_X12_asks_35 (by decide) ?_
      refine g_irem h t_X12_asks_37 hD (fun hD => ?_)
      refine g_iload h 4 t_X12_asks_38 rfl ?_
      refine g_bipush (v := 10) h t_X12_asks_40 (by decide) ?_
      refine g_idiv h t_X12_asks_42 hD (fun hD => ?_)
      refine g_callSI h (As := [.int (x9 / 10)]) (st := [.int (x9 - x9 / 10 * 10)]) my_X12_highOf ms_X12_highOf ml_12_351 rfl rfl (Nat.le_of_ble_eq_true rfl) (by decide) t_X12_asks_43 hD (fun _ _ e => S_X12_highOf hρ  e) (fun x12 w11 hD => ?_)
      refine g_join (P := fun k16 => ∀ (x13 : Int32) (x14 : Int32) (w15 : Wd), k16 x13 x14 w15 = some rr → gG ρ cs G X 140 [(0, .ref (ρ 119)), (1, .int x4), (2, .int x13), (3, .int x14), (4, .int x9)] [] w15) hD ?_ (fun k16 hk16 hD => ?_)
      · intro x13 x14 w15 hD
        unfold J_X12_asks_j140_4 at hD
        obtain ⟨x17, ex17, hD⟩ := bd_ex hD
        refine g_iinc (v := x17) (L' := [(4, .int x17), (0, .ref (ρ 119)), (1, .int x4), (2, .int x13), (3, .int x14)]) h hn t_X12_asks_140 (k := 4) rfl (by rw [ex17]; rfl) (by decide) rfl ?_
        refine g_goto (tgt := 26) h t_X12_asks_143 (by decide) ?_
        refine g_loc (L' := [(0, .ref (ρ 119)), (1, .int x4), (2, .int x13), (3, .int x14), (4, .int x17)]) h [1, 2, 3, 4, 0] rfl ?_
        exact ih x13 x14 x17 _ hD
      · refine g_icmp_le (tgt := 52) h t_X12_asks_46 (by decide) hD (fun hD => ?_) (fun hD => ?_)
        · refine g_iconst (v := 0) h t_X12_asks_52 (by decide) ?_
          refine g_istore (L' := [(5, .int 0), (0, .ref (ρ 119)), (1, .int x4), (2, .int x7), (3, .int x8), (4, .int x9)]) h hn t_X12_asks_53 (by decide) rfl ?_
          refine g_iconst (v := 0) h t_X12_asks_55 (by decide) ?_
          refine g_istore (L' := [(6, .int 0), (5, .int 0), (0, .ref (ρ 119)), (1, .int x4), (2, .int x7), (3, .int x8), (4, .int x9)]) h hn t_X12_asks_56 (by decide) rfl ?_
          refine g_loc (L' := [(0, .ref (ρ 119)), (1, .int x4), (2, .int x7), (3, .int x8), (4, .int x9), (5, .int 0), (6, .int 0)]) h [2, 3, 4, 5, 6, 1, 0] rfl ?_
          refine Q_X12_asks_58 hρ hn h hR  ?_ _ _ _ _ hD
          · intro x40 w41 hD
            unfold J_X12_asks_x111_3 at hD
            refine g_iload h 5 t_X12_asks_111 rfl ?_
            refine g_iload_n h 1 t_X12_asks_113 rfl ?_
            refine g_callSI h (As := [.int x4]) (st := [.int x40]) my_J6_bitCount_0f7a4 ms_J6_bitCount_0f7a4 ml_12_177 rfl rfl (Nat.le_of_ble_eq_true rfl) (by decide) t_X12_asks_114 hD (fun _ _ e => S_J6_bitCount_0f7a4 hρ  e) (fun x43 w42 hD => ?_)
            refine g_iload h 5 t_X12_asks_117 rfl ?_
            refine g_isub h t_X12_asks_119 ?_
            refine g_mmax h (st := []) (vtb_at 1619 (by decide +kernel) rfl) (Nat.le_of_ble_eq_true rfl) t_X12_asks_120 ?_
            refine g_bdI hD (fun x44 hD => ?_)
            refine g_istore (L' := [(6, .int x44), (0, .ref (ρ 119)), (1, .int x4), (2, .int x7), (3, .int x8), (4, .int x9), (5, .int x40)]) h hn t_X12_asks_123 (by decide) rfl ?_
            refine g_iload h 0 t_X12_asks_125 rfl ?_
            refine g_iload_n h 4 t_X12_asks_127 rfl ?_
            refine g_icmp_lt (tgt := 134) h t_X12_asks_128 (by decide) hD (fun hD => ?_) (fun hD => ?_)
            · refine g_iload h 5 t_X12_asks_134 rfl ?_
              refine g_istore_n (L' := [(2, .int x9), (6, .int x44), (0, .ref (ρ 119)), (1, .int x4), (3, .int x8), (4, .int x9), (5, .int x40)]) h hn t_X12_asks_136 rfl (by decide) rfl ?_
              refine g_iload h 1 t_X12_asks_137 rfl ?_
              refine g_istore_n (L' := [(3, .int x44), (2, .int x9), (6, .int x44), (0, .ref (ρ 119)), (1, .int x4), (4, .int x9), (5, .int x40)]) h hn t_X12_asks_139 rfl (by decide) rfl ?_
              refine g_loc (L' := [(0, .ref (ρ 119)), (1, .int x4), (2, .int x9), (3, .int x44), (4, .int x9)]) h [3, 4, 1, 0, 5] rfl ?_
              exact hk16 x9 x44 _ hD
            · refine g_goto (tgt := 140) h t_X12_asks_131 (by decide) ?_
              refine g_loc (L' := [(0, .ref (ρ 119)), (1, .int x4), (2, .int x7), (3, .int x8), (4, .int x9)]) h [1, 2, 3, 4, 5] rfl ?_
              exact hk16 x7 x8 _ hD
        · refine g_goto (tgt := 140) h t_X12_asks_49 (by decide) ?_
          refine g_loc (L' := [(0, .ref (ρ 119)), (1, .int x4), (2, .int x7), (3, .int x8), (4, .int x9)]) h [0, 1, 2, 3, 4] rfl ?_
          exact hk16 x7 x8 _ hD
set_option maxRecDepth 20000 in
theorem S_X12_asks {l0 : Launch} {ρ : Nat → Nat} {cs : Nat → ClassId} {G : va_G} (hρ : injN ρ)  {w : Wd} {rr : (Int32 × Wd)} (hD : D_X12_asks w = some rr) : CtI l0 ρ cs G y_X12_asks prog_14_method_89_code 7 .int 3 [.ref (ρ 119)] w rr.1 rr.2 := by
  refine ctI_of hρ (by decide) (Nat.le_of_ble_eq_true rfl) (fun X hn h hR => ?_)
  unfold D_X12_asks at hD
  show gG ρ cs G X 0 [(0, .ref (ρ 119))] [] w
  refine g_aload_n h 0 t_X12_asks_0 rfl ?_
  refine g_iconst (v := 0) h t_X12_asks_1 (by decide) ?_
  refine g_putI h 119 7 fl_12_109 fp_12_7 rfl (by decide) rfl t_X12_asks_2 hD (fun w1 hD => ?_)
  refine g_aload_n h 0 t_X12_asks_5 rfl ?_
  refine g_callVI h 119 (As := []) (st := []) my_X12_fitting mi_X12_fitting ml_12_360 rfl (by decide) rfl rfl rfl (Nat.le_of_ble_eq_true rfl) (by decide) t_X12_asks_6 hD (fun _ _ e => S_X12_fitting hρ  e) (fun x3 w2 hD => ?_)
  refine g_istore_n (L' := [(1, .int x3), (0, .ref (ρ 119))]) h hn t_X12_asks_9 rfl (by decide) rfl ?_
  refine g_iload_n h 0 t_X12_asks_10 rfl ?_
  refine g_if_ne (tgt := 17) h t_X12_asks_11 (by decide) hD (fun hD => ?_) (fun hD => ?_)
  · refine g_iconst (v := (-1)) h t_X12_asks_17 (by decide) ?_
    refine g_istore_n (L' := [(2, .int (-1)), (1, .int x3), (0, .ref (ρ 119))]) h hn t_X12_asks_18 rfl (by decide) rfl ?_
    refine g_ldcw (v := 1000000) h t_X12_asks_19 cc_12_337 ?_
    refine g_istore_n (L' := [(3, .int 1000000), (2, .int (-1)), (1, .int x3), (0, .ref (ρ 119))]) h hn t_X12_asks_22 rfl (by decide) rfl ?_
    refine g_iconst (v := 0) h t_X12_asks_23 (by decide) ?_
    refine g_istore (L' := [(4, .int 0), (3, .int 1000000), (2, .int (-1)), (1, .int x3), (0, .ref (ρ 119))]) h hn t_X12_asks_24 (by decide) rfl ?_
    refine g_loc (L' := [(0, .ref (ρ 119)), (1, .int x3), (2, .int (-1)), (3, .int 1000000), (4, .int 0)]) h [4, 3, 2, 1, 0] rfl ?_
    refine Q_X12_asks_26 hρ hn h hR  ?_ _ _ _ _ _ hD
    · intro x45 x46 w47 hD
      unfold J_X12_asks_x146_5 at hD
      refine g_aload_n h 0 t_X12_asks_146 rfl ?_
      refine g_iconst (v := 0) h t_X12_asks_147 (by decide) ?_
      refine g_putI h 119 6 fl_12_112 fp_12_6 rfl (by decide) rfl t_X12_asks_148 hD (fun w48 hD => ?_)
      refine g_aload_n h 0 t_X12_asks_151 rfl ?_
      refine g_iload_n h 2 t_X12_asks_152 rfl ?_
      refine g_i2l h t_X12_asks_153 ?_
      refine g_callVV h 119 (As := [.long x46.toInt64]) (st := []) my_X12_tell mi_X12_tell ml_12_260 rfl (by decide) rfl rfl rfl (Nat.le_of_ble_eq_true rfl) (by decide) t_X12_asks_154 hD (fun _ e => S_X12_tell hρ  e) (fun w49 hD => ?_)
      refine g_iload_n h 1 t_X12_asks_157 rfl ?_
      obtain rfl := Option.some.inj hD
      exact hR _ _ t_X12_asks_158 rfl
  · refine g_bipush (v := (-2)) h t_X12_asks_14 (by decide) ?_
    obtain rfl := Option.some.inj hD
    exact hR _ _ t_X12_asks_16 rfl
def J_X12_saw_j30_1 (p1 : Int32) (p2 : Int32) : Wd → Option (Int32 × Wd) := fun w6 =>
  if (w6.1 119 46) = 10 then (some ((-1), w6)) else (if ib (w6.1 119 46) 10 then bd (wI w6 154 (w6.1 119 46).toNatClampNeg p1) (fun w8 => if ib (w8.1 119 46) 10 then bd (wI w8 155 (w8.1 119 46).toNatClampNeg p2) (fun w9 => bd (wI w9 119 46 ((w9.1 119 46) + 1)) fun w10 => some (w10.1 119 46, w10)) else none) else none)
def D_X12_saw (p1 : Int32) (p2 : Int32) : Wd → Option (Int32 × Wd) := fun w =>
  bd (wI w 119 7 0) fun w1 => bc (D_X12_in p1 0 5 w1) fun x3 w2 => if x3 = 0 then (some ((-1), w2)) else (bc (D_X12_in p2 0 11 w2) fun x5 w4 => bd (J_X12_saw_j30_1 p1 p2) fun k7 => if x5 = 0 then (if p2 = 50 then (k7 w4) else (some ((-1), w4))) else (k7 w4))
set_option maxRecDepth 20000 in
theorem S_X12_saw {l0 : Launch} {ρ : Nat → Nat} {cs : Nat → ClassId} {G : va_G} (hρ : injN ρ) {p1 : Int32} {p2 : Int32} {w : Wd} {rr : (Int32 × Wd)} (hD : D_X12_saw p1 p2 w = some rr) : CtI l0 ρ cs G y_X12_saw prog_14_method_90_code 3 .int 1 [.ref (ρ 119), .int p1, .int p2] w rr.1 rr.2 := by
  refine ctI_of hρ (by decide) (Nat.le_of_ble_eq_true rfl) (fun X hn h hR => ?_)
  unfold D_X12_saw at hD
  show gG ρ cs G X 0 [(0, .ref (ρ 119)), (1, .int p1), (2, .int p2)] [] w
  refine g_aload_n h 0 t_X12_saw_0 rfl ?_
  refine g_iconst (v := 0) h t_X12_saw_1 (by decide) ?_
  refine g_putI h 119 7 fl_12_109 fp_12_7 rfl (by decide) rfl t_X12_saw_2 hD (fun w1 hD => ?_)
  refine g_iload_n h 1 t_X12_saw_5 rfl ?_
  refine g_iconst (v := 0) h t_X12_saw_6 (by decide) ?_
  refine g_iconst (v := 5) h t_X12_saw_7 (by decide) ?_
  refine g_callSI h (As := [.int p1, .int 0, .int 5]) (st := []) my_X12_in ms_X12_in ml_12_118 rfl rfl (Nat.le_of_ble_eq_true rfl) (by decide) t_X12_saw_8 hD (fun _ _ e => S_X12_in hρ  e) (fun x3 w2 hD => ?_)
  refine g_if_eq (tgt := 39) h t_X12_saw_11 (by decide) hD (fun hD => ?_) (fun hD => ?_)
  · refine g_iconst (v := (-1)) h t_X12_saw_39 (by decide) ?_
    obtain rfl := Option.some.inj hD
    exact hR _ _ t_X12_saw_40 rfl
  · refine g_iload_n h 2 t_X12_saw_14 rfl ?_
    refine g_iconst (v := 0) h t_X12_saw_15 (by decide) ?_
    refine g_bipush (v := 11) h t_X12_saw_16 (by decide) ?_
    refine g_callSI h (As := [.int p2, .int 0, .int 11]) (st := []) my_X12_in ms_X12_in ml_12_118 rfl rfl (Nat.le_of_ble_eq_true rfl) (by decide) t_X12_saw_18 hD (fun _ _ e => S_X12_in hρ  e) (fun x5 w4 hD => ?_)
    refine g_join (P := fun k7 => ∀ (w6 : Wd), k7 w6 = some rr → gG ρ cs G X 30 [(0, .ref (ρ 119)), (1, .int p1), (2, .int p2)] [] w6) hD ?_ (fun k7 hk7 hD => ?_)
    · intro w6 hD
      unfold J_X12_saw_j30_1 at hD
      refine g_aload_n h 0 t_X12_saw_30 rfl ?_
      refine g_getI h 119 46 fl_12_366 rfl (by decide) rfl t_X12_saw_31 ?_
      refine g_bipush (v := 10) h t_X12_saw_34 (by decide) ?_
      refine g_icmp_ne (tgt := 41) h t_X12_saw_36 (by decide) hD (fun hD => ?_) (fun hD => ?_)
      · refine g_aload_n h 0 t_X12_saw_41 rfl ?_
        refine g_getR h 119 44 154 fl_12_87 rfl (by decide) rfl t_X12_saw_42 ?_
        refine g_aload_n h 0 t_X12_saw_45 rfl ?_
        refine g_getI h 119 46 fl_12_366 rfl (by decide) rfl t_X12_saw_46 ?_
        refine g_iload_n h 1 t_X12_saw_49 rfl ?_
        refine g_iast h 154 rfl (by decide) t_X12_saw_50 hD (fun w8 hD => ?_)
        refine g_aload_n h 0 t_X12_saw_51 rfl ?_
        refine g_getR h 119 45 155 fl_12_90 rfl (by decide) rfl t_X12_saw_52 ?_
        refine g_aload_n h 0 t_X12_saw_55 rfl ?_
        refine g_getI h 119 46 fl_12_366 rfl (by decide) rfl t_X12_saw_56 ?_
        refine g_iload_n h 2 t_X12_saw_59 rfl ?_
        refine g_iast h 155 rfl (by decide) t_X12_saw_60 hD (fun w9 hD => ?_)
        refine g_aload_n h 0 t_X12_saw_61 rfl ?_
        refine g_dup h t_X12_saw_62 rfl ?_
        refine g_getI h 119 46 fl_12_366 rfl (by decide) rfl t_X12_saw_63 ?_
        refine g_iconst (v := 1) h t_X12_saw_66 (by decide) ?_
        refine g_iadd h t_X12_saw_67 ?_
        refine g_putI h 119 46 fl_12_366 fp_12_46 rfl (by decide) rfl t_X12_saw_68 hD (fun w10 hD => ?_)
        refine g_aload_n h 0 t_X12_saw_71 rfl ?_
        refine g_getI h 119 46 fl_12_366 rfl (by decide) rfl t_X12_saw_72 ?_
        obtain rfl := Option.some.inj hD
        exact hR _ _ t_X12_saw_75 rfl
      · refine g_iconst (v := (-1)) h t_X12_saw_39 (by decide) ?_
        obtain rfl := Option.some.inj hD
        exact hR _ _ t_X12_saw_40 rfl
    · refine g_if_ne (tgt := 30) h t_X12_saw_21 (by decide) hD (fun hD => ?_) (fun hD => ?_)
      · refine g_loc (L' := [(0, .ref (ρ 119)), (1, .int p1), (2, .int p2)]) h [0, 1, 2] rfl ?_
        exact hk7 _ hD
      · refine g_iload_n h 2 t_X12_saw_24 rfl ?_
        refine g_bipush (v := 50) h t_X12_saw_25 (by decide) ?_
        refine g_icmp_ne (tgt := 39) h t_X12_saw_27 (by decide) hD (fun hD => ?_) (fun hD => ?_)
        · refine g_iconst (v := (-1)) h t_X12_saw_39 (by decide) ?_
          obtain rfl := Option.some.inj hD
          exact hR _ _ t_X12_saw_40 rfl
        · refine g_loc (L' := [(0, .ref (ρ 119)), (1, .int p1), (2, .int p2)]) h [0, 1, 2] rfl ?_
          exact hk7 _ hD
def D_X12_denies  : Wd → Option (Int32 × Wd) := fun w =>
  bd (wI w 119 7 0) fun w1 => bd (w1.1 119 46) fun x2 => bd (wI w1 119 46 0) fun w3 => some (x2, w3)
set_option maxRecDepth 20000 in
theorem S_X12_denies {l0 : Launch} {ρ : Nat → Nat} {cs : Nat → ClassId} {G : va_G} (hρ : injN ρ)  {w : Wd} {rr : (Int32 × Wd)} (hD : D_X12_denies w = some rr) : CtI l0 ρ cs G y_X12_denies prog_14_method_91_code 2 .int 0 [.ref (ρ 119)] w rr.1 rr.2 := by
  refine ctI_of hρ (by decide) (Nat.le_of_ble_eq_true rfl) (fun X hn h hR => ?_)
  unfold D_X12_denies at hD
  show gG ρ cs G X 0 [(0, .ref (ρ 119))] [] w
  refine g_aload_n h 0 t_X12_denies_0 rfl ?_
  refine g_iconst (v := 0) h t_X12_denies_1 (by decide) ?_
  refine g_putI h 119 7 fl_12_109 fp_12_7 rfl (by decide) rfl t_X12_denies_2 hD (fun w1 hD => ?_)
  refine g_aload_n h 0 t_X12_denies_5 rfl ?_
  refine g_getI h 119 46 fl_12_366 rfl (by decide) rfl t_X12_denies_6 ?_
  refine g_bdI hD (fun x2 hD => ?_)
  refine g_istore_n (L' := [(1, .int x2), (0, .ref (ρ 119))]) h hn t_X12_denies_9 rfl (by decide) rfl ?_
  refine g_aload_n h 1 t_X12_denies_10 rfl ?_
  refine g_iconst (v := 0) h t_X12_denies_11 (by decide) ?_
  refine g_putI h 119 46 fl_12_366 fp_12_46 rfl (by decide) rfl t_X12_denies_12 hD (fun w3 hD => ?_)
  refine g_iload_n h 0 t_X12_denies_15 rfl ?_
  obtain rfl := Option.some.inj hD
  exact hR _ _ t_X12_denies_16 rfl
def D_X12_fallsBy (p1 : Int32) (p2 : Int32) : Wd → Option (Int32 × Wd) := fun w =>
  bc (D_X12_refuses 120 p2 w) fun x2 w1 => if 0 ≤ x2 then (bd (w1.1 119 2) fun x3 => bd (wI w1 119 2 p1) fun w4 => bv (D_X12_lay 120 129 0 w4) fun w5 => bv (D_X12_goMove 129 p2 w5) fun w6 => bd (wI w6 119 2 x3) fun w7 => some (w7.1 119 21, w7)) else (some ((-1), w1))
set_option maxRecDepth 20000 in
theorem S_X12_fallsBy {l0 : Launch} {ρ : Nat → Nat} {cs : Nat → ClassId} {G : va_G} (hρ : injN ρ) {p1 : Int32} {p2 : Int32} {w : Wd} {rr : (Int32 × Wd)} (hD : D_X12_fallsBy p1 p2 w = some rr) : CtI l0 ρ cs G y_X12_fallsBy prog_14_method_92_code 4 .int 4 [.ref (ρ 119), .int p1, .int p2] w rr.1 rr.2 := by
  refine ctI_of hρ (by decide) (Nat.le_of_ble_eq_true rfl) (fun X hn h hR => ?_)
  unfold D_X12_fallsBy at hD
  show gG ρ cs G X 0 [(0, .ref (ρ 119)), (1, .int p1), (2, .int p2)] [] w
  refine g_aload_n h 0 t_X12_fallsBy_0 rfl ?_
  refine g_aload_n h 0 t_X12_fallsBy_1 rfl ?_
  refine g_getR h 119 0 120 fl_12_9 rfl (by decide) rfl t_X12_fallsBy_2 ?_
  refine g_iload_n h 2 t_X12_fallsBy_5 rfl ?_
  refine g_callVI h 119 (As := [.ref (ρ 120), .int p2]) (st := []) my_X12_refuses mi_X12_refuses ml_12_264 rfl (by decide) rfl rfl rfl (Nat.le_of_ble_eq_true rfl) (by decide) t_X12_fallsBy_6 hD (fun _ _ e => S_X12_refuses hρ (by decide) e) (fun x2 w1 hD => ?_)
  refine g_if_ge (tgt := 14) h t_X12_fallsBy_9 (by decide) hD (fun hD => ?_) (fun hD => ?_)
  · refine g_aload_n h 0 t_X12_fallsBy_14 rfl ?_
    refine g_getI h 119 2 fl_12_17 rfl (by decide) rfl t_X12_fallsBy_15 ?_
    refine g_bdI hD (fun x3 hD => ?_)
    refine g_istore_n (L' := [(3, .int x3), (0, .ref (ρ 119)), (1, .int p1), (2, .int p2)]) h hn t_X12_fallsBy_18 rfl (by decide) rfl ?_
    refine g_aload_n h 1 t_X12_fallsBy_19 rfl ?_
    refine g_iload_n h 2 t_X12_fallsBy_20 rfl ?_
    refine g_putI h 119 2 fl_12_17 fp_12_2 rfl (by decide) rfl t_X12_fallsBy_21 hD (fun w4 hD => ?_)
    refine g_aload_n h 1 t_X12_fallsBy_24 rfl ?_
    refine g_getR h 119 0 120 fl_12_9 rfl (by decide) rfl t_X12_fallsBy_25 ?_
    refine g_aload_n h 1 t_X12_fallsBy_28 rfl ?_
    refine g_getR h 119 25 129 fl_12_46 rfl (by decide) rfl t_X12_fallsBy_29 ?_
    refine g_iconst (v := 0) h t_X12_fallsBy_32 (by decide) ?_
    refine g_callSV h (As := [.ref (ρ 120), .ref (ρ 129), .int 0]) (st := []) my_X12_lay ms_X12_lay ml_12_256 rfl rfl (Nat.le_of_ble_eq_true rfl) (by decide) t_X12_fallsBy_33 hD (fun _ e => S_X12_lay hρ (by decide) (by decide) e) (fun w5 hD => ?_)
    refine g_aload_n h 1 t_X12_fallsBy_36 rfl ?_
    refine g_aload_n h 1 t_X12_fallsBy_37 rfl ?_
    refine g_getR h 119 25 129 fl_12_46 rfl (by decide) rfl t_X12_fallsBy_38 ?_
    refine g_iload_n h 3 t_X12_fallsBy_41 rfl ?_
    refine g_callVV h 119 (As := [.ref (ρ 129), .int p2]) (st := []) my_X12_goMove mi_X12_goMove ml_12_272 rfl (by decide) rfl rfl rfl (Nat.le_of_ble_eq_true rfl) (by decide) t_X12_fallsBy_42 hD (fun _ e => S_X12_goMove hρ (by decide) e) (fun w6 hD => ?_)
    refine g_aload_n h 1 t_X12_fallsBy_45 rfl ?_
    refine g_iload_n h 0 t_X12_fallsBy_46 rfl ?_
    refine g_putI h 119 2 fl_12_17 fp_12_2 rfl (by decide) rfl t_X12_fallsBy_47 hD (fun w7 hD => ?_)
    refine g_aload_n h 1 t_X12_fallsBy_50 rfl ?_
    refine g_getI h 119 21 fl_12_233 rfl (by decide) rfl t_X12_fallsBy_51 ?_
    obtain rfl := Option.some.inj hD
    exact hR _ _ t_X12_fallsBy_54 rfl
  · refine g_iconst (v := (-1)) h t_X12_fallsBy_12 (by decide) ?_
    obtain rfl := Option.some.inj hD
    exact hR _ _ t_X12_fallsBy_13 rfl
def J_X12_layLaws_j65_1 (k15 : Int32 → Wd → Option (Int32 × Wd)) : Wd → Option (Int32 × Wd) := fun w18 =>
  k15 0 w18
def J_X12_layLaws_j66_2 (r19 : Int32 → Wd → Option (Int32 × Wd)) (x8 : Int32) (x11 : Int32) : Int32 → Wd → Option (Int32 × Wd) := fun x13 w14 =>
  if ib x8 64 then bd (wI w14 156 x8.toNatClampNeg (vp_nar .boolean x13)) (fun w16 => bd (x11 + 1) fun x17 => r19 x17 w16) else none
def L_X12_layLaws_19 (x7 : Int32) (x8 : Int32) (k9 : Wd → Option (Int32 × Wd)) : Nat → Int32 → Wd → Option (Int32 × Wd)
  | 0, _, _ => none
  | n10 + 1, x11, w12 =>
    if (w12.1 119 46) ≤ x11 then (k9 w12) else (if ib x8 64 then (bd (J_X12_layLaws_j66_2 (L_X12_layLaws_19 x7 x8 k9 n10) x8 x11) fun k15 => bd (J_X12_layLaws_j65_1 k15) fun k19 => if (w12.1 156 x8.toNatClampNeg) = 0 then (k19 w12) else (if ib x11 10 then (bc (D_X12_fallsBy x8 (w12.1 154 x11.toNatClampNeg) w12) fun x21 w20 => if ib x11 10 then (if x21 = (w20.1 155 x11.toNatClampNeg) then (k15 1 w20) else (k19 w20)) else none) else none)) else none)
def J_X12_layLaws_j88_3 (r4 : Int32 → Int32 → Wd → Option (Int32 × Wd)) (x3 : Int32) (x4 : Int32) : Int32 → Wd → Option (Int32 × Wd) := fun x23 w24 =>
  bd (x3 + x23) fun x26 => bd (x4 + 1) fun x27 => r4 x26 x27 w24
def J_X12_layLaws_x73_4 (r4 : Int32 → Int32 → Wd → Option (Int32 × Wd)) (x4 : Int32) (x3 : Int32) : Wd → Option (Int32 × Wd) := fun w22 =>
  if ib x4 64 then (bd (J_X12_layLaws_j88_3 (r4) x3 x4) fun k25 => if (w22.1 156 x4.toNatClampNeg) = 0 then (k25 0 w22) else (k25 1 w22)) else none
def L_X12_layLaws_4 (k1 : Int32 → Wd → Option (Int32 × Wd)) : Nat → Int32 → Int32 → Wd → Option (Int32 × Wd)
  | 0, _, _, _ => none
  | n2 + 1, x3, x4, w5 =>
    if 64 ≤ x4 then (k1 x3 w5) else (if ib x4 64 then bd (wI w5 156 x4.toNatClampNeg (vp_nar .boolean 1)) (fun w6 => L_X12_layLaws_19 x3 x4 (J_X12_layLaws_x73_4 (L_X12_layLaws_4 k1 n2) x4 x3) FU 0 w6) else none)
def J_X12_layLaws_x96_5  : Int32 → Wd → Option (Int32 × Wd) := fun x28 w29 =>
  some (x28, w29)
def D_X12_layLaws  : Wd → Option (Int32 × Wd) := fun w =>
  L_X12_layLaws_4 J_X12_layLaws_x96_5 FU 0 0 w
set_option maxRecDepth 20000 in
theorem Q_X12_layLaws_19 {l0 : Launch} {ρ : Nat → Nat} {cs : Nat → ClassId} {G : va_G} {X : Cx} (hρ : injN ρ) (hn : X.2.2.2.2.2.2.2.2.2.2.1 = 4) (h : Okx l0 ρ cs G X prog_14_method_93_code "SowingBoardsModel" 5) {rr : (Int32 × Wd)} (hR : ∀ pc L, decode prog_14_method_93_code pc = .ok (.ireturn, 1) → narrow .int (.int rr.1) = .int rr.1 → gG ρ cs G X pc L [.int rr.1] rr.2) {x7 : Int32} {x8 : Int32} {k9 : Wd → Option (Int32 × Wd)} (hk9 : ∀ (w1 : Wd), k9 w1 = some rr → gG ρ cs G X 73 [(0, .ref (ρ 119)), (1, .int x7), (2, .int x8)] [] w1) : ∀ (n : Nat) (x11 : Int32) (w : Wd), L_X12_layLaws_19 x7 x8 k9 n x11 w = some rr → gG ρ cs G X 19 [(0, .ref (ρ 119)), (1, .int x7), (2, .int x8), (3, .int x11)] [] w := by
  intro n
  induction n with
  | zero =>
    intro x11 w hD
    cases hD
  | succ n10 ih =>
    intro x11 w12 hD
    unfold L_X12_layLaws_19 at hD
    refine g_iload_n h 3 t_X12_layLaws_19 rfl ?_
    refine g_aload_n h 0 t_X12_layLaws_20 rfl ?_
    refine g_getI h 119 46 fl_12_366 rfl (by decide) rfl t_X12_layLaws_21 ?_
    refine g_icmp_ge (tgt := 73) h t_X12_layLaws_24 (by decide) hD (fun hD => ?_) (fun hD => ?_)
    · refine g_loc (L' := [(0, .ref (ρ 119)), (1, .int x7), (2, .int x8)]) h [0, 1, 2] rfl ?_
      exact hk9 _ hD
    · refine g_aload_n h 0 t_X12_layLaws_27 rfl ?_
      refine g_getR h 119 47 156 fl_12_93 rfl (by decide) rfl t_X12_layLaws_28 ?_
      refine g_iload_n h 2 t_X12_layLaws_31 rfl ?_
      refine g_aload_n h 0 t_X12_layLaws_32 rfl ?_
      refine g_getR h 119 47 156 fl_12_93 rfl (by decide) rfl t_X12_layLaws_33 ?_
      refine g_iload_n h 2 t_X12_layLaws_36 rfl ?_
      refine g_zald h 156 rfl (by decide) t_X12_layLaws_37 hD (fun hD => ?_)
      refine g_join (P := fun k15 => ∀ (x13 : Int32) (w14 : Wd), k15 x13 w14 = some rr → gG ρ cs G X 66 [(0, .ref (ρ 119)), (1, .int x7), (2, .int x8), (3, .int x11)] [.int x13, .int x8, .ref (ρ 156)] w14) hD ?_ (fun k15 hk15 hD => ?_)
      · intro x13 w14 hD
        unfold J_X12_layLaws_j66_2 at hD
        refine g_zast h 156 rfl (by decide) t_X12_layLaws_66 hD (fun w16 hD => ?_)
        obtain ⟨x17, ex17, hD⟩ := bd_ex hD
        refine g_iinc (v := x17) (L' := [(3, .int x17), (0, .ref (ρ 119)), (1, .int x7), (2, .int x8)]) h hn t_X12_layLaws_67 (k := 3) rfl (by rw [ex17]; rfl) (by decide) rfl ?_
        refine g_goto (tgt := 19) h t_X12_layLaws_70 (by decide) ?_
        refine g_loc (L' := [(0, .ref (ρ 119)), (1, .int x7), (2, .int x8), (3, .int x17)]) h [1, 2, 3, 0] rfl ?_
        exact ih x17 _ hD
      · refine g_join (P := fun k19 => ∀ (w18 : Wd), k19 w18 = some rr → gG ρ cs G X 65 [(0, .ref (ρ 119)), (1, .int x7), (2, .int x8), (3, .int x11)] [.int x8, .ref (ρ 156)] w18) hD ?_ (fun k19 hk19 hD => ?_)
        · intro w18 hD
          unfold J_X12_layLaws_j65_1 at hD
          refine g_iconst (v := 0) h t_X12_layLaws_65 (by decide) ?_
          refine g_loc (L' := [(0, .ref (ρ 119)), (1, .int x7), (2, .int x8), (3, .int x11)]) h [0, 1, 2, 3] rfl ?_
          exact hk15 0 _ hD
        · refine g_if_eq (tgt := 65) h t_X12_layLaws_38 (by decide) hD (fun hD => ?_) (fun hD => ?_)
          · refine g_loc (L' := [(0, .ref (ρ 119)), (1, .int x7), (2, .int x8), (3, .int x11)]) h [0, 1, 2, 3] rfl ?_
            exact hk19 _ hD
          · refine g_aload_n h 0 t_X12_layLaws_41 rfl ?_
            refine g_iload_n h 2 t_X12_layLaws_42 rfl ?_
            refine g_aload_n h 0 t_X12_layLaws_43 rfl ?_
            refine g_getR h 119 44 154 fl_12_87 rfl (by decide) rfl t_X12_layLaws_44 ?_
            refine g_iload_n h 3 t_X12_layLaws_47 rfl ?_
            refine g_iald h 154 rfl (by decide) t_X12_layLaws_48 hD (fun hD => ?_)
            refine g_callVI h 119 (As := [.int x8, .int (w12.1 154 x11.toNatClampNeg)]) (st := [.int x8, .ref (ρ 156)]) my_X12_fallsBy mi_X12_fallsBy ml_12_369 rfl (by decide) rfl rfl rfl (Nat.le_of_ble_eq_true rfl) (by decide) t_X12_layLaws_49 hD (fun _ _ e => S_X12_fallsBy hρ  e) (fun x21 w20 hD => ?_)
            refine g_aload_n h 0 t_X12_layLaws_52 rfl ?_
            refine g_getR h 119 45 155 fl_12_90 rfl (by decide) rfl t_X12_layLaws_53 ?_
            refine g_iload_n h 3 t_X12_layLaws_56 rfl ?_
            refine g_iald h 155 rfl (by decide) t_X12_layLaws_57 hD (fun hD => ?_)
            refine g_icmp_ne (tgt := 65) h t_X12_layLaws_58 (by decide) hD (fun hD => ?_) (fun hD => ?_)
            · refine g_loc (L' := [(0, .ref (ρ 119)), (1, .int x7), (2, .int x8), (3, .int x11)]) h [0, 1, 2, 3] rfl ?_
              exact hk19 _ hD
            · refine g_iconst (v := 1) h t_X12_layLaws_61 (by decide) ?_
              refine g_goto (tgt := 66) h t_X12_layLaws_62 (by decide) ?_
              refine g_loc (L' := [(0, .ref (ρ 119)), (1, .int x7), (2, .int x8), (3, .int x11)]) h [0, 1, 2, 3] rfl ?_
              exact hk15 1 _ hD
set_option maxRecDepth 20000 in
theorem Q_X12_layLaws_4 {l0 : Launch} {ρ : Nat → Nat} {cs : Nat → ClassId} {G : va_G} {X : Cx} (hρ : injN ρ) (hn : X.2.2.2.2.2.2.2.2.2.2.1 = 4) (h : Okx l0 ρ cs G X prog_14_method_93_code "SowingBoardsModel" 5) {rr : (Int32 × Wd)} (hR : ∀ pc L, decode prog_14_method_93_code pc = .ok (.ireturn, 1) → narrow .int (.int rr.1) = .int rr.1 → gG ρ cs G X pc L [.int rr.1] rr.2)  {k1 : Int32 → Wd → Option (Int32 × Wd)} (hk1 : ∀ (z1 : Int32) (w1 : Wd), k1 z1 w1 = some rr → gG ρ cs G X 96 [(1, .int z1)] [] w1) : ∀ (n : Nat) (x3 : Int32) (x4 : Int32) (w : Wd), L_X12_layLaws_4 k1 n x3 x4 w = some rr → gG ρ cs G X 4 [(0, .ref (ρ 119)), (1, .int x3), (2, .int x4)] [] w := by
  intro n
  induction n with
  | zero =>
    intro x3 x4 w hD
    cases hD
  | succ n2 ih =>
    intro x3 x4 w5 hD
    unfold L_X12_layLaws_4 at hD
    refine g_iload_n h 2 t_X12_layLaws_4 rfl ?_
    refine g_bipush (v := 64) h t_X12_layLaws_5 (by decide) ?_
    refine g_icmp_ge (tgt := 96) h t_X12_layLaws_7 (by decide) hD (fun hD => ?_) (fun hD => ?_)
    · refine g_loc (L' := [(1, .int x3)]) h [1] rfl ?_
      exact hk1 x3 _ hD
    · refine g_aload_n h 0 t_X12_layLaws_10 rfl ?_
      refine g_getR h 119 47 156 fl_12_93 rfl (by decide) rfl t_X12_layLaws_11 ?_
      refine g_iload_n h 2 t_X12_layLaws_14 rfl ?_
      refine g_iconst (v := 1) h t_X12_layLaws_15 (by decide) ?_
      refine g_zast h 156 rfl (by decide) t_X12_layLaws_16 hD (fun w6 hD => ?_)
      refine g_iconst (v := 0) h t_X12_layLaws_17 (by decide) ?_
      refine g_istore_n (L' := [(3, .int 0), (0, .ref (ρ 119)), (1, .int x3), (2, .int x4)]) h hn t_X12_layLaws_18 rfl (by decide) rfl ?_
      refine g_loc (L' := [(0, .ref (ρ 119)), (1, .int x3), (2, .int x4), (3, .int 0)]) h [1, 2, 3, 0] rfl ?_
      refine Q_X12_layLaws_19 hρ hn h hR  ?_ _ _ _ hD
      · intro w22 hD
        unfold J_X12_layLaws_x73_4 at hD
        refine g_iload_n h 1 t_X12_layLaws_73 rfl ?_
        refine g_aload_n h 0 t_X12_layLaws_74 rfl ?_
        refine g_getR h 119 47 156 fl_12_93 rfl (by decide) rfl t_X12_layLaws_75 ?_
        refine g_iload_n h 2 t_X12_layLaws_78 rfl ?_
        refine g_zald h 156 rfl (by decide) t_X12_layLaws_79 hD (fun hD => ?_)
        refine g_join (P := fun k25 => ∀ (x23 : Int32) (w24 : Wd), k25 x23 w24 = some rr → gG ρ cs G X 88 [(0, .ref (ρ 119)), (2, .int x4)] [.int x23, .int x3] w24) hD ?_ (fun k25 hk25 hD => ?_)
        · intro x23 w24 hD
          unfold J_X12_layLaws_j88_3 at hD
          refine g_iadd h t_X12_layLaws_88 ?_
          refine g_bdI hD (fun x26 hD => ?_)
          refine g_istore_n (L' := [(1, .int x26), (0, .ref (ρ 119)), (2, .int x4)]) h hn t_X12_layLaws_89 rfl (by decide) rfl ?_
          obtain ⟨x27, ex27, hD⟩ := bd_ex hD
          refine g_iinc (v := x27) (L' := [(2, .int x27), (1, .int x26), (0, .ref (ρ 119))]) h hn t_X12_layLaws_90 (k := 2) rfl (by rw [ex27]; rfl) (by decide) rfl ?_
          refine g_goto (tgt := 4) h t_X12_layLaws_93 (by decide) ?_
          refine g_loc (L' := [(0, .ref (ρ 119)), (1, .int x26), (2, .int x27)]) h [2, 1, 0] rfl ?_
          exact ih x26 x27 _ hD
        · refine g_if_eq (tgt := 87) h t_X12_layLaws_80 (by decide) hD (fun hD => ?_) (fun hD => ?_)
          · refine g_iconst (v := 0) h t_X12_layLaws_87 (by decide) ?_
            refine g_loc (L' := [(0, .ref (ρ 119)), (2, .int x4)]) h [0, 2] rfl ?_
            exact hk25 0 _ hD
          · refine g_iconst (v := 1) h t_X12_layLaws_83 (by decide) ?_
            refine g_goto (tgt := 88) h t_X12_layLaws_84 (by decide) ?_
            refine g_loc (L' := [(0, .ref (ρ 119)), (2, .int x4)]) h [0, 2] rfl ?_
            exact hk25 1 _ hD
set_option maxRecDepth 20000 in
theorem S_X12_layLaws {l0 : Launch} {ρ : Nat → Nat} {cs : Nat → ClassId} {G : va_G} (hρ : injN ρ)  {w : Wd} {rr : (Int32 × Wd)} (hD : D_X12_layLaws w = some rr) : CtI l0 ρ cs G y_X12_layLaws prog_14_method_93_code 4 .int 5 [.ref (ρ 119)] w rr.1 rr.2 := by
  refine ctI_of hρ (by decide) (Nat.le_of_ble_eq_true rfl) (fun X hn h hR => ?_)
  unfold D_X12_layLaws at hD
  show gG ρ cs G X 0 [(0, .ref (ρ 119))] [] w
  refine g_iconst (v := 0) h t_X12_layLaws_0 (by decide) ?_
  refine g_istore_n (L' := [(1, .int 0), (0, .ref (ρ 119))]) h hn t_X12_layLaws_1 rfl (by decide) rfl ?_
  refine g_iconst (v := 0) h t_X12_layLaws_2 (by decide) ?_
  refine g_istore_n (L' := [(2, .int 0), (1, .int 0), (0, .ref (ρ 119))]) h hn t_X12_layLaws_3 rfl (by decide) rfl ?_
  refine g_loc (L' := [(0, .ref (ρ 119)), (1, .int 0), (2, .int 0)]) h [2, 1, 0] rfl ?_
  refine Q_X12_layLaws_4 hρ hn h hR  ?_ _ _ _ _ hD
  · intro x28 w29 hD
    unfold J_X12_layLaws_x96_5 at hD
    refine g_iload_n h 0 t_X12_layLaws_96 rfl ?_
    obtain rfl := Option.some.inj hD
    exact hR _ _ t_X12_layLaws_97 rfl
def J_X12_guess_j49_1 (x8 : Int32) (x9 : Int32) (k14 : Int32 → Int32 → Wd → Option (Int32 × Wd)) : Int32 → Wd → Option (Int32 × Wd) := fun x16 w17 =>
  bd (x8 &&& x9) fun x19 => k14 x16 x19 w17
def J_X12_guess_j55_2 (r18 : Int32 → Int32 → Int32 → Wd → Option (Int32 × Wd)) (x9 : Int32) : Int32 → Int32 → Wd → Option (Int32 × Wd) := fun x11 x12 w13 =>
  bd (x9 + 1) fun x15 => r18 x11 x12 x15 w13
def L_X12_guess_18 (x4 : Int32) (k5 : Int32 → Int32 → Wd → Option (Int32 × Wd)) : Nat → Int32 → Int32 → Int32 → Wd → Option (Int32 × Wd)
  | 0, _, _, _, _ => none
  | n6 + 1, x7, x8, x9, w10 =>
    if 64 ≤ x9 then (k5 x7 x8 w10) else (if ib x9 64 then (bd (J_X12_guess_j55_2 (L_X12_guess_18 x4 k5 n6) x9) fun k14 => if (w10.1 156 x9.toNatClampNeg) = 0 then (k14 x7 x8 w10) else (bd (J_X12_guess_j49_1 x8 x9 k14) fun k18 => if x7 = (-1) then (k18 x9 w10) else (k18 x7 w10))) else none)
def J_X12_guess_x61_3 (x3 : Int32) : Int32 → Int32 → Wd → Option (Int32 × Wd) := fun x20 x21 w22 =>
  bd (wI w22 119 6 0) fun w23 => if x3 ≤ 0 then (some (x3, w23)) else (bv (D_X12_tell x20.toInt64 w23) fun w24 => bv (D_X12_tell x21.toInt64 w24) fun w25 => some (x3, w25))
def D_X12_guess  : Wd → Option (Int32 × Wd) := fun w =>
  bd (wI w 119 7 0) fun w1 => bc (D_X12_layLaws w1) fun x3 w2 => L_X12_guess_18 x3 (J_X12_guess_x61_3 x3) FU (-1) 63 0 w2
set_option maxRecDepth 20000 in
theorem Q_X12_guess_18 {l0 : Launch} {ρ : Nat → Nat} {cs : Nat → ClassId} {G : va_G} {X : Cx} (hρ : injN ρ) (hn : X.2.2.2.2.2.2.2.2.2.2.1 = 5) (h : Okx l0 ρ cs G X prog_14_method_94_code "SowingBoardsModel" 6) {rr : (Int32 × Wd)} (hR : ∀ pc L, decode prog_14_method_94_code pc = .ok (.ireturn, 1) → narrow .int (.int rr.1) = .int rr.1 → gG ρ cs G X pc L [.int rr.1] rr.2) {x4 : Int32} {k5 : Int32 → Int32 → Wd → Option (Int32 × Wd)} (hk5 : ∀ (z2 : Int32) (z3 : Int32) (w1 : Wd), k5 z2 z3 w1 = some rr → gG ρ cs G X 61 [(0, .ref (ρ 119)), (1, .int x4), (2, .int z2), (3, .int z3)] [] w1) : ∀ (n : Nat) (x7 : Int32) (x8 : Int32) (x9 : Int32) (w : Wd), L_X12_guess_18 x4 k5 n x7 x8 x9 w = some rr → gG ρ cs G X 18 [(0, .ref (ρ 119)), (1, .int x4), (2, .int x7), (3, .int x8), (4, .int x9)] [] w := by
  intro n
  induction n with
  | zero =>
    intro x7 x8 x9 w hD
    cases hD
  | succ n6 ih =>
    intro x7 x8 x9 w10 hD
    unfold L_X12_guess_18 at hD
    refine g_iload h 4 t_X12_guess_18 rfl ?_
    refine g_bipush (v := 64) h t_X12_guess_20 (by decide) ?_
    refine g_icmp_ge (tgt := 61) h t_X12_guess_22 (by decide) hD (fun hD => ?_) (fun hD => ?_)
    · refine g_loc (L' := [(0, .ref (ρ 119)), (1, .int x4), (2, .int x7), (3, .int x8)]) h [0, 1, 2, 3] rfl ?_
      exact hk5 x7 x8 _ hD
    · refine g_aload_n h 0 t_X12_guess_25 rfl ?_
      refine g_getR h 119 47 156 fl_12_93 rfl (by decide) rfl t_X12_guess_26 ?_
      refine g_iload h 4 t_X12_guess_29 rfl ?_
      refine g_zald h 156 rfl (by decide) t_X12_guess_31 hD (fun hD => ?_)
      refine g_join (P := fun k14 => ∀ (x11 : Int32) (x12 : Int32) (w13 : Wd), k14 x11 x12 w13 = some rr → gG ρ cs G X 55 [(0, .ref (ρ 119)), (1, .int x4), (2, .int x11), (3, .int x12), (4, .int x9)] [] w13) hD ?_ (fun k14 hk14 hD => ?_)
      · intro x11 x12 w13 hD
        unfold J_X12_guess_j55_2 at hD
        obtain ⟨x15, ex15, hD⟩ := bd_ex hD
        refine g_iinc (v := x15) (L' := [(4, .int x15), (0, .ref (ρ 119)), (1, .int x4), (2, .int x11), (3, .int x12)]) h hn t_X12_guess_55 (k := 4) rfl (by rw [ex15]; rfl) (by decide) rfl ?_
        refine g_goto (tgt := 18) h t_X12_guess_58 (by decide) ?_
        refine g_loc (L' := [(0, .ref (ρ 119)), (1, .int x4), (2, .int x11), (3, .int x12), (4, .int x15)]) h [1, 2, 3, 4, 0] rfl ?_
        exact ih x11 x12 x15 _ hD
      · refine g_if_ne (tgt := 38) h t_X12_guess_32 (by decide) hD (fun hD => ?_) (fun hD => ?_)
        · refine g_iload_n h 2 t_X12_guess_38 rfl ?_
          refine g_iconst (v := (-1)) h t_X12_guess_39 (by decide) ?_
          refine g_join (P := fun k18 => ∀ (x16 : Int32) (w17 : Wd), k18 x16 w17 = some rr → gG ρ cs G X 49 [(0, .ref (ρ 119)), (1, .int x4), (3, .int x8), (4, .int x9)] [.int x16] w17) hD ?_ (fun k18 hk18 hD => ?_)
          · intro x16 w17 hD
            unfold J_X12_guess_j49_1 at hD
            refine g_istore_n (L' := [(2, .int x16), (0, .ref (ρ 119)), (1, .int x4), (3, .int x8), (4, .int x9)]) h hn t_X12_guess_49 rfl (by decide) rfl ?_
            refine g_iload_n h 3 t_X12_guess_50 rfl ?_
            refine g_iload h 4 t_X12_guess_51 rfl ?_
            refine g_iand h t_X12_guess_53 ?_
            refine g_bdI hD (fun x19 hD => ?_)
            refine g_istore_n (L' := [(3, .int x19), (2, .int x16), (0, .ref (ρ 119)), (1, .int x4), (4, .int x9)]) h hn t_X12_guess_54 rfl (by decide) rfl ?_
            refine g_loc (L' := [(0, .ref (ρ 119)), (1, .int x4), (2, .int x16), (3, .int x19), (4, .int x9)]) h [2, 3, 1, 0, 4] rfl ?_
            exact hk14 x16 x19 _ hD
          · refine g_icmp_ne (tgt := 48) h t_X12_guess_40 (by decide) hD (fun hD => ?_) (fun hD => ?_)
            · refine g_iload_n h 2 t_X12_guess_48 rfl ?_
              refine g_loc (L' := [(0, .ref (ρ 119)), (1, .int x4), (3, .int x8), (4, .int x9)]) h [0, 1, 3, 4] rfl ?_
              exact hk18 x7 _ hD
            · refine g_iload h 4 t_X12_guess_43 rfl ?_
              refine g_goto (tgt := 49) h t_X12_guess_45 (by decide) ?_
              refine g_loc (L' := [(0, .ref (ρ 119)), (1, .int x4), (3, .int x8), (4, .int x9)]) h [0, 1, 3, 4] rfl ?_
              exact hk18 x9 _ hD
        · refine g_goto (tgt := 55) h t_X12_guess_35 (by decide) ?_
          refine g_loc (L' := [(0, .ref (ρ 119)), (1, .int x4), (2, .int x7), (3, .int x8), (4, .int x9)]) h [0, 1, 2, 3, 4] rfl ?_
          exact hk14 x7 x8 _ hD
set_option maxRecDepth 20000 in
theorem S_X12_guess {l0 : Launch} {ρ : Nat → Nat} {cs : Nat → ClassId} {G : va_G} (hρ : injN ρ)  {w : Wd} {rr : (Int32 × Wd)} (hD : D_X12_guess w = some rr) : CtI l0 ρ cs G y_X12_guess prog_14_method_94_code 5 .int 6 [.ref (ρ 119)] w rr.1 rr.2 := by
  refine ctI_of hρ (by decide) (Nat.le_of_ble_eq_true rfl) (fun X hn h hR => ?_)
  unfold D_X12_guess at hD
  show gG ρ cs G X 0 [(0, .ref (ρ 119))] [] w
  refine g_aload_n h 0 t_X12_guess_0 rfl ?_
  refine g_iconst (v := 0) h t_X12_guess_1 (by decide) ?_
  refine g_putI h 119 7 fl_12_109 fp_12_7 rfl (by decide) rfl t_X12_guess_2 hD (fun w1 hD => ?_)
  refine g_aload_n h 0 t_X12_guess_5 rfl ?_
  refine g_callVI h 119 (As := []) (st := []) my_X12_layLaws mi_X12_layLaws ml_12_372 rfl (by decide) rfl rfl rfl (Nat.le_of_ble_eq_true rfl) (by decide) t_X12_guess_6 hD (fun _ _ e => S_X12_layLaws hρ  e) (fun x3 w2 hD => ?_)
  refine g_istore_n (L' := [(1, .int x3), (0, .ref (ρ 119))]) h hn t_X12_guess_9 rfl (by decide) rfl ?_
  refine g_iconst (v := (-1)) h t_X12_guess_10 (by decide) ?_
  refine g_istore_n (L' := [(2, .int (-1)), (1, .int x3), (0, .ref (ρ 119))]) h hn t_X12_guess_11 rfl (by decide) rfl ?_
  refine g_bipush (v := 63) h t_X12_guess_12 (by decide) ?_
  refine g_istore_n (L' := [(3, .int 63), (2, .int (-1)), (1, .int x3), (0, .ref (ρ 119))]) h hn t_X12_guess_14 rfl (by decide) rfl ?_
  refine g_iconst (v := 0) h t_X12_guess_15 (by decide) ?_
  refine g_istore (L' := [(4, .int 0), (3, .int 63), (2, .int (-1)), (1, .int x3), (0, .ref (ρ 119))]) h hn t_X12_guess_16 (by decide) rfl ?_
  refine g_loc (L' := [(0, .ref (ρ 119)), (1, .int x3), (2, .int (-1)), (3, .int 63), (4, .int 0)]) h [4, 3, 2, 1, 0] rfl ?_
  refine Q_X12_guess_18 hρ hn h hR  ?_ _ _ _ _ _ hD
  · intro x20 x21 w22 hD
    unfold J_X12_guess_x61_3 at hD
    refine g_aload_n h 0 t_X12_guess_61 rfl ?_
    refine g_iconst (v := 0) h t_X12_guess_62 (by decide) ?_
    refine g_putI h 119 6 fl_12_112 fp_12_6 rfl (by decide) rfl t_X12_guess_63 hD (fun w23 hD => ?_)
    refine g_iload_n h 1 t_X12_guess_66 rfl ?_
    refine g_if_le (tgt := 82) h t_X12_guess_67 (by decide) hD (fun hD => ?_) (fun hD => ?_)
    · refine g_iload_n h 1 t_X12_guess_82 rfl ?_
      obtain rfl := Option.some.inj hD
      exact hR _ _ t_X12_guess_83 rfl
    · refine g_aload_n h 0 t_X12_guess_70 rfl ?_
      refine g_iload_n h 2 t_X12_guess_71 rfl ?_
      refine g_i2l h t_X12_guess_72 ?_
      refine g_callVV h 119 (As := [.long x20.toInt64]) (st := []) my_X12_tell mi_X12_tell ml_12_260 rfl (by decide) rfl rfl rfl (Nat.le_of_ble_eq_true rfl) (by decide) t_X12_guess_73 hD (fun _ e => S_X12_tell hρ  e) (fun w24 hD => ?_)
      refine g_aload_n h 0 t_X12_guess_76 rfl ?_
      refine g_iload_n h 3 t_X12_guess_77 rfl ?_
      refine g_i2l h t_X12_guess_78 ?_
      refine g_callVV h 119 (As := [.long x21.toInt64]) (st := []) my_X12_tell mi_X12_tell ml_12_260 rfl (by decide) rfl rfl rfl (Nat.le_of_ble_eq_true rfl) (by decide) t_X12_guess_79 hD (fun _ e => S_X12_tell hρ  e) (fun w25 hD => ?_)
      refine g_iload_n h 1 t_X12_guess_82 rfl ?_
      obtain rfl := Option.some.inj hD
      exact hR _ _ t_X12_guess_83 rfl
def L_X12_tries_63 (x19 : Int32) (x20 : Int32) (x21 : Int32) (k22 : Wd → Option (Int32 × Wd)) : Nat → Int32 → Wd → Option (Int32 × Wd)
  | 0, _, _ => none
  | n23 + 1, x24, w25 =>
    if 50 < x24 then (k22 w25) else (if ib x24 51 then bd (wI w25 157 x24.toNatClampNeg 0) (fun w26 => bd (x24 + 1) fun x27 => L_X12_tries_63 x19 x20 x21 k22 n23 x27 w26) else none)
def J_X12_tries_j141_1 (r87 : Int32 → Int32 → Wd → Option (Int32 × Wd)) (x35 : Int32) : Int32 → Wd → Option (Int32 × Wd) := fun x37 w38 =>
  bd (x35 + 1) fun x40 => r87 x37 x40 w38
def L_X12_tries_87 (x29 : Int32) (x30 : Int32) (x31 : Int32) (k32 : Int32 → Wd → Option (Int32 × Wd)) : Nat → Int32 → Int32 → Wd → Option (Int32 × Wd)
  | 0, _, _, _ => none
  | n33 + 1, x34, x35, w36 =>
    if 64 ≤ x35 then (k32 x34 w36) else (if ib x35 64 then (bd (J_X12_tries_j141_1 (L_X12_tries_87 x29 x30 x31 k32 n33) x35) fun k39 => if (w36.1 156 x35.toNatClampNeg) = 0 then (k39 x34 w36) else (bc (D_X12_fallsBy x35 x31 w36) fun x42 w41 => if ib x42 51 then (if ib x42 51 then bd (wI w41 157 x42.toNatClampNeg ((w41.1 157 x42.toNatClampNeg) + 1)) (fun w43 => if ib x42 51 then (bd (imax x34 (w43.1 157 x42.toNatClampNeg)) fun x44 => k39 x44 w43) else none) else none) else none)) else none)
def J_X12_tries_x147_2 (x9 : Int32) (k17 : Int32 → Int32 → Wd → Option (Int32 × Wd)) (x10 : Int32) (x8 : Int32) : Int32 → Wd → Option (Int32 × Wd) := fun x45 w46 =>
  if x45 < x9 then (k17 x10 x45 w46) else (k17 x8 x9 w46)
def J_X12_tries_x84_3 (x8 : Int32) (x9 : Int32) (x10 : Int32) (k17 : Int32 → Int32 → Wd → Option (Int32 × Wd)) : Wd → Option (Int32 × Wd) := fun w28 =>
  L_X12_tries_87 x8 x9 x10 (J_X12_tries_x147_2 x9 k17 x10 x8) FU 0 0 w28
def J_X12_tries_j161_4 (r34 : Int32 → Int32 → Int32 → Wd → Option (Int32 × Wd)) (x10 : Int32) : Int32 → Int32 → Wd → Option (Int32 × Wd) := fun x14 x15 w16 =>
  bd (x10 + 1) fun x18 => r34 x14 x15 x18 w16
def L_X12_tries_34 (k6 : Int32 → Int32 → Wd → Option (Int32 × Wd)) : Nat → Int32 → Int32 → Int32 → Wd → Option (Int32 × Wd)
  | 0, _, _, _, _ => none
  | n7 + 1, x8, x9, x10, w11 =>
    if (w11.1 119 1) ≤ x10 then (k6 x8 x9 w11) else (bc (D_X12_refuses 120 x10 w11) fun x13 w12 => bd (J_X12_tries_j161_4 (L_X12_tries_34 k6 n7) x10) fun k17 => if 0 ≤ x13 then (L_X12_tries_63 x8 x9 x10 (J_X12_tries_x84_3 x8 x9 x10 k17) FU 0 w12) else (k17 x8 x9 w12))
def J_X12_tries_x167_5  : Int32 → Int32 → Wd → Option (Int32 × Wd) := fun x47 x48 w49 =>
  bd (wI w49 119 6 0) fun w50 => bv (D_X12_tell x48.toInt64 w50) fun w51 => some (x47, w51)
def D_X12_tries  : Wd → Option (Int32 × Wd) := fun w =>
  bd (wI w 119 7 0) fun w1 => bc (D_X12_layLaws w1) fun x3 w2 => if x3 = 0 then (some ((-2), w2)) else (bc (D_X12_isOver 120 w2) fun x5 w4 => if x5 = 0 then (L_X12_tries_34 J_X12_tries_x167_5 FU (-1) 1000000 0 w4) else (some ((-2), w4)))
set_option maxRecDepth 20000 in
theorem Q_X12_tries_63 {l0 : Launch} {ρ : Nat → Nat} {cs : Nat → ClassId} {G : va_G} {X : Cx} (hρ : injN ρ) (hn : X.2.2.2.2.2.2.2.2.2.2.1 = 7) (h : Okx l0 ρ cs G X prog_14_method_95_code "SowingBoardsModel" 6) {rr : (Int32 × Wd)} (hR : ∀ pc L, decode prog_14_method_95_code pc = .ok (.ireturn, 1) → narrow .int (.int rr.1) = .int rr.1 → gG ρ cs G X pc L [.int rr.1] rr.2) {x19 : Int32} {x20 : Int32} {x21 : Int32} {k22 : Wd → Option (Int32 × Wd)} (hk22 : ∀ (w1 : Wd), k22 w1 = some rr → gG ρ cs G X 84 [(0, .ref (ρ 119)), (1, .int x19), (2, .int x20), (3, .int x21), (4, .int 0)] [] w1) : ∀ (n : Nat) (x24 : Int32) (w : Wd), L_X12_tries_63 x19 x20 x21 k22 n x24 w = some rr → gG ρ cs G X 63 [(0, .ref (ρ 119)), (1, .int x19), (2, .int x20), (3, .int x21), (4, .int 0), (5, .int x24)] [] w := by
  intro n
  induction n with
  | zero =>
    intro x24 w hD
    cases hD
  | succ n23 ih =>
    intro x24 w25 hD
    unfold L_X12_tries_63 at hD
    refine g_iload h 5 t_X12_tries_63 rfl ?_
    refine g_bipush (v := 50) h t_X12_tries_65 (by decide) ?_
    refine g_icmp_gt (tgt := 84) h t_X12_tries_67 (by decide) hD (fun hD => ?_) (fun hD => ?_)
    · refine g_loc (L' := [(0, .ref (ρ 119)), (1, .int x19), (2, .int x20), (3, .int x21), (4, .int 0)]) h [0, 1, 2, 3, 4] rfl ?_
      exact hk22 _ hD
    · refine g_aload_n h 0 t_X12_tries_70 rfl ?_
      refine g_getR h 119 48 157 fl_12_97 rfl (by decide) rfl t_X12_tries_71 ?_
      refine g_iload h 5 t_X12_tries_74 rfl ?_
      refine g_iconst (v := 0) h t_X12_tries_76 (by decide) ?_
      refine g_iast h 157 rfl (by decide) t_X12_tries_77 hD (fun w26 hD => ?_)
      obtain ⟨x27, ex27, hD⟩ := bd_ex hD
      refine g_iinc (v := x27) (L' := [(5, .int x27), (0, .ref (ρ 119)), (1, .int x19), (2, .int x20), (3, .int x21), (4, .int 0)]) h hn t_X12_tries_78 (k := 5) rfl (by rw [ex27]; rfl) (by decide) rfl ?_
      refine g_goto (tgt := 63) h t_X12_tries_81 (by decide) ?_
      refine g_loc (L' := [(0, .ref (ρ 119)), (1, .int x19), (2, .int x20), (3, .int x21), (4, .int 0), (5, .int x27)]) h [1, 2, 3, 4, 5, 0] rfl ?_
      exact ih x27 _ hD
set_option maxRecDepth 20000 in
theorem Q_X12_tries_87 {l0 : Launch} {ρ : Nat → Nat} {cs : Nat → ClassId} {G : va_G} {X : Cx} (hρ : injN ρ) (hn : X.2.2.2.2.2.2.2.2.2.2.1 = 7) (h : Okx l0 ρ cs G X prog_14_method_95_code "SowingBoardsModel" 6) {rr : (Int32 × Wd)} (hR : ∀ pc L, decode prog_14_method_95_code pc = .ok (.ireturn, 1) → narrow .int (.int rr.1) = .int rr.1 → gG ρ cs G X pc L [.int rr.1] rr.2) {x29 : Int32} {x30 : Int32} {x31 : Int32} {k32 : Int32 → Wd → Option (Int32 × Wd)} (hk32 : ∀ (z4 : Int32) (w1 : Wd), k32 z4 w1 = some rr → gG ρ cs G X 147 [(0, .ref (ρ 119)), (1, .int x29), (2, .int x30), (3, .int x31), (4, .int z4)] [] w1) : ∀ (n : Nat) (x34 : Int32) (x35 : Int32) (w : Wd), L_X12_tries_87 x29 x30 x31 k32 n x34 x35 w = some rr → gG ρ cs G X 87 [(0, .ref (ρ 119)), (1, .int x29), (2, .int x30), (3, .int x31), (4, .int x34), (5, .int x35)] [] w := by
  intro n
  induction n with
  | zero =>
    intro x34 x35 w hD
    cases hD
  | succ n33 ih =>
    intro x34 x35 w36 hD
    unfold L_X12_tries_87 at hD
    refine g_iload h 5 t_X12_tries_87 rfl ?_
    refine g_bipush (v := 64) h t_X12_tries_89 (by decide) ?_
    refine g_icmp_ge (tgt := 147) h t_X12_tries_91 (by decide) hD (fun hD => ?_) (fun hD => ?_)
    · refine g_loc (L' := [(0, .ref (ρ 119)), (1, .int x29), (2, .int x30), (3, .int x31), (4, .int x34)]) h [0, 1, 2, 3, 4] rfl ?_
      exact hk32 x34 _ hD
    · refine g_aload_n h 0 t_X12_tries_94 rfl ?_
      refine g_getR h 119 47 156 fl_12_93 rfl (by decide) rfl t_X12_tries_95 ?_
      refine g_iload h 5 t_X12_tries_98 rfl ?_
      refine g_zald h 156 rfl (by decide) t_X12_tries_100 hD (fun hD => ?_)
      refine g_join (P := fun k39 => ∀ (x37 : Int32) (w38 : Wd), k39 x37 w38 = some rr → gG ρ cs G X 141 [(0, .ref (ρ 119)), (1, .int x29), (2, .int x30), (3, .int x31), (4, .int x37), (5, .int x35)] [] w38) hD ?_ (fun k39 hk39 hD => ?_)
      · intro x37 w38 hD
        unfold J_X12_tries_j141_1 at hD
        obtain ⟨x40, ex40, hD⟩ := bd_ex hD
        refine g_iinc (v := x40) (L' := [(5, .int x40), (0, .ref (ρ 119)), (1, .int x29), (2, .int x30), (3, .int x31), (4, .int x37)]) h hn t_X12_tries_141 (k := 5) rfl (by rw [ex40]; rfl) (by decide) rfl ?_
        refine g_goto (tgt := 87) h t_X12_tries_144 (by decide) ?_
        refine g_loc (L' := [(0, .ref (ρ 119)), (1, .int x29), (2, .int x30), (3, .int x31), (4, .int x37), (5, .int x40)]) h [1, 2, 3, 4, 5, 0] rfl ?_
        exact ih x37 x40 _ hD
      · refine g_if_ne (tgt := 107) h t_X12_tries_101 (by decide) hD (fun hD => ?_) (fun hD => ?_)
        · refine g_aload_n h 0 t_X12_tries_107 rfl ?_
          refine g_iload h 5 t_X12_tries_108 rfl ?_
          refine g_iload_n h 3 t_X12_tries_110 rfl ?_
          refine g_callVI h 119 (As := [.int x35, .int x31]) (st := []) my_X12_fallsBy mi_X12_fallsBy ml_12_369 rfl (by decide) rfl rfl rfl (Nat.le_of_ble_eq_true rfl) (by decide) t_X12_tries_111 hD (fun _ _ e => S_X12_fallsBy hρ  e) (fun x42 w41 hD => ?_)
          refine g_istore (L' := [(6, .int x42), (0, .ref (ρ 119)), (1, .int x29), (2, .int x30), (3, .int x31), (4, .int x34), (5, .int x35)]) h hn t_X12_tries_114 (by decide) rfl ?_
          refine g_aload_n h 1 t_X12_tries_116 rfl ?_
          refine g_getR h 119 48 157 fl_12_97 rfl (by decide) rfl t_X12_tries_117 ?_
          refine g_iload h 0 t_X12_tries_120 rfl ?_
          refine g_dup2 h t_X12_tries_122 rfl rfl ?_
          refine g_iald h 157 rfl (by decide) t_X12_tries_123 hD (fun hD => ?_)
          refine g_iconst (v := 1) h t_X12_tries_124 (by decide) ?_
          refine g_iadd h t_X12_tries_125 ?_
          refine g_iast h 157 rfl (by decide) t_X12_tries_126 hD (fun w43 hD => ?_)
          refine g_iload h 5 t_X12_tries_127 rfl ?_
          refine g_aload_n h 1 t_X12_tries_129 rfl ?_
          refine g_getR h 119 48 157 fl_12_97 rfl (by decide) rfl t_X12_tries_130 ?_
          refine g_iload h 0 t_X12_tries_133 rfl ?_
          refine g_iald h 157 rfl (by decide) t_X12_tries_135 hD (fun hD => ?_)
          refine g_mmax h (st := []) (vtb_at 1619 (by decide +kernel) rfl) (Nat.le_of_ble_eq_true rfl) t_X12_tries_136 ?_
          refine g_bdI hD (fun x44 hD => ?_)
          refine g_istore (L' := [(4, .int x44), (6, .int x42), (0, .ref (ρ 119)), (1, .int x29), (2, .int x30), (3, .int x31), (5, .int x35)]) h hn t_X12_tries_139 (by decide) rfl ?_
          refine g_loc (L' := [(0, .ref (ρ 119)), (1, .int x29), (2, .int x30), (3, .int x31), (4, .int x44), (5, .int x35)]) h [2, 3, 4, 5, 0, 6] rfl ?_
          exact hk39 x44 _ hD
        · refine g_goto (tgt := 141) h t_X12_tries_104 (by decide) ?_
          refine g_loc (L' := [(0, .ref (ρ 119)), (1, .int x29), (2, .int x30), (3, .int x31), (4, .int x34), (5, .int x35)]) h [0, 1, 2, 3, 4, 5] rfl ?_
          exact hk39 x34 _ hD
set_option maxRecDepth 20000 in
theorem Q_X12_tries_34 {l0 : Launch} {ρ : Nat → Nat} {cs : Nat → ClassId} {G : va_G} {X : Cx} (hρ : injN ρ) (hn : X.2.2.2.2.2.2.2.2.2.2.1 = 7) (h : Okx l0 ρ cs G X prog_14_method_95_code "SowingBoardsModel" 6) {rr : (Int32 × Wd)} (hR : ∀ pc L, decode prog_14_method_95_code pc = .ok (.ireturn, 1) → narrow .int (.int rr.1) = .int rr.1 → gG ρ cs G X pc L [.int rr.1] rr.2)  {k6 : Int32 → Int32 → Wd → Option (Int32 × Wd)} (hk6 : ∀ (z1 : Int32) (z2 : Int32) (w1 : Wd), k6 z1 z2 w1 = some rr → gG ρ cs G X 167 [(0, .ref (ρ 119)), (1, .int z1), (2, .int z2)] [] w1) : ∀ (n : Nat) (x8 : Int32) (x9 : Int32) (x10 : Int32) (w : Wd), L_X12_tries_34 k6 n x8 x9 x10 w = some rr → gG ρ cs G X 34 [(0, .ref (ρ 119)), (1, .int x8), (2, .int x9), (3, .int x10)] [] w := by
  intro n
  induction n with
  | zero =>
    intro x8 x9 x10 w hD
    cases hD
  | succ n7 ih =>
    intro x8 x9 x10 w11 hD
    unfold L_X12_tries_34 at hD
    refine g_iload_n h 3 t_X12_tries_34 rfl ?_
    refine g_aload_n h 0 t_X12_tries_35 rfl ?_
    refine g_getI h 119 1 fl_12_13 rfl (by decide) rfl t_X12_tries_36 ?_
    refine g_icmp_ge (tgt := 167) h t_X12_tries_39 (by decide) hD (fun hD => ?_) (fun hD => ?_)
    · refine g_loc (L' := [(0, .ref (ρ 119)), (1, .int x8), (2, .int x9)]) h [0, 1, 2] rfl ?_
      exact hk6 x8 x9 _ hD
    · refine g_aload_n h 0 t_X12_tries_42 rfl ?_
      refine g_aload_n h 0 t_X12_tries_43 rfl ?_
      refine g_getR h 119 0 120 fl_12_9 rfl (by decide) rfl t_X12_tries_44 ?_
      refine g_iload_n h 3 t_X12_tries_47 rfl ?_
      refine g_callVI h 119 (As := [.ref (ρ 120), .int x10]) (st := []) my_X12_refuses mi_X12_refuses ml_12_264 rfl (by decide) rfl rfl rfl (Nat.le_of_ble_eq_true rfl) (by decide) t_X12_tries_48 hD (fun _ _ e => S_X12_refuses hρ (by decide) e) (fun x13 w12 hD => ?_)
      refine g_join (P := fun k17 => ∀ (x14 : Int32) (x15 : Int32) (w16 : Wd), k17 x14 x15 w16 = some rr → gG ρ cs G X 161 [(0, .ref (ρ 119)), (1, .int x14), (2, .int x15), (3, .int x10)] [] w16) hD ?_ (fun k17 hk17 hD => ?_)
      · intro x14 x15 w16 hD
        unfold J_X12_tries_j161_4 at hD
        obtain ⟨x18, ex18, hD⟩ := bd_ex hD
        refine g_iinc (v := x18) (L' := [(3, .int x18), (0, .ref (ρ 119)), (1, .int x14), (2, .int x15)]) h hn t_X12_tries_161 (k := 3) rfl (by rw [ex18]; rfl) (by decide) rfl ?_
        refine g_goto (tgt := 34) h t_X12_tries_164 (by decide) ?_
        refine g_loc (L' := [(0, .ref (ρ 119)), (1, .int x14), (2, .int x15), (3, .int x18)]) h [1, 2, 3, 0] rfl ?_
        exact ih x14 x15 x18 _ hD
      · refine g_if_ge (tgt := 57) h t_X12_tries_51 (by decide) hD (fun hD => ?_) (fun hD => ?_)
        · refine g_iconst (v := 0) h t_X12_tries_57 (by decide) ?_
          refine g_istore (L' := [(4, .int 0), (0, .ref (ρ 119)), (1, .int x8), (2, .int x9), (3, .int x10)]) h hn t_X12_tries_58 (by decide) rfl ?_
          refine g_iconst (v := 0) h t_X12_tries_60 (by decide) ?_
          refine g_istore (L' := [(5, .int 0), (4, .int 0), (0, .ref (ρ 119)), (1, .int x8), (2, .int x9), (3, .int x10)]) h hn t_X12_tries_61 (by decide) rfl ?_
          refine g_loc (L' := [(0, .ref (ρ 119)), (1, .int x8), (2, .int x9), (3, .int x10), (4, .int 0), (5, .int 0)]) h [2, 3, 4, 5, 1, 0] rfl ?_
          refine Q_X12_tries_63 hρ hn h hR  ?_ _ _ _ hD
          · intro w28 hD
            unfold J_X12_tries_x84_3 at hD
            refine g_iconst (v := 0) h t_X12_tries_84 (by decide) ?_
            refine g_istore (L' := [(5, .int 0), (0, .ref (ρ 119)), (1, .int x8), (2, .int x9), (3, .int x10), (4, .int 0)]) h hn t_X12_tries_85 (by decide) rfl ?_
            refine g_loc (L' := [(0, .ref (ρ 119)), (1, .int x8), (2, .int x9), (3, .int x10), (4, .int 0), (5, .int 0)]) h [1, 2, 3, 4, 5, 0] rfl ?_
            refine Q_X12_tries_87 hρ hn h hR  ?_ _ _ _ _ hD
            · intro x45 w46 hD
              unfold J_X12_tries_x147_2 at hD
              refine g_iload h 4 t_X12_tries_147 rfl ?_
              refine g_iload_n h 2 t_X12_tries_149 rfl ?_
              refine g_icmp_lt (tgt := 156) h t_X12_tries_150 (by decide) hD (fun hD => ?_) (fun hD => ?_)
              · refine g_iload_n h 3 t_X12_tries_156 rfl ?_
                refine g_istore_n (L' := [(1, .int x10), (0, .ref (ρ 119)), (2, .int x9), (3, .int x10), (4, .int x45)]) h hn t_X12_tries_157 rfl (by decide) rfl ?_
                refine g_iload h 4 t_X12_tries_158 rfl ?_
                refine g_istore_n (L' := [(2, .int x45), (1, .int x10), (0, .ref (ρ 119)), (3, .int x10), (4, .int x45)]) h hn t_X12_tries_160 rfl (by decide) rfl ?_
                refine g_loc (L' := [(0, .ref (ρ 119)), (1, .int x10), (2, .int x45), (3, .int x10)]) h [2, 1, 0, 3] rfl ?_
                exact hk17 x10 x45 _ hD
              · refine g_goto (tgt := 161) h t_X12_tries_153 (by decide) ?_
                refine g_loc (L' := [(0, .ref (ρ 119)), (1, .int x8), (2, .int x9), (3, .int x10)]) h [0, 1, 2, 3] rfl ?_
                exact hk17 x8 x9 _ hD
        · refine g_goto (tgt := 161) h t_X12_tries_54 (by decide) ?_
          refine g_loc (L' := [(0, .ref (ρ 119)), (1, .int x8), (2, .int x9), (3, .int x10)]) h [0, 1, 2, 3] rfl ?_
          exact hk17 x8 x9 _ hD
set_option maxRecDepth 20000 in
theorem S_X12_tries {l0 : Launch} {ρ : Nat → Nat} {cs : Nat → ClassId} {G : va_G} (hρ : injN ρ)  {w : Wd} {rr : (Int32 × Wd)} (hD : D_X12_tries w = some rr) : CtI l0 ρ cs G y_X12_tries prog_14_method_95_code 7 .int 6 [.ref (ρ 119)] w rr.1 rr.2 := by
  refine ctI_of hρ (by decide) (Nat.le_of_ble_eq_true rfl) (fun X hn h hR => ?_)
  unfold D_X12_tries at hD
  show gG ρ cs G X 0 [(0, .ref (ρ 119))] [] w
  refine g_aload_n h 0 t_X12_tries_0 rfl ?_
  refine g_iconst (v := 0) h t_X12_tries_1 (by decide) ?_
  refine g_putI h 119 7 fl_12_109 fp_12_7 rfl (by decide) rfl t_X12_tries_2 hD (fun w1 hD => ?_)
  refine g_aload_n h 0 t_X12_tries_5 rfl ?_
  refine g_callVI h 119 (As := []) (st := []) my_X12_layLaws mi_X12_layLaws ml_12_372 rfl (by decide) rfl rfl rfl (Nat.le_of_ble_eq_true rfl) (by decide) t_X12_tries_6 hD (fun _ _ e => S_X12_layLaws hρ  e) (fun x3 w2 hD => ?_)
  refine g_if_eq (tgt := 23) h t_X12_tries_9 (by decide) hD (fun hD => ?_) (fun hD => ?_)
  · refine g_bipush (v := (-2)) h t_X12_tries_23 (by decide) ?_
    obtain rfl := Option.some.inj hD
    exact hR _ _ t_X12_tries_25 rfl
  · refine g_aload_n h 0 t_X12_tries_12 rfl ?_
    refine g_aload_n h 0 t_X12_tries_13 rfl ?_
    refine g_getR h 119 0 120 fl_12_9 rfl (by decide) rfl t_X12_tries_14 ?_
    refine g_callVI h 119 (As := [.ref (ρ 120)]) (st := []) my_X12_isOver mi_X12_isOver ml_12_282 rfl (by decide) rfl rfl rfl (Nat.le_of_ble_eq_true rfl) (by decide) t_X12_tries_17 hD (fun _ _ e => S_X12_isOver hρ (by decide) e) (fun x5 w4 hD => ?_)
    refine g_if_eq (tgt := 26) h t_X12_tries_20 (by decide) hD (fun hD => ?_) (fun hD => ?_)
    · refine g_iconst (v := (-1)) h t_X12_tries_26 (by decide) ?_
      refine g_istore_n (L' := [(1, .int (-1)), (0, .ref (ρ 119))]) h hn t_X12_tries_27 rfl (by decide) rfl ?_
      refine g_ldcw (v := 1000000) h t_X12_tries_28 cc_12_337 ?_
      refine g_istore_n (L' := [(2, .int 1000000), (1, .int (-1)), (0, .ref (ρ 119))]) h hn t_X12_tries_31 rfl (by decide) rfl ?_
      refine g_iconst (v := 0) h t_X12_tries_32 (by decide) ?_
      refine g_istore_n (L' := [(3, .int 0), (2, .int 1000000), (1, .int (-1)), (0, .ref (ρ 119))]) h hn t_X12_tries_33 rfl (by decide) rfl ?_
      refine g_loc (L' := [(0, .ref (ρ 119)), (1, .int (-1)), (2, .int 1000000), (3, .int 0)]) h [3, 2, 1, 0] rfl ?_
      refine Q_X12_tries_34 hρ hn h hR  ?_ _ _ _ _ _ hD
      · intro x47 x48 w49 hD
        unfold J_X12_tries_x167_5 at hD
        refine g_aload_n h 0 t_X12_tries_167 rfl ?_
        refine g_iconst (v := 0) h t_X12_tries_168 (by decide) ?_
        refine g_putI h 119 6 fl_12_112 fp_12_6 rfl (by decide) rfl t_X12_tries_169 hD (fun w50 hD => ?_)
        refine g_aload_n h 0 t_X12_tries_172 rfl ?_
        refine g_iload_n h 2 t_X12_tries_173 rfl ?_
        refine g_i2l h t_X12_tries_174 ?_
        refine g_callVV h 119 (As := [.long x48.toInt64]) (st := []) my_X12_tell mi_X12_tell ml_12_260 rfl (by decide) rfl rfl rfl (Nat.le_of_ble_eq_true rfl) (by decide) t_X12_tries_175 hD (fun _ e => S_X12_tell hρ  e) (fun w51 hD => ?_)
        refine g_iload_n h 1 t_X12_tries_178 rfl ?_
        obtain rfl := Option.some.inj hD
        exact hR _ _ t_X12_tries_179 rfl
    · refine g_bipush (v := (-2)) h t_X12_tries_23 (by decide) ?_
      obtain rfl := Option.some.inj hD
      exact hR _ _ t_X12_tries_25 rfl
def D_X12_gets (p0 : Int32) (p1 : Int32) (p2 : Int32) : Wd → Option (Int32 × Wd) := fun w =>
  if p0 = p1 then (if ¬ (3 : Int32) = 0 then (some ((p2 / 3) - 1, w)) else none) else (if p0 ≤ p1 then (if ¬ (2 : Int32) = 0 then (some (p0 / 2, w)) else none) else (some (p2 - p0, w)))
set_option maxRecDepth 20000 in
theorem S_X12_gets {l0 : Launch} {ρ : Nat → Nat} {cs : Nat → ClassId} {G : va_G} (hρ : injN ρ) {p0 : Int32} {p1 : Int32} {p2 : Int32} {w : Wd} {rr : (Int32 × Wd)} (hD : D_X12_gets p0 p1 p2 w = some rr) : CtI l0 ρ cs G y_X12_gets prog_14_method_96_code 3 .int 0 [.int p0, .int p1, .int p2] w rr.1 rr.2 := by
  refine ctI_of hρ (by decide) (Nat.le_of_ble_eq_true rfl) (fun X hn h hR => ?_)
  unfold D_X12_gets at hD
  show gG ρ cs G X 0 [(0, .int p0), (1, .int p1), (2, .int p2)] [] w
  refine g_iload_n h 0 t_X12_gets_0 rfl ?_
  refine g_iload_n h 1 t_X12_gets_1 rfl ?_
  refine g_icmp_ne (tgt := 11) h t_X12_gets_2 (by decide) hD (fun hD => ?_) (fun hD => ?_)
  · refine g_iload_n h 0 t_X12_gets_11 rfl ?_
    refine g_iload_n h 1 t_X12_gets_12 rfl ?_
    refine g_icmp_le (tgt := 22) h t_X12_gets_13 (by decide) hD (fun hD => ?_) (fun hD => ?_)
    · refine g_iload_n h 0 t_X12_gets_22 rfl ?_
      refine g_iconst (v := 2) h t_X12_gets_23 (by decide) ?_
      refine g_idiv h t_X12_gets_24 hD (fun hD => ?_)
      obtain rfl := Option.some.inj hD
      exact hR _ _ t_X12_gets_25 rfl
    · refine g_iload_n h 2 t_X12_gets_16 rfl ?_
      refine g_iload_n h 0 t_X12_gets_17 rfl ?_
      refine g_isub h t_X12_gets_18 ?_
      refine g_goto (tgt := 25) h t_X12_gets_19 (by decide) ?_
      obtain rfl := Option.some.inj hD
      exact hR _ _ t_X12_gets_25 rfl
  · refine g_iload_n h 2 t_X12_gets_5 rfl ?_
    refine g_iconst (v := 3) h t_X12_gets_6 (by decide) ?_
    refine g_idiv h t_X12_gets_7 hD (fun hD => ?_)
    refine g_iconst (v := 1) h t_X12_gets_8 (by decide) ?_
    refine g_isub h t_X12_gets_9 ?_
    obtain rfl := Option.some.inj hD
    exact hR _ _ t_X12_gets_10 rfl
def L_X12_isBest_2 (x1 : Int32) (x2 : Int32) (x3 : Int32) (k4 : Wd → Option (Int32 × Wd)) (k5 : Wd → Option (Int32 × Wd)) : Nat → Int32 → Wd → Option (Int32 × Wd)
  | 0, _, _ => none
  | n6 + 1, x7, w8 =>
    if 9 < x7 then (k5 w8) else (bc (D_X12_gets x7 x2 x3 w8) fun x10 w9 => bc (D_X12_gets x1 x2 x3 w9) fun x12 w11 => if x10 ≤ x12 then (bd (x7 + 1) fun x13 => L_X12_isBest_2 x1 x2 x3 k4 k5 n6 x13 w11) else (k4 w11))
def J_X12_isBest_x23_1  : Wd → Option (Int32 × Wd) := fun w14 =>
  some (0, w14)
def J_X12_isBest_x31_2  : Wd → Option (Int32 × Wd) := fun w15 =>
  some (1, w15)
def D_X12_isBest (p0 : Int32) (p1 : Int32) (p2 : Int32) : Wd → Option (Int32 × Wd) := fun w =>
  L_X12_isBest_2 p0 p1 p2 J_X12_isBest_x23_1 J_X12_isBest_x31_2 FU 0 w
set_option maxRecDepth 20000 in
theorem Q_X12_isBest_2 {l0 : Launch} {ρ : Nat → Nat} {cs : Nat → ClassId} {G : va_G} {X : Cx} (hρ : injN ρ) (hn : X.2.2.2.2.2.2.2.2.2.2.1 = 4) (h : Okx l0 ρ cs G X prog_14_method_97_code "SowingBoardsModel" 1) {rr : (Int32 × Wd)} (hR : ∀ pc L, decode prog_14_method_97_code pc = .ok (.ireturn, 1) → narrow .boolean (.int rr.1) = .int rr.1 → gG ρ cs G X pc L [.int rr.1] rr.2) {x1 : Int32} {x2 : Int32} {x3 : Int32} {k4 : Wd → Option (Int32 × Wd)} (hk4 : ∀ (w1 : Wd), k4 w1 = some rr → gG ρ cs G X 23 [] [] w1) {k5 : Wd → Option (Int32 × Wd)} (hk5 : ∀ (w1 : Wd), k5 w1 = some rr → gG ρ cs G X 31 [] [] w1) : ∀ (n : Nat) (x7 : Int32) (w : Wd), L_X12_isBest_2 x1 x2 x3 k4 k5 n x7 w = some rr → gG ρ cs G X 2 [(0, .int x1), (1, .int x2), (2, .int x3), (3, .int x7)] [] w := by
  intro n
  induction n with
  | zero =>
    intro x7 w hD
    cases hD
  | succ n6 ih =>
    intro x7 w8 hD
    unfold L_X12_isBest_2 at hD
    refine g_iload_n h 3 t_X12_isBest_2 rfl ?_
    refine g_bipush (v := 9) h t_X12_isBest_3 (by decide) ?_
    refine g_icmp_gt (tgt := 31) h t_X12_isBest_5 (by decide) hD (fun hD => ?_) (fun hD => ?_)
    · refine g_loc (L' := []) h [] rfl ?_
      exact hk5 _ hD
    · refine g_iload_n h 3 t_X12_isBest_8 rfl ?_
      refine g_iload_n h 1 t_X12_isBest_9 rfl ?_
      refine g_iload_n h 2 t_X12_isBest_10 rfl ?_
      refine g_callSI h (As := [.int x7, .int x2, .int x3]) (st := []) my_X12_gets ms_X12_gets ml_12_375 rfl rfl (Nat.le_of_ble_eq_true rfl) (by decide) t_X12_isBest_11 hD (fun _ _ e => S_X12_gets hρ  e) (fun x10 w9 hD => ?_)
      refine g_iload_n h 0 t_X12_isBest_14 rfl ?_
      refine g_iload_n h 1 t_X12_isBest_15 rfl ?_
      refine g_iload_n h 2 t_X12_isBest_16 rfl ?_
      refine g_callSI h (As := [.int x1, .int x2, .int x3]) (st := [.int x10]) my_X12_gets ms_X12_gets ml_12_375 rfl rfl (Nat.le_of_ble_eq_true rfl) (by decide) t_X12_isBest_17 hD (fun _ _ e => S_X12_gets hρ  e) (fun x12 w11 hD => ?_)
      refine g_icmp_le (tgt := 25) h t_X12_isBest_20 (by decide) hD (fun hD => ?_) (fun hD => ?_)
      · obtain ⟨x13, ex13, hD⟩ := bd_ex hD
        refine g_iinc (v := x13) (L' := [(3, .int x13), (0, .int x1), (1, .int x2), (2, .int x3)]) h hn t_X12_isBest_25 (k := 3) rfl (by rw [ex13]; rfl) (by decide) rfl ?_
        refine g_goto (tgt := 2) h t_X12_isBest_28 (by decide) ?_
        refine g_loc (L' := [(0, .int x1), (1, .int x2), (2, .int x3), (3, .int x13)]) h [1, 2, 3, 0] rfl ?_
        exact ih x13 _ hD
      · refine g_loc (L' := []) h [] rfl ?_
        exact hk4 _ hD
set_option maxRecDepth 20000 in
theorem S_X12_isBest {l0 : Launch} {ρ : Nat → Nat} {cs : Nat → ClassId} {G : va_G} (hρ : injN ρ) {p0 : Int32} {p1 : Int32} {p2 : Int32} {w : Wd} {rr : (Int32 × Wd)} (hD : D_X12_isBest p0 p1 p2 w = some rr) : CtI l0 ρ cs G y_X12_isBest prog_14_method_97_code 4 .boolean 1 [.int p0, .int p1, .int p2] w rr.1 rr.2 := by
  refine ctI_of hρ (by decide) (Nat.le_of_ble_eq_true rfl) (fun X hn h hR => ?_)
  unfold D_X12_isBest at hD
  show gG ρ cs G X 0 [(0, .int p0), (1, .int p1), (2, .int p2)] [] w
  refine g_iconst (v := 0) h t_X12_isBest_0 (by decide) ?_
  refine g_istore_n (L' := [(3, .int 0), (0, .int p0), (1, .int p1), (2, .int p2)]) h hn t_X12_isBest_1 rfl (by decide) rfl ?_
  refine g_loc (L' := [(0, .int p0), (1, .int p1), (2, .int p2), (3, .int 0)]) h [1, 2, 3, 0] rfl ?_
  refine Q_X12_isBest_2 hρ hn h hR  ?_ ?_ _ _ _ hD
  · intro w14 hD
    unfold J_X12_isBest_x23_1 at hD
    refine g_iconst (v := 0) h t_X12_isBest_23 (by decide) ?_
    obtain rfl := Option.some.inj hD
    exact hR _ _ t_X12_isBest_24 (b01_n rfl)
  · intro w15 hD
    unfold J_X12_isBest_x31_2 at hD
    refine g_iconst (v := 1) h t_X12_isBest_31 (by decide) ?_
    obtain rfl := Option.some.inj hD
    exact hR _ _ t_X12_isBest_32 (b01_n rfl)
def J_X12_bids_j82_1 (x15 : Int32) (k22 : Int32 → Wd → Option (Int32 × Wd)) : Wd → Option (Int32 × Wd) := fun w26 =>
  bd (x15 + 1) fun x28 => k22 x28 w26
def J_X12_bids_j85_2 (r35 : Int32 → Int32 → Wd → Option (Int32 × Wd)) (x16 : Int32) : Int32 → Wd → Option (Int32 × Wd) := fun x20 w21 =>
  bd (x16 + 1) fun x23 => r35 x20 x23 w21
def L_X12_bids_35 (x11 : Int32) (x12 : Int32) (k13 : Int32 → Wd → Option (Int32 × Wd)) : Nat → Int32 → Int32 → Wd → Option (Int32 × Wd)
  | 0, _, _, _ => none
  | n14 + 1, x15, x16, w17 =>
    if 9 < x16 then (k13 x15 w17) else (bc (D_X12_isBest x12 x16 x11 w17) fun x19 w18 => bd (J_X12_bids_j85_2 (L_X12_bids_35 x11 x12 k13 n14) x16) fun k22 => if x19 = 0 then (k22 x15 w18) else (bc (D_X12_isBest x16 x12 x11 w18) fun x25 w24 => if x25 = 0 then (k22 x15 w24) else (bd (J_X12_bids_j82_1 x15 k22) fun k27 => if x15 = 0 then (bv (D_X12_tell x12.toInt64 w24) fun w29 => bv (D_X12_tell x16.toInt64 w29) fun w30 => k27 w30) else (k27 w24))))
def J_X12_bids_x91_3 (r26 : Int32 → Int32 → Wd → Option (Int32 × Wd)) (x9 : Int32) : Int32 → Wd → Option (Int32 × Wd) := fun x31 w32 =>
  bd (x9 + 1) fun x33 => r26 x31 x33 w32
def L_X12_bids_26 (x5 : Int32) (k6 : Int32 → Wd → Option (Int32 × Wd)) : Nat → Int32 → Int32 → Wd → Option (Int32 × Wd)
  | 0, _, _, _ => none
  | n7 + 1, x8, x9, w10 =>
    if 9 < x9 then (k6 x8 w10) else (L_X12_bids_35 x5 x9 (J_X12_bids_x91_3 (L_X12_bids_26 x5 k6 n7) x9) FU x8 0 w10)
def J_X12_bids_x97_4  : Int32 → Wd → Option (Int32 × Wd) := fun x34 w35 =>
  some (x34, w35)
def D_X12_bids (p1 : Int32) : Wd → Option (Int32 × Wd) := fun w =>
  bd (wI w 119 7 0) fun w1 => bc (D_X12_in p1 0 20 w1) fun x3 w2 => if x3 = 0 then (some ((-1), w2)) else (bd (wI w2 119 6 0) fun w4 => L_X12_bids_26 p1 J_X12_bids_x97_4 FU 0 0 w4)
set_option maxRecDepth 20000 in
theorem Q_X12_bids_35 {l0 : Launch} {ρ : Nat → Nat} {cs : Nat → ClassId} {G : va_G} {X : Cx} (hρ : injN ρ) (hn : X.2.2.2.2.2.2.2.2.2.2.1 = 5) (h : Okx l0 ρ cs G X prog_14_method_98_code "SowingBoardsModel" 2) {rr : (Int32 × Wd)} (hR : ∀ pc L, decode prog_14_method_98_code pc = .ok (.ireturn, 1) → narrow .int (.int rr.1) = .int rr.1 → gG ρ cs G X pc L [.int rr.1] rr.2) {x11 : Int32} {x12 : Int32} {k13 : Int32 → Wd → Option (Int32 × Wd)} (hk13 : ∀ (z2 : Int32) (w1 : Wd), k13 z2 w1 = some rr → gG ρ cs G X 91 [(0, .ref (ρ 119)), (1, .int x11), (2, .int z2), (3, .int x12)] [] w1) : ∀ (n : Nat) (x15 : Int32) (x16 : Int32) (w : Wd), L_X12_bids_35 x11 x12 k13 n x15 x16 w = some rr → gG ρ cs G X 35 [(0, .ref (ρ 119)), (1, .int x11), (2, .int x15), (3, .int x12), (4, .int x16)] [] w := by
  intro n
  induction n with
  | zero =>
    intro x15 x16 w hD
    cases hD
  | succ n14 ih =>
    intro x15 x16 w17 hD
    unfold L_X12_bids_35 at hD
    refine g_iload h 4 t_X12_bids_35 rfl ?_
    refine g_bipush (v := 9) h t_X12_bids_37 (by decide) ?_
    refine g_icmp_gt (tgt := 91) h t_X12_bids_39 (by decide) hD (fun hD => ?_) (fun hD => ?_)
    · refine g_loc (L' := [(0, .ref (ρ 119)), (1, .int x11), (2, .int x15), (3, .int x12)]) h [0, 1, 2, 3] rfl ?_
      exact hk13 x15 _ hD
    · refine g_iload_n h 3 t_X12_bids_42 rfl ?_
      refine g_iload h 4 t_X12_bids_43 rfl ?_
      refine g_iload_n h 1 t_X12_bids_45 rfl ?_
      refine g_callSI h (As := [.int x12, .int x16, .int x11]) (st := []) my_X12_isBest ms_X12_isBest ml_12_379 rfl rfl (Nat.le_of_ble_eq_true rfl) (by decide) t_X12_bids_46 hD (fun _ _ e => S_X12_isBest hρ  e) (fun x19 w18 hD => ?_)
      refine g_join (P := fun k22 => ∀ (x20 : Int32) (w21 : Wd), k22 x20 w21 = some rr → gG ρ cs G X 85 [(0, .ref (ρ 119)), (1, .int x11), (2, .int x20), (3, .int x12), (4, .int x16)] [] w21) hD ?_ (fun k22 hk22 hD => ?_)
      · intro x20 w21 hD
        unfold J_X12_bids_j85_2 at hD
        obtain ⟨x23, ex23, hD⟩ := bd_ex hD
        refine g_iinc (v := x23) (L' := [(4, .int x23), (0, .ref (ρ 119)), (1, .int x11), (2, .int x20), (3, .int x12)]) h hn t_X12_bids_85 (k := 4) rfl (by rw [ex23]; rfl) (by decide) rfl ?_
        refine g_goto (tgt := 35) h t_X12_bids_88 (by decide) ?_
        refine g_loc (L' := [(0, .ref (ρ 119)), (1, .int x11), (2, .int x20), (3, .int x12), (4, .int x23)]) h [1, 2, 3, 4, 0] rfl ?_
        exact ih x20 x23 _ hD
      · refine g_if_eq (tgt := 85) h t_X12_bids_49 (by decide) hD (fun hD => ?_) (fun hD => ?_)
        · refine g_loc (L' := [(0, .ref (ρ 119)), (1, .int x11), (2, .int x15), (3, .int x12), (4, .int x16)]) h [0, 1, 2, 3, 4] rfl ?_
          exact hk22 x15 _ hD
        · refine g_iload h 4 t_X12_bids_52 rfl ?_
          refine g_iload_n h 3 t_X12_bids_54 rfl ?_
          refine g_iload_n h 1 t_X12_bids_55 rfl ?_
          refine g_callSI h (As := [.int x16, .int x12, .int x11]) (st := []) my_X12_isBest ms_X12_isBest ml_12_379 rfl rfl (Nat.le_of_ble_eq_true rfl) (by decide) t_X12_bids_56 hD (fun _ _ e => S_X12_isBest hρ  e) (fun x25 w24 hD => ?_)
          refine g_if_ne (tgt := 65) h t_X12_bids_59 (by decide) hD (fun hD => ?_) (fun hD => ?_)
          · refine g_iload_n h 2 t_X12_bids_65 rfl ?_
            refine g_join (P := fun k27 => ∀ (w26 : Wd), k27 w26 = some rr → gG ρ cs G X 82 [(0, .ref (ρ 119)), (1, .int x11), (2, .int x15), (3, .int x12), (4, .int x16)] [] w26) hD ?_ (fun k27 hk27 hD => ?_)
            · intro w26 hD
              unfold J_X12_bids_j82_1 at hD
              obtain ⟨x28, ex28, hD⟩ := bd_ex hD
              refine g_iinc (v := x28) (L' := [(2, .int x28), (0, .ref (ρ 119)), (1, .int x11), (3, .int x12), (4, .int x16)]) h hn t_X12_bids_82 (k := 2) rfl (by rw [ex28]; rfl) (by decide) rfl ?_
              refine g_loc (L' := [(0, .ref (ρ 119)), (1, .int x11), (2, .int x28), (3, .int x12), (4, .int x16)]) h [1, 2, 0, 3, 4] rfl ?_
              exact hk22 x28 _ hD
            · refine g_if_ne (tgt := 82) h t_X12_bids_66 (by decide) hD (fun hD => ?_) (fun hD => ?_)
              · refine g_loc (L' := [(0, .ref (ρ 119)), (1, .int x11), (2, .int x15), (3, .int x12), (4, .int x16)]) h [0, 1, 2, 3, 4] rfl ?_
                exact hk27 _ hD
              · refine g_aload_n h 0 t_X12_bids_69 rfl ?_
                refine g_iload_n h 3 t_X12_bids_70 rfl ?_
                refine g_i2l h t_X12_bids_71 ?_
                refine g_callVV h 119 (As := [.long x12.toInt64]) (st := []) my_X12_tell mi_X12_tell ml_12_260 rfl (by decide) rfl rfl rfl (Nat.le_of_ble_eq_true rfl) (by decide) t_X12_bids_72 hD (fun _ e => S_X12_tell hρ  e) (fun w29 hD => ?_)
                refine g_aload_n h 0 t_X12_bids_75 rfl ?_
                refine g_iload h 4 t_X12_bids_76 rfl ?_
                refine g_i2l h t_X12_bids_78 ?_
                refine g_callVV h 119 (As := [.long x16.toInt64]) (st := []) my_X12_tell mi_X12_tell ml_12_260 rfl (by decide) rfl rfl rfl (Nat.le_of_ble_eq_true rfl) (by decide) t_X12_bids_79 hD (fun _ e => S_X12_tell hρ  e) (fun w30 hD => ?_)
                refine g_loc (L' := [(0, .ref (ρ 119)), (1, .int x11), (2, .int x15), (3, .int x12), (4, .int x16)]) h [0, 1, 2, 3, 4] rfl ?_
                exact hk27 _ hD
          · refine g_goto (tgt := 85) h t_X12_bids_62 (by decide) ?_
            refine g_loc (L' := [(0, .ref (ρ 119)), (1, .int x11), (2, .int x15), (3, .int x12), (4, .int x16)]) h [0, 1, 2, 3, 4] rfl ?_
            exact hk22 x15 _ hD
set_option maxRecDepth 20000 in
theorem Q_X12_bids_26 {l0 : Launch} {ρ : Nat → Nat} {cs : Nat → ClassId} {G : va_G} {X : Cx} (hρ : injN ρ) (hn : X.2.2.2.2.2.2.2.2.2.2.1 = 5) (h : Okx l0 ρ cs G X prog_14_method_98_code "SowingBoardsModel" 2) {rr : (Int32 × Wd)} (hR : ∀ pc L, decode prog_14_method_98_code pc = .ok (.ireturn, 1) → narrow .int (.int rr.1) = .int rr.1 → gG ρ cs G X pc L [.int rr.1] rr.2) {x5 : Int32} {k6 : Int32 → Wd → Option (Int32 × Wd)} (hk6 : ∀ (z2 : Int32) (w1 : Wd), k6 z2 w1 = some rr → gG ρ cs G X 97 [(2, .int z2)] [] w1) : ∀ (n : Nat) (x8 : Int32) (x9 : Int32) (w : Wd), L_X12_bids_26 x5 k6 n x8 x9 w = some rr → gG ρ cs G X 26 [(0, .ref (ρ 119)), (1, .int x5), (2, .int x8), (3, .int x9)] [] w := by
  intro n
  induction n with
  | zero =>
    intro x8 x9 w hD
    cases hD
  | succ n7 ih =>
    intro x8 x9 w10 hD
    unfold L_X12_bids_26 at hD
    refine g_iload_n h 3 t_X12_bids_26 rfl ?_
    refine g_bipush (v := 9) h t_X12_bids_27 (by decide) ?_
    refine g_icmp_gt (tgt := 97) h t_X12_bids_29 (by decide) hD (fun hD => ?_) (fun hD => ?_)
    · refine g_loc (L' := [(2, .int x8)]) h [2] rfl ?_
      exact hk6 x8 _ hD
    · refine g_iconst (v := 0) h t_X12_bids_32 (by decide) ?_
      refine g_istore (L' := [(4, .int 0), (0, .ref (ρ 119)), (1, .int x5), (2, .int x8), (3, .int x9)]) h hn t_X12_bids_33 (by decide) rfl ?_
      refine g_loc (L' := [(0, .ref (ρ 119)), (1, .int x5), (2, .int x8), (3, .int x9), (4, .int 0)]) h [1, 2, 3, 4, 0] rfl ?_
      refine Q_X12_bids_35 hρ hn h hR  ?_ _ _ _ _ hD
      · intro x31 w32 hD
        unfold J_X12_bids_x91_3 at hD
        obtain ⟨x33, ex33, hD⟩ := bd_ex hD
        refine g_iinc (v := x33) (L' := [(3, .int x33), (0, .ref (ρ 119)), (1, .int x5), (2, .int x31)]) h hn t_X12_bids_91 (k := 3) rfl (by rw [ex33]; rfl) (by decide) rfl ?_
        refine g_goto (tgt := 26) h t_X12_bids_94 (by decide) ?_
        refine g_loc (L' := [(0, .ref (ρ 119)), (1, .int x5), (2, .int x31), (3, .int x33)]) h [1, 2, 3, 0] rfl ?_
        exact ih x31 x33 _ hD
set_option maxRecDepth 20000 in
theorem S_X12_bids {l0 : Launch} {ρ : Nat → Nat} {cs : Nat → ClassId} {G : va_G} (hρ : injN ρ) {p1 : Int32} {w : Wd} {rr : (Int32 × Wd)} (hD : D_X12_bids p1 w = some rr) : CtI l0 ρ cs G y_X12_bids prog_14_method_98_code 5 .int 2 [.ref (ρ 119), .int p1] w rr.1 rr.2 := by
  refine ctI_of hρ (by decide) (Nat.le_of_ble_eq_true rfl) (fun X hn h hR => ?_)
  unfold D_X12_bids at hD
  show gG ρ cs G X 0 [(0, .ref (ρ 119)), (1, .int p1)] [] w
  refine g_aload_n h 0 t_X12_bids_0 rfl ?_
  refine g_iconst (v := 0) h t_X12_bids_1 (by decide) ?_
  refine g_putI h 119 7 fl_12_109 fp_12_7 rfl (by decide) rfl t_X12_bids_2 hD (fun w1 hD => ?_)
  refine g_iload_n h 1 t_X12_bids_5 rfl ?_
  refine g_iconst (v := 0) h t_X12_bids_6 (by decide) ?_
  refine g_bipush (v := 20) h t_X12_bids_7 (by decide) ?_
  refine g_callSI h (As := [.int p1, .int 0, .int 20]) (st := []) my_X12_in ms_X12_in ml_12_118 rfl rfl (Nat.le_of_ble_eq_true rfl) (by decide) t_X12_bids_9 hD (fun _ _ e => S_X12_in hρ  e) (fun x3 w2 hD => ?_)
  refine g_if_ne (tgt := 17) h t_X12_bids_12 (by decide) hD (fun hD => ?_) (fun hD => ?_)
  · refine g_iconst (v := 0) h t_X12_bids_17 (by decide) ?_
    refine g_istore_n (L' := [(2, .int 0), (0, .ref (ρ 119)), (1, .int p1)]) h hn t_X12_bids_18 rfl (by decide) rfl ?_
    refine g_aload_n h 1 t_X12_bids_19 rfl ?_
    refine g_iconst (v := 0) h t_X12_bids_20 (by decide) ?_
    refine g_putI h 119 6 fl_12_112 fp_12_6 rfl (by decide) rfl t_X12_bids_21 hD (fun w4 hD => ?_)
    refine g_iconst (v := 0) h t_X12_bids_24 (by decide) ?_
    refine g_istore_n (L' := [(3, .int 0), (2, .int 0), (0, .ref (ρ 119)), (1, .int p1)]) h hn t_X12_bids_25 rfl (by decide) rfl ?_
    refine g_loc (L' := [(0, .ref (ρ 119)), (1, .int p1), (2, .int 0), (3, .int 0)]) h [2, 3, 1, 0] rfl ?_
    refine Q_X12_bids_26 hρ hn h hR  ?_ _ _ _ _ hD
    · intro x34 w35 hD
      unfold J_X12_bids_x97_4 at hD
      refine g_iload_n h 0 t_X12_bids_97 rfl ?_
      obtain rfl := Option.some.inj hD
      exact hR _ _ t_X12_bids_98 rfl
  · refine g_iconst (v := (-1)) h t_X12_bids_15 (by decide) ?_
    obtain rfl := Option.some.inj hD
    exact hR _ _ t_X12_bids_16 rfl
def D_X12_changeRules  : Wd → Option Wd := fun w =>
  if bq (w.2.2 1) then (if bq (w.2.2 2) then (bd (wZ w 1 (w.2.2 2)) fun w3 => bd (wZ w3 2 (w.2.2 1)) fun w4 => bd (w4.1 119 16) fun x5 => bd (wI w4 119 16 (w4.1 119 49)) fun w6 => bd (wI w6 119 49 x5) fun w7 => some w7) else none) else none
set_option maxRecDepth 20000 in
theorem S_X12_changeRules {l0 : Launch} {ρ : Nat → Nat} {cs : Nat → ClassId} {G : va_G} (hρ : injN ρ)  {w : Wd} {rr : Wd} (hD : D_X12_changeRules w = some rr) : CtV l0 ρ cs G y_X12_changeRules prog_14_method_99_code 3 0 [.ref (ρ 119)] w rr := by
  refine ctV_of hρ (by decide) (Nat.le_of_ble_eq_true rfl) (fun X hn h hR => ?_)
  unfold D_X12_changeRules at hD
  show gG ρ cs G X 0 [(0, .ref (ρ 119))] [] w
  refine g_aload_n h 0 t_X12_changeRules_0 rfl ?_
  obtain ⟨hb1, hD⟩ := of_ite hD
  refine g_getZ h 119 14 1 (by decide) hb1 fl_12_31 rfl (by decide) rfl t_X12_changeRules_1 ?_
  refine g_astore_n (L' := [(1, .ref (ρ (w.2.2 1))), (0, .ref (ρ 119))]) h hn t_X12_changeRules_4 rfl (by decide) rfl ?_
  refine g_aload_n h 1 t_X12_changeRules_5 rfl ?_
  refine g_aload_n h 1 t_X12_changeRules_6 rfl ?_
  obtain ⟨hb2, hD⟩ := of_ite hD
  refine g_getZ h 119 15 2 (by decide) hb2 fl_12_34 rfl (by decide) rfl t_X12_changeRules_7 ?_
  refine g_putB h 1 (w.2.2 2) 14 (by decide) hb2 rfl fl_12_31 ⟨_, rfl, rfl, rfl⟩ t_X12_changeRules_10 hD (fun w3 hD => ?_)
  refine g_aload_n h 1 t_X12_changeRules_13 rfl ?_
  refine g_aload_n h 0 t_X12_changeRules_14 rfl ?_
  refine g_putB h 2 (w.2.2 1) 15 (by decide) hb1 rfl fl_12_34 ⟨_, rfl, rfl, rfl⟩ t_X12_changeRules_15 hD (fun w4 hD => ?_)
  refine g_aload_n h 1 t_X12_changeRules_18 rfl ?_
  refine g_getI h 119 16 fl_12_211 rfl (by decide) rfl t_X12_changeRules_19 ?_
  refine g_bdI hD (fun x5 hD => ?_)
  refine g_istore_n (L' := [(2, .int x5), (1, .ref (ρ (w.2.2 1))), (0, .ref (ρ 119))]) h hn t_X12_changeRules_22 rfl (by decide) rfl ?_
  refine g_aload_n h 2 t_X12_changeRules_23 rfl ?_
  refine g_aload_n h 2 t_X12_changeRules_24 rfl ?_
  refine g_getI h 119 49 fl_12_382 rfl (by decide) rfl t_X12_changeRules_25 ?_
  refine g_putI h 119 16 fl_12_211 fp_12_16 rfl (by decide) rfl t_X12_changeRules_28 hD (fun w6 hD => ?_)
  refine g_aload_n h 2 t_X12_changeRules_31 rfl ?_
  refine g_iload_n h 0 t_X12_changeRules_32 rfl ?_
  refine g_putI h 119 49 fl_12_382 fp_12_49 rfl (by decide) rfl t_X12_changeRules_33 hD (fun w7 hD => ?_)
  obtain rfl := Option.some.inj hD
  exact hR _ _ t_X12_changeRules_36
def J_X12_more_j76_1 (r14 : Int32 → Wd → Option (Int32 × Wd)) (x5 : Int32) : Wd → Option (Int32 × Wd) := fun w16 =>
  bd (x5 + 1) fun x18 => r14 x18 w16
def J_X12_more_j59_2 (r14 : Int32 → Wd → Option (Int32 × Wd)) (x5 : Int32) (x9 : Int32) : Wd → Option (Int32 × Wd) := fun w12 =>
  bc (D_X12_goRule 129 w12) fun x15 w14 => bd (J_X12_more_j76_1 (r14) x5) fun k17 => if x9 = 0 then (k17 w14) else (bv (D_X12_changeRules w14) fun w19 => k17 w19)
def J_X12_more_j49_3 (k11 : Int32 → Wd → Option (Int32 × Wd)) : Wd → Option (Int32 × Wd) := fun w21 =>
  k11 0 w21
def J_X12_more_j50_4 (r14 : Int32 → Wd → Option (Int32 × Wd)) (x5 : Int32) : Int32 → Wd → Option (Int32 × Wd) := fun x9 w10 =>
  bd (J_X12_more_j59_2 (r14) x5 x9) fun k13 => if x9 = 0 then (k13 w10) else (bv (D_X12_changeRules w10) fun w20 => k13 w20)
def L_X12_more_14 (x2 : Int32) (k3 : Wd → Option (Int32 × Wd)) : Nat → Int32 → Wd → Option (Int32 × Wd)
  | 0, _, _ => none
  | n4 + 1, x5, w6 =>
    if 20 ≤ x5 then (k3 w6) else (bc (D_X12_isOver 129 w6) fun x8 w7 => if x8 = 0 then (bd (J_X12_more_j50_4 (L_X12_more_14 x2 k3 n4) x5) fun k11 => bd (J_X12_more_j49_3 k11) fun k22 => if x2 = 0 then (k22 w7) else (if ib 14 16 then (if (w7.1 129 (14 : Int32).toNatClampNeg) = 0 then (k11 1 w7) else (k22 w7)) else none)) else (k3 w7))
def J_X12_more_x82_5  : Wd → Option (Int32 × Wd) := fun w23 =>
  if ib 12 16 then (if ib 13 16 then (some ((w23.1 129 (12 : Int32).toNatClampNeg) - (w23.1 129 (13 : Int32).toNatClampNeg), w23)) else none) else none
def D_X12_more (p1 : Int32) : Wd → Option (Int32 × Wd) := fun w =>
  bv (D_X12_lay 120 129 0 w) fun w1 => L_X12_more_14 p1 J_X12_more_x82_5 FU 0 w1
set_option maxRecDepth 20000 in
theorem Q_X12_more_14 {l0 : Launch} {ρ : Nat → Nat} {cs : Nat → ClassId} {G : va_G} {X : Cx} (hρ : injN ρ) (hn : X.2.2.2.2.2.2.2.2.2.2.1 = 4) (h : Okx l0 ρ cs G X prog_14_method_100_code "SowingBoardsModel" 88) {rr : (Int32 × Wd)} (hR : ∀ pc L, decode prog_14_method_100_code pc = .ok (.ireturn, 1) → narrow .int (.int rr.1) = .int rr.1 → gG ρ cs G X pc L [.int rr.1] rr.2) {x2 : Int32} {k3 : Wd → Option (Int32 × Wd)} (hk3 : ∀ (w1 : Wd), k3 w1 = some rr → gG ρ cs G X 82 [(0, .ref (ρ 119))] [] w1) : ∀ (n : Nat) (x5 : Int32) (w : Wd), L_X12_more_14 x2 k3 n x5 w = some rr → gG ρ cs G X 14 [(0, .ref (ρ 119)), (1, .int x2), (2, .int x5)] [] w := by
  intro n
  induction n with
  | zero =>
    intro x5 w hD
    cases hD
  | succ n4 ih =>
    intro x5 w6 hD
    unfold L_X12_more_14 at hD
    refine g_iload_n h 2 t_X12_more_14 rfl ?_
    refine g_bipush (v := 20) h t_X12_more_15 (by decide) ?_
    refine g_icmp_ge (tgt := 82) h t_X12_more_17 (by decide) hD (fun hD => ?_) (fun hD => ?_)
    · refine g_loc (L' := [(0, .ref (ρ 119))]) h [0] rfl ?_
      exact hk3 _ hD
    · refine g_aload_n h 0 t_X12_more_20 rfl ?_
      refine g_aload_n h 0 t_X12_more_21 rfl ?_
      refine g_getR h 119 25 129 fl_12_46 rfl (by decide) rfl t_X12_more_22 ?_
      refine g_callVI h 119 (As := [.ref (ρ 129)]) (st := []) my_X12_isOver mi_X12_isOver ml_12_282 rfl (by decide) rfl rfl rfl (Nat.le_of_ble_eq_true rfl) (by decide) t_X12_more_25 hD (fun _ _ e => S_X12_isOver hρ (by decide) e) (fun x8 w7 hD => ?_)
      refine g_if_ne (tgt := 82) h t_X12_more_28 (by decide) hD (fun hD => ?_) (fun hD => ?_)
      · refine g_loc (L' := [(0, .ref (ρ 119))]) h [0] rfl ?_
        exact hk3 _ hD
      · refine g_iload_n h 1 t_X12_more_31 rfl ?_
        refine g_join (P := fun k11 => ∀ (x9 : Int32) (w10 : Wd), k11 x9 w10 = some rr → gG ρ cs G X 50 [(0, .ref (ρ 119)), (1, .int x2), (2, .int x5)] [.int x9] w10) hD ?_ (fun k11 hk11 hD => ?_)
        · intro x9 w10 hD
          unfold J_X12_more_j50_4 at hD
          refine g_istore_n (L' := [(3, .int x9), (0, .ref (ρ 119)), (1, .int x2), (2, .int x5)]) h hn t_X12_more_50 rfl (by decide) rfl ?_
          refine g_iload_n h 0 t_X12_more_51 rfl ?_
          refine g_join (P := fun k13 => ∀ (w12 : Wd), k13 w12 = some rr → gG ρ cs G X 59 [(0, .ref (ρ 119)), (1, .int x2), (2, .int x5), (3, .int x9)] [] w12) hD ?_ (fun k13 hk13 hD => ?_)
          · intro w12 hD
            unfold J_X12_more_j59_2 at hD
            refine g_aload_n h 0 t_X12_more_59 rfl ?_
            refine g_aload_n h 0 t_X12_more_60 rfl ?_
            refine g_getR h 119 25 129 fl_12_46 rfl (by decide) rfl t_X12_more_61 ?_
            refine g_callVI h 119 (As := [.ref (ρ 129)]) (st := []) my_X12_goRule mi_X12_goRule ml_12_289 rfl (by decide) rfl rfl rfl (Nat.le_of_ble_eq_true rfl) (by decide) t_X12_more_64 hD (fun _ _ e => S_X12_goRule hρ (by decide) e) (fun x15 w14 hD => ?_)
            refine g_pop h t_X12_more_67 rfl ?_
            refine g_iload_n h 3 t_X12_more_68 rfl ?_
            refine g_join (P := fun k17 => ∀ (w16 : Wd), k17 w16 = some rr → gG ρ cs G X 76 [(0, .ref (ρ 119)), (1, .int x2), (2, .int x5)] [] w16) hD ?_ (fun k17 hk17 hD => ?_)
            · intro w16 hD
              unfold J_X12_more_j76_1 at hD
              obtain ⟨x18, ex18, hD⟩ := bd_ex hD
              refine g_iinc (v := x18) (L' := [(2, .int x18), (0, .ref (ρ 119)), (1, .int x2)]) h hn t_X12_more_76 (k := 2) rfl (by rw [ex18]; rfl) (by decide) rfl ?_
              refine g_goto (tgt := 14) h t_X12_more_79 (by decide) ?_
              refine g_loc (L' := [(0, .ref (ρ 119)), (1, .int x2), (2, .int x18)]) h [1, 2, 0] rfl ?_
              exact ih x18 _ hD
            · refine g_if_eq (tgt := 76) h t_X12_more_69 (by decide) hD (fun hD => ?_) (fun hD => ?_)
              · refine g_loc (L' := [(0, .ref (ρ 119)), (1, .int x2), (2, .int x5)]) h [0, 1, 2] rfl ?_
                exact hk17 _ hD
              · refine g_aload_n h 0 t_X12_more_72 rfl ?_
                refine g_callVV h 119 (As := []) (st := []) my_X12_changeRules mi_X12_changeRules ml_12_385 rfl (by decide) rfl rfl rfl (Nat.le_of_ble_eq_true rfl) (by decide) t_X12_more_73 hD (fun _ e => S_X12_changeRules hρ  e) (fun w19 hD => ?_)
                refine g_loc (L' := [(0, .ref (ρ 119)), (1, .int x2), (2, .int x5)]) h [0, 1, 2] rfl ?_
                exact hk17 _ hD
          · refine g_if_eq (tgt := 59) h t_X12_more_52 (by decide) hD (fun hD => ?_) (fun hD => ?_)
            · refine g_loc (L' := [(0, .ref (ρ 119)), (1, .int x2), (2, .int x5), (3, .int x9)]) h [1, 2, 3, 0] rfl ?_
              exact hk13 _ hD
            · refine g_aload_n h 1 t_X12_more_55 rfl ?_
              refine g_callVV h 119 (As := []) (st := []) my_X12_changeRules mi_X12_changeRules ml_12_385 rfl (by decide) rfl rfl rfl (Nat.le_of_ble_eq_true rfl) (by decide) t_X12_more_56 hD (fun _ e => S_X12_changeRules hρ  e) (fun w20 hD => ?_)
              refine g_loc (L' := [(0, .ref (ρ 119)), (1, .int x2), (2, .int x5), (3, .int x9)]) h [1, 2, 3, 0] rfl ?_
              exact hk13 _ hD
        · refine g_join (P := fun k22 => ∀ (w21 : Wd), k22 w21 = some rr → gG ρ cs G X 49 [(0, .ref (ρ 119)), (1, .int x2), (2, .int x5)] [] w21) hD ?_ (fun k22 hk22 hD => ?_)
          · intro w21 hD
            unfold J_X12_more_j49_3 at hD
            refine g_iconst (v := 0) h t_X12_more_49 (by decide) ?_
            refine g_loc (L' := [(0, .ref (ρ 119)), (1, .int x2), (2, .int x5)]) h [0, 1, 2] rfl ?_
            exact hk11 0 _ hD
          · refine g_if_eq (tgt := 49) h t_X12_more_32 (by decide) hD (fun hD => ?_) (fun hD => ?_)
            · refine g_loc (L' := [(0, .ref (ρ 119)), (1, .int x2), (2, .int x5)]) h [0, 1, 2] rfl ?_
              exact hk22 _ hD
            · refine g_aload_n h 0 t_X12_more_35 rfl ?_
              refine g_getR h 119 25 129 fl_12_46 rfl (by decide) rfl t_X12_more_36 ?_
              refine g_bipush (v := 14) h t_X12_more_39 (by decide) ?_
              refine g_iald h 129 rfl (by decide) t_X12_more_41 hD (fun hD => ?_)
              refine g_if_ne (tgt := 49) h t_X12_more_42 (by decide) hD (fun hD => ?_) (fun hD => ?_)
              · refine g_loc (L' := [(0, .ref (ρ 119)), (1, .int x2), (2, .int x5)]) h [0, 1, 2] rfl ?_
                exact hk22 _ hD
              · refine g_iconst (v := 1) h t_X12_more_45 (by decide) ?_
                refine g_goto (tgt := 50) h t_X12_more_46 (by decide) ?_
                refine g_loc (L' := [(0, .ref (ρ 119)), (1, .int x2), (2, .int x5)]) h [0, 1, 2] rfl ?_
                exact hk11 1 _ hD
set_option maxRecDepth 20000 in
theorem S_X12_more {l0 : Launch} {ρ : Nat → Nat} {cs : Nat → ClassId} {G : va_G} (hρ : injN ρ) {p1 : Int32} {w : Wd} {rr : (Int32 × Wd)} (hD : D_X12_more p1 w = some rr) : CtI l0 ρ cs G y_X12_more prog_14_method_100_code 4 .int 88 [.ref (ρ 119), .int p1] w rr.1 rr.2 := by
  refine ctI_of hρ (by decide) (Nat.le_of_ble_eq_true rfl) (fun X hn h hR => ?_)
  unfold D_X12_more at hD
  show gG ρ cs G X 0 [(0, .ref (ρ 119)), (1, .int p1)] [] w
  refine g_aload_n h 0 t_X12_more_0 rfl ?_
  refine g_getR h 119 0 120 fl_12_9 rfl (by decide) rfl t_X12_more_1 ?_
  refine g_aload_n h 0 t_X12_more_4 rfl ?_
  refine g_getR h 119 25 129 fl_12_46 rfl (by decide) rfl t_X12_more_5 ?_
  refine g_iconst (v := 0) h t_X12_more_8 (by decide) ?_
  refine g_callSV h (As := [.ref (ρ 120), .ref (ρ 129), .int 0]) (st := []) my_X12_lay ms_X12_lay ml_12_256 rfl rfl (Nat.le_of_ble_eq_true rfl) (by decide) t_X12_more_9 hD (fun _ e => S_X12_lay hρ (by decide) (by decide) e) (fun w1 hD => ?_)
  refine g_iconst (v := 0) h t_X12_more_12 (by decide) ?_
  refine g_istore_n (L' := [(2, .int 0), (0, .ref (ρ 119)), (1, .int p1)]) h hn t_X12_more_13 rfl (by decide) rfl ?_
  refine g_loc (L' := [(0, .ref (ρ 119)), (1, .int p1), (2, .int 0)]) h [1, 2, 0] rfl ?_
  refine Q_X12_more_14 hρ hn h hR  ?_ _ _ _ hD
  · intro w23 hD
    unfold J_X12_more_x82_5 at hD
    refine g_aload_n h 0 t_X12_more_82 rfl ?_
    refine g_getR h 119 25 129 fl_12_46 rfl (by decide) rfl t_X12_more_83 ?_
    refine g_bipush (v := 12) h t_X12_more_86 (by decide) ?_
    refine g_iald h 129 rfl (by decide) t_X12_more_88 hD (fun hD => ?_)
    refine g_aload_n h 0 t_X12_more_89 rfl ?_
    refine g_getR h 119 25 129 fl_12_46 rfl (by decide) rfl t_X12_more_90 ?_
    refine g_bipush (v := 13) h t_X12_more_93 (by decide) ?_
    refine g_iald h 129 rfl (by decide) t_X12_more_95 hD (fun hD => ?_)
    refine g_isub h t_X12_more_96 ?_
    obtain rfl := Option.some.inj hD
    exact hR _ _ t_X12_more_97 rfl
def L_X12_other_26 (x5 : Int32) (k6 : Wd → Option (Int32 × Wd)) : Nat → Int32 → Wd → Option (Int32 × Wd)
  | 0, _, _ => none
  | n7 + 1, x8, w9 =>
    if x5 ≤ x8 then (k6 w9) else (if bq (w9.2.2 2) then (if ib x8 80 then (if ib x8 (ln (w9.2.2 2)) then bd (wI w9 (w9.2.2 2) x8.toNatClampNeg (vp_nar .byte (w9.1 121 x8.toNatClampNeg))) (fun w11 => bd (x8 + 1) fun x12 => L_X12_other_26 x5 k6 n7 x12 w11) else none) else none) else none)
def J_X12_other_x49_1 (x2 : Int32) : Wd → Option (Int32 × Wd) := fun w13 =>
  bd (wI w13 119 49 x2) fun w14 => bc (D_X12_more 1 w14) fun x16 w15 => bc (D_X12_more 0 w15) fun x18 w17 => bd (wI w17 119 6 0) fun w19 => bv (D_X12_tell ((300 + x16).toInt64) w19) fun w20 => bv (D_X12_tell ((300 + x18).toInt64) w20) fun w21 => some ((600 + x16) - x18, w21)
def D_X12_other  : Wd → Option (Int32 × Wd) := fun w =>
  bd (wI w 119 7 0) fun w1 => bd (w1.1 119 4) fun x2 => bc (D_X12_readRule w1) fun x4 w3 => if x4 = 0 then (some ((-1) - (w3.1 119 12), w3)) else (L_X12_other_26 x2 (J_X12_other_x49_1 x2) FU 0 w3)
set_option maxRecDepth 20000 in
theorem Q_X12_other_26 {l0 : Launch} {ρ : Nat → Nat} {cs : Nat → ClassId} {G : va_G} {X : Cx} (hρ : injN ρ) (hn : X.2.2.2.2.2.2.2.2.2.2.1 = 4) (h : Okx l0 ρ cs G X prog_14_method_101_code "SowingBoardsModel" 89) {rr : (Int32 × Wd)} (hR : ∀ pc L, decode prog_14_method_101_code pc = .ok (.ireturn, 1) → narrow .int (.int rr.1) = .int rr.1 → gG ρ cs G X pc L [.int rr.1] rr.2) {x5 : Int32} {k6 : Wd → Option (Int32 × Wd)} (hk6 : ∀ (w1 : Wd), k6 w1 = some rr → gG ρ cs G X 49 [(0, .ref (ρ 119)), (1, .int x5)] [] w1) : ∀ (n : Nat) (x8 : Int32) (w : Wd), L_X12_other_26 x5 k6 n x8 w = some rr → gG ρ cs G X 26 [(0, .ref (ρ 119)), (1, .int x5), (2, .int x8)] [] w := by
  intro n
  induction n with
  | zero =>
    intro x8 w hD
    cases hD
  | succ n7 ih =>
    intro x8 w9 hD
    unfold L_X12_other_26 at hD
    refine g_iload_n h 2 t_X12_other_26 rfl ?_
    refine g_iload_n h 1 t_X12_other_27 rfl ?_
    refine g_icmp_ge (tgt := 49) h t_X12_other_28 (by decide) hD (fun hD => ?_) (fun hD => ?_)
    · refine g_loc (L' := [(0, .ref (ρ 119)), (1, .int x5)]) h [0, 1] rfl ?_
      exact hk6 _ hD
    · refine g_aload_n h 0 t_X12_other_31 rfl ?_
      obtain ⟨hb10, hD⟩ := of_ite hD
      refine g_getZ h 119 15 2 (by decide) hb10 fl_12_34 rfl (by decide) rfl t_X12_other_32 ?_
      refine g_iload_n h 2 t_X12_other_35 rfl ?_
      refine g_aload_n h 0 t_X12_other_36 rfl ?_
      refine g_getR h 119 3 121 fl_12_20 rfl (by decide) rfl t_X12_other_37 ?_
      refine g_iload_n h 2 t_X12_other_40 rfl ?_
      refine g_bald h 121 rfl (by decide) t_X12_other_41 hD (fun hD => ?_)
      refine g_bast h (w9.2.2 2) (bq_sh hb10) (bq_lt hb10) t_X12_other_42 hD (fun w11 hD => ?_)
      obtain ⟨x12, ex12, hD⟩ := bd_ex hD
      refine g_iinc (v := x12) (L' := [(2, .int x12), (0, .ref (ρ 119)), (1, .int x5)]) h hn t_X12_other_43 (k := 2) rfl (by rw [ex12]; rfl) (by decide) rfl ?_
      refine g_goto (tgt := 26) h t_X12_other_46 (by decide) ?_
      refine g_loc (L' := [(0, .ref (ρ 119)), (1, .int x5), (2, .int x12)]) h [1, 2, 0] rfl ?_
      exact ih x12 _ hD
set_option maxRecDepth 20000 in
theorem S_X12_other {l0 : Launch} {ρ : Nat → Nat} {cs : Nat → ClassId} {G : va_G} (hρ : injN ρ)  {w : Wd} {rr : (Int32 × Wd)} (hD : D_X12_other w = some rr) : CtI l0 ρ cs G y_X12_other prog_14_method_101_code 4 .int 89 [.ref (ρ 119)] w rr.1 rr.2 := by
  refine ctI_of hρ (by decide) (Nat.le_of_ble_eq_true rfl) (fun X hn h hR => ?_)
  unfold D_X12_other at hD
  show gG ρ cs G X 0 [(0, .ref (ρ 119))] [] w
  refine g_aload_n h 0 t_X12_other_0 rfl ?_
  refine g_iconst (v := 0) h t_X12_other_1 (by decide) ?_
  refine g_putI h 119 7 fl_12_109 fp_12_7 rfl (by decide) rfl t_X12_other_2 hD (fun w1 hD => ?_)
  refine g_aload_n h 0 t_X12_other_5 rfl ?_
  refine g_getI h 119 4 fl_12_115 rfl (by decide) rfl t_X12_other_6 ?_
  refine g_bdI hD (fun x2 hD => ?_)
  refine g_istore_n (L' := [(1, .int x2), (0, .ref (ρ 119))]) h hn t_X12_other_9 rfl (by decide) rfl ?_
  refine g_aload_n h 1 t_X12_other_10 rfl ?_
  refine g_callVI h 119 (As := []) (st := []) my_X12_readRule mi_X12_readRule ml_12_208 rfl (by decide) rfl rfl rfl (Nat.le_of_ble_eq_true rfl) (by decide) t_X12_other_11 hD (fun _ _ e => S_X12_readRule hρ  e) (fun x4 w3 hD => ?_)
  refine g_if_ne (tgt := 24) h t_X12_other_14 (by decide) hD (fun hD => ?_) (fun hD => ?_)
  · refine g_iconst (v := 0) h t_X12_other_24 (by decide) ?_
    refine g_istore_n (L' := [(2, .int 0), (1, .int x2), (0, .ref (ρ 119))]) h hn t_X12_other_25 rfl (by decide) rfl ?_
    refine g_loc (L' := [(0, .ref (ρ 119)), (1, .int x2), (2, .int 0)]) h [2, 1, 0] rfl ?_
    refine Q_X12_other_26 hρ hn h hR  ?_ _ _ _ hD
    · intro w13 hD
      unfold J_X12_other_x49_1 at hD
      refine g_aload_n h 0 t_X12_other_49 rfl ?_
      refine g_iload_n h 1 t_X12_other_50 rfl ?_
      refine g_putI h 119 49 fl_12_382 fp_12_49 rfl (by decide) rfl t_X12_other_51 hD (fun w14 hD => ?_)
      refine g_aload_n h 0 t_X12_other_54 rfl ?_
      refine g_iconst (v := 1) h t_X12_other_55 (by decide) ?_
      refine g_callVI h 119 (As := [.int 1]) (st := []) my_X12_more mi_X12_more ml_12_388 rfl (by decide) rfl rfl rfl (Nat.le_of_ble_eq_true rfl) (by decide) t_X12_other_56 hD (fun _ _ e => S_X12_more hρ  e) (fun x16 w15 hD => ?_)
      refine g_istore_n (L' := [(2, .int x16), (0, .ref (ρ 119)), (1, .int x2)]) h hn t_X12_other_59 rfl (by decide) rfl ?_
      refine g_aload_n h 1 t_X12_other_60 rfl ?_
      refine g_iconst (v := 0) h t_X12_other_61 (by decide) ?_
      refine g_callVI h 119 (As := [.int 0]) (st := []) my_X12_more mi_X12_more ml_12_388 rfl (by decide) rfl rfl rfl (Nat.le_of_ble_eq_true rfl) (by decide) t_X12_other_62 hD (fun _ _ e => S_X12_more hρ  e) (fun x18 w17 hD => ?_)
      refine g_istore_n (L' := [(3, .int x18), (2, .int x16), (0, .ref (ρ 119)), (1, .int x2)]) h hn t_X12_other_65 rfl (by decide) rfl ?_
      refine g_aload_n h 2 t_X12_other_66 rfl ?_
      refine g_iconst (v := 0) h t_X12_other_67 (by decide) ?_
      refine g_putI h 119 6 fl_12_112 fp_12_6 rfl (by decide) rfl t_X12_other_68 hD (fun w19 hD => ?_)
      refine g_aload_n h 2 t_X12_other_71 rfl ?_
      refine g_sipush (v := 300) h t_X12_other_72 (by decide) ?_
      refine g_iload_n h 1 t_X12_other_75 rfl ?_
      refine g_iadd h t_X12_other_76 ?_
      refine g_i2l h t_X12_other_77 ?_
      refine g_callVV h 119 (As := [.long ((300 + x16).toInt64)]) (st := []) my_X12_tell mi_X12_tell ml_12_260 rfl (by decide) rfl rfl rfl (Nat.le_of_ble_eq_true rfl) (by decide) t_X12_other_78 hD (fun _ e => S_X12_tell hρ  e) (fun w20 hD => ?_)
      refine g_aload_n h 2 t_X12_other_81 rfl ?_
      refine g_sipush (v := 300) h t_X12_other_82 (by decide) ?_
      refine g_iload_n h 0 t_X12_other_85 rfl ?_
      refine g_iadd h t_X12_other_86 ?_
      refine g_i2l h t_X12_other_87 ?_
      refine g_callVV h 119 (As := [.long ((300 + x18).toInt64)]) (st := []) my_X12_tell mi_X12_tell ml_12_260 rfl (by decide) rfl rfl rfl (Nat.le_of_ble_eq_true rfl) (by decide) t_X12_other_88 hD (fun _ e => S_X12_tell hρ  e) (fun w21 hD => ?_)
      refine g_sipush (v := 600) h t_X12_other_91 (by decide) ?_
      refine g_iload_n h 1 t_X12_other_94 rfl ?_
      refine g_iadd h t_X12_other_95 ?_
      refine g_iload_n h 0 t_X12_other_96 rfl ?_
      refine g_isub h t_X12_other_97 ?_
      obtain rfl := Option.some.inj hD
      exact hR _ _ t_X12_other_98 rfl
  · refine g_iconst (v := (-1)) h t_X12_other_17 (by decide) ?_
    refine g_aload_n h 1 t_X12_other_18 rfl ?_
    refine g_getI h 119 12 fl_12_134 rfl (by decide) rfl t_X12_other_19 ?_
    refine g_isub h t_X12_other_22 ?_
    obtain rfl := Option.some.inj hD
    exact hR _ _ t_X12_other_23 rfl
def D_X12_draw (p1 : Int32) : Wd → Option (Int32 × Wd) := fun w =>
  bd (wI w 119 50 (((w.1 119 50) * 1103515245) + 12345)) fun w1 => if ¬ (p1) = 0 then (some ((((w1.1 119 50).toUInt32 >>> ((16 : Int32).toUInt32 &&& Int32.toUInt32 31)).toInt32) - (((w1.1 119 50).toUInt32 >>> ((16 : Int32).toUInt32 &&& Int32.toUInt32 31)).toInt32) / p1 * p1, w1)) else none
set_option maxRecDepth 20000 in
theorem S_X12_draw {l0 : Launch} {ρ : Nat → Nat} {cs : Nat → ClassId} {G : va_G} (hρ : injN ρ) {p1 : Int32} {w : Wd} {rr : (Int32 × Wd)} (hD : D_X12_draw p1 w = some rr) : CtI l0 ρ cs G y_X12_draw prog_14_method_102_code 2 .int 0 [.ref (ρ 119), .int p1] w rr.1 rr.2 := by
  refine ctI_of hρ (by decide) (Nat.le_of_ble_eq_true rfl) (fun X hn h hR => ?_)
  unfold D_X12_draw at hD
  show gG ρ cs G X 0 [(0, .ref (ρ 119)), (1, .int p1)] [] w
  refine g_aload_n h 0 t_X12_draw_0 rfl ?_
  refine g_aload_n h 0 t_X12_draw_1 rfl ?_
  refine g_getI h 119 50 fl_12_392 rfl (by decide) rfl t_X12_draw_2 ?_
  refine g_ldcw (v := 1103515245) h t_X12_draw_5 cc_12_395 ?_
  refine g_imul h t_X12_draw_8 ?_
  refine g_sipush (v := 12345) h t_X12_draw_9 (by decide) ?_
  refine g_iadd h t_X12_draw_12 ?_
  refine g_putI h 119 50 fl_12_392 fp_12_50 rfl (by decide) rfl t_X12_draw_13 hD (fun w1 hD => ?_)
  refine g_aload_n h 0 t_X12_draw_16 rfl ?_
  refine g_getI h 119 50 fl_12_392 rfl (by decide) rfl t_X12_draw_17 ?_
  refine g_bipush (v := 16) h t_X12_draw_20 (by decide) ?_
  refine g_iushr h t_X12_draw_22 ?_
  refine g_iload_n h 1 t_X12_draw_23 rfl ?_
  refine g_irem h t_X12_draw_24 hD (fun hD => ?_)
  obtain rfl := Option.some.inj hD
  exact hR _ _ t_X12_draw_25 rfl
def J_X12_fullPit_j35_1 (r5 : Int32 → Int32 → Wd → Option (Int32 × Wd)) (x4 : Int32) (x5 : Int32) : Int32 → Wd → Option (Int32 × Wd) := fun x13 w14 =>
  bd (x4 - x13) fun x16 => bd (x5 + 1) fun x17 => r5 x16 x17 w14
def J_X12_fullPit_j19_2 (r5 : Int32 → Int32 → Wd → Option (Int32 × Wd)) (q1 : Nat) (x5 : Int32) (x4 : Int32) : Wd → Option (Int32 × Wd) := fun w9 =>
  bc (D_X12_refuses q1 x5 w9) fun x12 w11 => bd (J_X12_fullPit_j35_1 (r5) x4 x5) fun k15 => if x12 = 0 then (k15 1 w11) else (k15 0 w11)
def L_X12_fullPit_5 (q1 : Nat) (k2 : Int32 → Wd → Option (Int32 × Wd)) : Nat → Int32 → Int32 → Wd → Option (Int32 × Wd)
  | 0, _, _, _ => none
  | n3 + 1, x4, x5, w6 =>
    bc (D_X12_refuses q1 x5 w6) fun x8 w7 => bd (J_X12_fullPit_j19_2 (L_X12_fullPit_5 q1 k2 n3) q1 x5 x4) fun k10 => if x8 < 0 then (k10 w7) else (if x4 ≤ 0 then (k2 x5 w7) else (k10 w7))
def J_X12_fullPit_x43_3  : Int32 → Wd → Option (Int32 × Wd) := fun x18 w19 =>
  some (x18, w19)
def D_X12_fullPit (o1 : Nat) (p2 : Int32) : Wd → Option (Int32 × Wd) := fun w =>
  L_X12_fullPit_5 o1 J_X12_fullPit_x43_3 FU p2 0 w
set_option maxRecDepth 20000 in
theorem Q_X12_fullPit_5 {l0 : Launch} {ρ : Nat → Nat} {cs : Nat → ClassId} {G : va_G} {X : Cx} (hρ : injN ρ) (hn : X.2.2.2.2.2.2.2.2.2.2.1 = 5) (h : Okx l0 ρ cs G X prog_14_method_103_code "SowingBoardsModel" 2) {rr : (Int32 × Wd)} (hR : ∀ pc L, decode prog_14_method_103_code pc = .ok (.ireturn, 1) → narrow .int (.int rr.1) = .int rr.1 → gG ρ cs G X pc L [.int rr.1] rr.2) {q1 : Nat} (hq1 : isIA q1) {k2 : Int32 → Wd → Option (Int32 × Wd)} (hk2 : ∀ (z4 : Int32) (w1 : Wd), k2 z4 w1 = some rr → gG ρ cs G X 43 [(4, .int z4)] [] w1) : ∀ (n : Nat) (x4 : Int32) (x5 : Int32) (w : Wd), L_X12_fullPit_5 q1 k2 n x4 x5 w = some rr → gG ρ cs G X 5 [(0, .ref (ρ 119)), (1, .ref (ρ q1)), (3, .int x4), (4, .int x5)] [] w := by
  intro n
  induction n with
  | zero =>
    intro x4 x5 w hD
    cases hD
  | succ n3 ih =>
    intro x4 x5 w6 hD
    unfold L_X12_fullPit_5 at hD
    refine g_aload_n h 0 t_X12_fullPit_5 rfl ?_
    refine g_aload_n h 1 t_X12_fullPit_6 rfl ?_
    refine g_iload h 3 t_X12_fullPit_7 rfl ?_
    refine g_callVI h 119 (As := [.ref (ρ q1), .int x5]) (st := []) my_X12_refuses mi_X12_refuses ml_12_264 rfl (by decide) rfl rfl rfl (Nat.le_of_ble_eq_true rfl) (by decide) t_X12_fullPit_9 hD (fun _ _ e => S_X12_refuses hρ hq1 e) (fun x8 w7 hD => ?_)
    refine g_join (P := fun k10 => ∀ (w9 : Wd), k10 w9 = some rr → gG ρ cs G X 19 [(0, .ref (ρ 119)), (1, .ref (ρ q1)), (3, .int x4), (4, .int x5)] [] w9) hD ?_ (fun k10 hk10 hD => ?_)
    · intro w9 hD
      unfold J_X12_fullPit_j19_2 at hD
      refine g_iload_n h 2 t_X12_fullPit_19 rfl ?_
      refine g_aload_n h 0 t_X12_fullPit_20 rfl ?_
      refine g_aload_n h 1 t_X12_fullPit_21 rfl ?_
      refine g_iload h 3 t_X12_fullPit_22 rfl ?_
      refine g_callVI h 119 (As := [.ref (ρ q1), .int x5]) (st := [.int x4]) my_X12_refuses mi_X12_refuses ml_12_264 rfl (by decide) rfl rfl rfl (Nat.le_of_ble_eq_true rfl) (by decide) t_X12_fullPit_24 hD (fun _ _ e => S_X12_refuses hρ hq1 e) (fun x12 w11 hD => ?_)
      refine g_join (P := fun k15 => ∀ (x13 : Int32) (w14 : Wd), k15 x13 w14 = some rr → gG ρ cs G X 35 [(0, .ref (ρ 119)), (1, .ref (ρ q1)), (4, .int x5)] [.int x13, .int x4] w14) hD ?_ (fun k15 hk15 hD => ?_)
      · intro x13 w14 hD
        unfold J_X12_fullPit_j35_1 at hD
        refine g_isub h t_X12_fullPit_35 ?_
        refine g_bdI hD (fun x16 hD => ?_)
        refine g_istore_n (L' := [(3, .int x16), (0, .ref (ρ 119)), (1, .ref (ρ q1)), (4, .int x5)]) h hn t_X12_fullPit_36 rfl (by decide) rfl ?_
        obtain ⟨x17, ex17, hD⟩ := bd_ex hD
        refine g_iinc (v := x17) (L' := [(4, .int x17), (3, .int x16), (0, .ref (ρ 119)), (1, .ref (ρ q1))]) h hn t_X12_fullPit_37 (k := 3) rfl (by rw [ex17]; rfl) (by decide) rfl ?_
        refine g_goto (tgt := 5) h t_X12_fullPit_40 (by decide) ?_
        refine g_loc (L' := [(0, .ref (ρ 119)), (1, .ref (ρ q1)), (3, .int x16), (4, .int x17)]) h [2, 3, 1, 0] rfl ?_
        exact ih x16 x17 _ hD
      · refine g_if_ne (tgt := 34) h t_X12_fullPit_27 (by decide) hD (fun hD => ?_) (fun hD => ?_)
        · refine g_iconst (v := 0) h t_X12_fullPit_34 (by decide) ?_
          refine g_loc (L' := [(0, .ref (ρ 119)), (1, .ref (ρ q1)), (4, .int x5)]) h [0, 1, 3] rfl ?_
          exact hk15 0 _ hD
        · refine g_iconst (v := 1) h t_X12_fullPit_30 (by decide) ?_
          refine g_goto (tgt := 35) h t_X12_fullPit_31 (by decide) ?_
          refine g_loc (L' := [(0, .ref (ρ 119)), (1, .ref (ρ q1)), (4, .int x5)]) h [0, 1, 3] rfl ?_
          exact hk15 1 _ hD
    · refine g_if_lt (tgt := 19) h t_X12_fullPit_12 (by decide) hD (fun hD => ?_) (fun hD => ?_)
      · refine g_loc (L' := [(0, .ref (ρ 119)), (1, .ref (ρ q1)), (3, .int x4), (4, .int x5)]) h [0, 1, 2, 3] rfl ?_
        exact hk10 _ hD
      · refine g_iload_n h 2 t_X12_fullPit_15 rfl ?_
        refine g_if_le (tgt := 43) h t_X12_fullPit_16 (by decide) hD (fun hD => ?_) (fun hD => ?_)
        · refine g_loc (L' := [(4, .int x5)]) h [3] rfl ?_
          exact hk2 x5 _ hD
        · refine g_loc (L' := [(0, .ref (ρ 119)), (1, .ref (ρ q1)), (3, .int x4), (4, .int x5)]) h [0, 1, 2, 3] rfl ?_
          exact hk10 _ hD
set_option maxRecDepth 20000 in
theorem S_X12_fullPit {l0 : Launch} {ρ : Nat → Nat} {cs : Nat → ClassId} {G : va_G} (hρ : injN ρ) {o1 : Nat} (ho1 : isIA o1) {p2 : Int32} {w : Wd} {rr : (Int32 × Wd)} (hD : D_X12_fullPit o1 p2 w = some rr) : CtI l0 ρ cs G y_X12_fullPit prog_14_method_103_code 5 .int 2 [.ref (ρ 119), .ref (ρ o1), .int p2] w rr.1 rr.2 := by
  refine ctI_of hρ (by decide) (Nat.le_of_ble_eq_true rfl) (fun X hn h hR => ?_)
  unfold D_X12_fullPit at hD
  show gG ρ cs G X 0 [(0, .ref (ρ 119)), (1, .ref (ρ o1)), (2, .int p2)] [] w
  refine g_iload_n h 2 t_X12_fullPit_0 rfl ?_
  refine g_istore_n (L' := [(3, .int p2), (0, .ref (ρ 119)), (1, .ref (ρ o1)), (2, .int p2)]) h hn t_X12_fullPit_1 rfl (by decide) rfl ?_
  refine g_iconst (v := 0) h t_X12_fullPit_2 (by decide) ?_
  refine g_istore (L' := [(4, .int 0), (3, .int p2), (0, .ref (ρ 119)), (1, .ref (ρ o1)), (2, .int p2)]) h hn t_X12_fullPit_3 (by decide) rfl ?_
  refine g_loc (L' := [(0, .ref (ρ 119)), (1, .ref (ρ o1)), (3, .int p2), (4, .int 0)]) h [2, 3, 1, 0] rfl ?_
  refine Q_X12_fullPit_5 hρ hn h hR ho1 ?_ _ _ _ _ hD
  · intro x18 w19 hD
    unfold J_X12_fullPit_x43_3 at hD
    refine g_iload h 0 t_X12_fullPit_43 rfl ?_
    obtain rfl := Option.some.inj hD
    exact hR _ _ t_X12_fullPit_45 rfl
def J_X12_years_j101_1 (r72 : Int32 → Int32 → Wd → Option (Int32 × Wd)) (x26 : Int32) (x27 : Int32) : Int32 → Wd → Option (Int32 × Wd) := fun x31 w32 =>
  bd (x26 + x31) fun x34 => bd (x27 + 1) fun x35 => r72 x34 x35 w32
def L_X12_years_72 (x20 : Int32) (x21 : Int32) (x22 : Int32) (x23 : Int32) (k24 : Int32 → Wd → Option (Int32 × Wd)) : Nat → Int32 → Int32 → Wd → Option (Int32 × Wd)
  | 0, _, _, _ => none
  | n25 + 1, x26, x27, w28 =>
    if (w28.1 119 1) ≤ x27 then (k24 x26 w28) else (bc (D_X12_refuses 129 x27 w28) fun x30 w29 => bd (J_X12_years_j101_1 (L_X12_years_72 x20 x21 x22 x23 k24 n25) x26 x27) fun k33 => if x30 = 0 then (k33 1 w29) else (k33 0 w29))
def J_X12_years_j150_2 (x9 : Int32) (k18 : Int32 → Wd → Option (Int32 × Wd)) : Wd → Option (Int32 × Wd) := fun w38 =>
  bd (x9 + 1) fun x40 => k18 x40 w38
def J_X12_years_x110_3 (x9 : Int32) (k18 : Int32 → Wd → Option (Int32 × Wd)) (x13 : Int32) : Int32 → Wd → Option (Int32 × Wd) := fun x36 w37 =>
  bd (J_X12_years_j150_2 x9 k18) fun k39 => if x13 = 2 then (bc (D_X12_goRule 129 w37) fun x47 w46 => k39 w46) else (bc (D_X12_draw x36 w37) fun x42 w41 => bc (D_X12_fullPit 129 x42 w41) fun x44 w43 => bv (D_X12_goMove 129 x44 w43) fun w45 => k39 w45)
def J_X12_years_j153_4 (r39 : Int32 → Int32 → Wd → Option (Int32 × Wd)) (x10 : Int32) : Int32 → Wd → Option (Int32 × Wd) := fun x16 w17 =>
  bd (x10 + 1) fun x19 => r39 x16 x19 w17
def L_X12_years_39 (x6 : Int32) (k7 : Int32 → Wd → Option (Int32 × Wd)) : Nat → Int32 → Int32 → Wd → Option (Int32 × Wd)
  | 0, _, _, _ => none
  | n8 + 1, x9, x10, w11 =>
    if x6 ≤ x10 then (k7 x9 w11) else (bc (D_X12_draw 3 w11) fun x13 w12 => bc (D_X12_isOver 129 w12) fun x15 w14 => bd (J_X12_years_j153_4 (L_X12_years_39 x6 k7 n8) x10) fun k18 => if x15 = 0 then (L_X12_years_72 x6 x9 x10 x13 (J_X12_years_x110_3 x9 k18 x13) FU 0 0 w14) else (k18 x9 w14))
def J_X12_years_x159_5  : Int32 → Wd → Option (Int32 × Wd) := fun x48 w49 =>
  bd (wI w49 119 6 0) fun w50 => bv (D_X12_tell x48.toInt64 w50) fun w51 => if ib 14 16 then (bv (D_X12_tell ((w51.1 129 (14 : Int32).toNatClampNeg).toInt64) w51) fun w52 => if ib 12 16 then (if ib 13 16 then (some ((300 + (w52.1 129 (12 : Int32).toNatClampNeg)) - (w52.1 129 (13 : Int32).toNatClampNeg), w52)) else none) else none) else none
def D_X12_years (p1 : Int32) (p2 : Int32) : Wd → Option (Int32 × Wd) := fun w =>
  bd (wI w 119 7 0) fun w1 => bc (D_X12_in p2 1 60 w1) fun x3 w2 => if x3 = 0 then (some ((-1), w2)) else (bd (wI w2 119 50 p1) fun w4 => bv (D_X12_lay 120 129 0 w4) fun w5 => L_X12_years_39 p2 J_X12_years_x159_5 FU 0 0 w5)
set_option maxRecDepth 20000 in
theorem Q_X12_years_72 {l0 : Launch} {ρ : Nat → Nat} {cs : Nat → ClassId} {G : va_G} {X : Cx} (hρ : injN ρ) (hn : X.2.2.2.2.2.2.2.2.2.2.1 = 8) (h : Okx l0 ρ cs G X prog_14_method_104_code "SowingBoardsModel" 88) {rr : (Int32 × Wd)} (hR : ∀ pc L, decode prog_14_method_104_code pc = .ok (.ireturn, 1) → narrow .int (.int rr.1) = .int rr.1 → gG ρ cs G X pc L [.int rr.1] rr.2) {x20 : Int32} {x21 : Int32} {x22 : Int32} {x23 : Int32} {k24 : Int32 → Wd → Option (Int32 × Wd)} (hk24 : ∀ (z6 : Int32) (w1 : Wd), k24 z6 w1 = some rr → gG ρ cs G X 110 [(0, .ref (ρ 119)), (2, .int x20), (3, .int x21), (4, .int x22), (5, .int x23), (6, .int z6)] [] w1) : ∀ (n : Nat) (x26 : Int32) (x27 : Int32) (w : Wd), L_X12_years_72 x20 x21 x22 x23 k24 n x26 x27 w = some rr → gG ρ cs G X 72 [(0, .ref (ρ 119)), (2, .int x20), (3, .int x21), (4, .int x22), (5, .int x23), (6, .int x26), (7, .int x27)] [] w := by
  intro n
  induction n with
  | zero =>
    intro x26 x27 w hD
    cases hD
  | succ n25 ih =>
    intro x26 x27 w28 hD
    unfold L_X12_years_72 at hD
    refine g_iload h 6 t_X12_years_72 rfl ?_
    refine g_aload_n h 0 t_X12_years_74 rfl ?_
    refine g_getI h 119 1 fl_12_13 rfl (by decide) rfl t_X12_years_75 ?_
    refine g_icmp_ge (tgt := 110) h t_X12_years_78 (by decide) hD (fun hD => ?_) (fun hD => ?_)
    · refine g_loc (L' := [(0, .ref (ρ 119)), (2, .int x20), (3, .int x21), (4, .int x22), (5, .int x23), (6, .int x26)]) h [0, 1, 2, 3, 4, 5] rfl ?_
      exact hk24 x26 _ hD
    · refine g_iload h 5 t_X12_years_81 rfl ?_
      refine g_aload_n h 0 t_X12_years_83 rfl ?_
      refine g_aload_n h 0 t_X12_years_84 rfl ?_
      refine g_getR h 119 25 129 fl_12_46 rfl (by decide) rfl t_X12_years_85 ?_
      refine g_iload h 6 t_X12_years_88 rfl ?_
      refine g_callVI h 119 (As := [.ref (ρ 129), .int x27]) (st := [.int x26]) my_X12_refuses mi_X12_refuses ml_12_264 rfl (by decide) rfl rfl rfl (Nat.le_of_ble_eq_true rfl) (by decide) t_X12_years_90 hD (fun _ _ e => S_X12_refuses hρ (by decide) e) (fun x30 w29 hD => ?_)
      refine g_join (P := fun k33 => ∀ (x31 : Int32) (w32 : Wd), k33 x31 w32 = some rr → gG ρ cs G X 101 [(0, .ref (ρ 119)), (2, .int x20), (3, .int x21), (4, .int x22), (5, .int x23), (7, .int x27)] [.int x31, .int x26] w32) hD ?_ (fun k33 hk33 hD => ?_)
      · intro x31 w32 hD
        unfold J_X12_years_j101_1 at hD
        refine g_iadd h t_X12_years_101 ?_
        refine g_bdI hD (fun x34 hD => ?_)
        refine g_istore (L' := [(6, .int x34), (0, .ref (ρ 119)), (2, .int x20), (3, .int x21), (4, .int x22), (5, .int x23), (7, .int x27)]) h hn t_X12_years_102 (by decide) rfl ?_
        obtain ⟨x35, ex35, hD⟩ := bd_ex hD
        refine g_iinc (v := x35) (L' := [(7, .int x35), (6, .int x34), (0, .ref (ρ 119)), (2, .int x20), (3, .int x21), (4, .int x22), (5, .int x23)]) h hn t_X12_years_104 (k := 6) rfl (by rw [ex35]; rfl) (by decide) rfl ?_
        refine g_goto (tgt := 72) h t_X12_years_107 (by decide) ?_
        refine g_loc (L' := [(0, .ref (ρ 119)), (2, .int x20), (3, .int x21), (4, .int x22), (5, .int x23), (6, .int x34), (7, .int x35)]) h [2, 3, 4, 5, 6, 1, 0] rfl ?_
        exact ih x34 x35 _ hD
      · refine g_if_ne (tgt := 100) h t_X12_years_93 (by decide) hD (fun hD => ?_) (fun hD => ?_)
        · refine g_iconst (v := 0) h t_X12_years_100 (by decide) ?_
          refine g_loc (L' := [(0, .ref (ρ 119)), (2, .int x20), (3, .int x21), (4, .int x22), (5, .int x23), (7, .int x27)]) h [0, 1, 2, 3, 4, 6] rfl ?_
          exact hk33 0 _ hD
        · refine g_iconst (v := 1) h t_X12_years_96 (by decide) ?_
          refine g_goto (tgt := 101) h t_X12_years_97 (by decide) ?_
          refine g_loc (L' := [(0, .ref (ρ 119)), (2, .int x20), (3, .int x21), (4, .int x22), (5, .int x23), (7, .int x27)]) h [0, 1, 2, 3, 4, 6] rfl ?_
          exact hk33 1 _ hD
set_option maxRecDepth 20000 in
theorem Q_X12_years_39 {l0 : Launch} {ρ : Nat → Nat} {cs : Nat → ClassId} {G : va_G} {X : Cx} (hρ : injN ρ) (hn : X.2.2.2.2.2.2.2.2.2.2.1 = 8) (h : Okx l0 ρ cs G X prog_14_method_104_code "SowingBoardsModel" 88) {rr : (Int32 × Wd)} (hR : ∀ pc L, decode prog_14_method_104_code pc = .ok (.ireturn, 1) → narrow .int (.int rr.1) = .int rr.1 → gG ρ cs G X pc L [.int rr.1] rr.2) {x6 : Int32} {k7 : Int32 → Wd → Option (Int32 × Wd)} (hk7 : ∀ (z3 : Int32) (w1 : Wd), k7 z3 w1 = some rr → gG ρ cs G X 159 [(0, .ref (ρ 119)), (3, .int z3)] [] w1) : ∀ (n : Nat) (x9 : Int32) (x10 : Int32) (w : Wd), L_X12_years_39 x6 k7 n x9 x10 w = some rr → gG ρ cs G X 39 [(0, .ref (ρ 119)), (2, .int x6), (3, .int x9), (4, .int x10)] [] w := by
  intro n
  induction n with
  | zero =>
    intro x9 x10 w hD
    cases hD
  | succ n8 ih =>
    intro x9 x10 w11 hD
    unfold L_X12_years_39 at hD
    refine g_iload h 3 t_X12_years_39 rfl ?_
    refine g_iload_n h 1 t_X12_years_41 rfl ?_
    refine g_icmp_ge (tgt := 159) h t_X12_years_42 (by decide) hD (fun hD => ?_) (fun hD => ?_)
    · refine g_loc (L' := [(0, .ref (ρ 119)), (3, .int x9)]) h [0, 2] rfl ?_
      exact hk7 x9 _ hD
    · refine g_aload_n h 0 t_X12_years_45 rfl ?_
      refine g_iconst (v := 3) h t_X12_years_46 (by decide) ?_
      refine g_callVI h 119 (As := [.int 3]) (st := []) my_X12_draw mi_X12_draw ml_12_396 rfl (by decide) rfl rfl rfl (Nat.le_of_ble_eq_true rfl) (by decide) t_X12_years_47 hD (fun _ _ e => S_X12_draw hρ  e) (fun x13 w12 hD => ?_)
      refine g_istore (L' := [(5, .int x13), (0, .ref (ρ 119)), (2, .int x6), (3, .int x9), (4, .int x10)]) h hn t_X12_years_50 (by decide) rfl ?_
      refine g_aload_n h 1 t_X12_years_52 rfl ?_
      refine g_aload_n h 1 t_X12_years_53 rfl ?_
      refine g_getR h 119 25 129 fl_12_46 rfl (by decide) rfl t_X12_years_54 ?_
      refine g_callVI h 119 (As := [.ref (ρ 129)]) (st := []) my_X12_isOver mi_X12_isOver ml_12_282 rfl (by decide) rfl rfl rfl (Nat.le_of_ble_eq_true rfl) (by decide) t_X12_years_57 hD (fun _ _ e => S_X12_isOver hρ (by decide) e) (fun x15 w14 hD => ?_)
      refine g_join (P := fun k18 => ∀ (x16 : Int32) (w17 : Wd), k18 x16 w17 = some rr → gG ρ cs G X 153 [(0, .ref (ρ 119)), (2, .int x6), (3, .int x16), (4, .int x10)] [] w17) hD ?_ (fun k18 hk18 hD => ?_)
      · intro x16 w17 hD
        unfold J_X12_years_j153_4 at hD
        obtain ⟨x19, ex19, hD⟩ := bd_ex hD
        refine g_iinc (v := x19) (L' := [(4, .int x19), (0, .ref (ρ 119)), (2, .int x6), (3, .int x16)]) h hn t_X12_years_153 (k := 3) rfl (by rw [ex19]; rfl) (by decide) rfl ?_
        refine g_goto (tgt := 39) h t_X12_years_156 (by decide) ?_
        refine g_loc (L' := [(0, .ref (ρ 119)), (2, .int x6), (3, .int x16), (4, .int x19)]) h [1, 2, 3, 0] rfl ?_
        exact ih x16 x19 _ hD
      · refine g_if_eq (tgt := 66) h t_X12_years_60 (by decide) hD (fun hD => ?_) (fun hD => ?_)
        · refine g_iconst (v := 0) h t_X12_years_66 (by decide) ?_
          refine g_istore (L' := [(6, .int 0), (5, .int x13), (0, .ref (ρ 119)), (2, .int x6), (3, .int x9), (4, .int x10)]) h hn t_X12_years_67 (by decide) rfl ?_
          refine g_iconst (v := 0) h t_X12_years_69 (by decide) ?_
          refine g_istore (L' := [(7, .int 0), (6, .int 0), (5, .int x13), (0, .ref (ρ 119)), (2, .int x6), (3, .int x9), (4, .int x10)]) h hn t_X12_years_70 (by decide) rfl ?_
          refine g_loc (L' := [(0, .ref (ρ 119)), (2, .int x6), (3, .int x9), (4, .int x10), (5, .int x13), (6, .int 0), (7, .int 0)]) h [3, 4, 5, 6, 2, 1, 0] rfl ?_
          refine Q_X12_years_72 hρ hn h hR  ?_ _ _ _ _ hD
          · intro x36 w37 hD
            unfold J_X12_years_x110_3 at hD
            refine g_iload h 4 t_X12_years_110 rfl ?_
            refine g_iconst (v := 2) h t_X12_years_112 (by decide) ?_
            refine g_join (P := fun k39 => ∀ (w38 : Wd), k39 w38 = some rr → gG ρ cs G X 150 [(0, .ref (ρ 119)), (2, .int x6), (3, .int x9), (4, .int x10)] [] w38) hD ?_ (fun k39 hk39 hD => ?_)
            · intro w38 hD
              unfold J_X12_years_j150_2 at hD
              obtain ⟨x40, ex40, hD⟩ := bd_ex hD
              refine g_iinc (v := x40) (L' := [(3, .int x40), (0, .ref (ρ 119)), (2, .int x6), (4, .int x10)]) h hn t_X12_years_150 (k := 2) rfl (by rw [ex40]; rfl) (by decide) rfl ?_
              refine g_loc (L' := [(0, .ref (ρ 119)), (2, .int x6), (3, .int x40), (4, .int x10)]) h [1, 2, 0, 3] rfl ?_
              exact hk18 x40 _ hD
            · refine g_icmp_ne (tgt := 128) h t_X12_years_113 (by decide) hD (fun hD => ?_) (fun hD => ?_)
              · refine g_aload_n h 0 t_X12_years_128 rfl ?_
                refine g_aload_n h 0 t_X12_years_129 rfl ?_
                refine g_getR h 119 25 129 fl_12_46 rfl (by decide) rfl t_X12_years_130 ?_
                refine g_aload_n h 0 t_X12_years_133 rfl ?_
                refine g_aload_n h 0 t_X12_years_134 rfl ?_
                refine g_getR h 119 25 129 fl_12_46 rfl (by decide) rfl t_X12_years_135 ?_
                refine g_aload_n h 0 t_X12_years_138 rfl ?_
                refine g_iload h 5 t_X12_years_139 rfl ?_
                refine g_callVI h 119 (As := [.int x36]) (st := [.ref (ρ 129), .ref (ρ 119), .ref (ρ 129), .ref (ρ 119)]) my_X12_draw mi_X12_draw ml_12_396 rfl (by decide) rfl rfl rfl (Nat.le_of_ble_eq_true rfl) (by decide) t_X12_years_141 hD (fun _ _ e => S_X12_draw hρ  e) (fun x42 w41 hD => ?_)
                refine g_callVI h 119 (As := [.ref (ρ 129), .int x42]) (st := [.ref (ρ 129), .ref (ρ 119)]) my_X12_fullPit mi_X12_fullPit ml_12_399 rfl (by decide) rfl rfl rfl (Nat.le_of_ble_eq_true rfl) (by decide) t_X12_years_144 hD (fun _ _ e => S_X12_fullPit hρ (by decide) e) (fun x44 w43 hD => ?_)
                refine g_callVV h 119 (As := [.ref (ρ 129), .int x44]) (st := []) my_X12_goMove mi_X12_goMove ml_12_272 rfl (by decide) rfl rfl rfl (Nat.le_of_ble_eq_true rfl) (by decide) t_X12_years_147 hD (fun _ e => S_X12_goMove hρ (by decide) e) (fun w45 hD => ?_)
                refine g_loc (L' := [(0, .ref (ρ 119)), (2, .int x6), (3, .int x9), (4, .int x10)]) h [0, 1, 2, 3] rfl ?_
                exact hk39 _ hD
              · refine g_aload_n h 0 t_X12_years_116 rfl ?_
                refine g_aload_n h 0 t_X12_years_117 rfl ?_
                refine g_getR h 119 25 129 fl_12_46 rfl (by decide) rfl t_X12_years_118 ?_
                refine g_callVI h 119 (As := [.ref (ρ 129)]) (st := []) my_X12_goRule mi_X12_goRule ml_12_289 rfl (by decide) rfl rfl rfl (Nat.le_of_ble_eq_true rfl) (by decide) t_X12_years_121 hD (fun _ _ e => S_X12_goRule hρ (by decide) e) (fun x47 w46 hD => ?_)
                refine g_pop h t_X12_years_124 rfl ?_
                refine g_goto (tgt := 150) h t_X12_years_125 (by decide) ?_
                refine g_loc (L' := [(0, .ref (ρ 119)), (2, .int x6), (3, .int x9), (4, .int x10)]) h [0, 1, 2, 3] rfl ?_
                exact hk39 _ hD
        · refine g_goto (tgt := 153) h t_X12_years_63 (by decide) ?_
          refine g_loc (L' := [(0, .ref (ρ 119)), (2, .int x6), (3, .int x9), (4, .int x10)]) h [1, 2, 3, 4] rfl ?_
          exact hk18 x9 _ hD
set_option maxRecDepth 20000 in
theorem S_X12_years {l0 : Launch} {ρ : Nat → Nat} {cs : Nat → ClassId} {G : va_G} (hρ : injN ρ) {p1 : Int32} {p2 : Int32} {w : Wd} {rr : (Int32 × Wd)} (hD : D_X12_years p1 p2 w = some rr) : CtI l0 ρ cs G y_X12_years prog_14_method_104_code 8 .int 88 [.ref (ρ 119), .int p1, .int p2] w rr.1 rr.2 := by
  refine ctI_of hρ (by decide) (Nat.le_of_ble_eq_true rfl) (fun X hn h hR => ?_)
  unfold D_X12_years at hD
  show gG ρ cs G X 0 [(0, .ref (ρ 119)), (1, .int p1), (2, .int p2)] [] w
  refine g_aload_n h 0 t_X12_years_0 rfl ?_
  refine g_iconst (v := 0) h t_X12_years_1 (by decide) ?_
  refine g_putI h 119 7 fl_12_109 fp_12_7 rfl (by decide) rfl t_X12_years_2 hD (fun w1 hD => ?_)
  refine g_iload_n h 2 t_X12_years_5 rfl ?_
  refine g_iconst (v := 1) h t_X12_years_6 (by decide) ?_
  refine g_bipush (v := 60) h t_X12_years_7 (by decide) ?_
  refine g_callSI h (As := [.int p2, .int 1, .int 60]) (st := []) my_X12_in ms_X12_in ml_12_118 rfl rfl (Nat.le_of_ble_eq_true rfl) (by decide) t_X12_years_9 hD (fun _ _ e => S_X12_in hρ  e) (fun x3 w2 hD => ?_)
  refine g_if_ne (tgt := 17) h t_X12_years_12 (by decide) hD (fun hD => ?_) (fun hD => ?_)
  · refine g_aload_n h 0 t_X12_years_17 rfl ?_
    refine g_iload_n h 1 t_X12_years_18 rfl ?_
    refine g_putI h 119 50 fl_12_392 fp_12_50 rfl (by decide) rfl t_X12_years_19 hD (fun w4 hD => ?_)
    refine g_aload_n h 0 t_X12_years_22 rfl ?_
    refine g_getR h 119 0 120 fl_12_9 rfl (by decide) rfl t_X12_years_23 ?_
    refine g_aload_n h 0 t_X12_years_26 rfl ?_
    refine g_getR h 119 25 129 fl_12_46 rfl (by decide) rfl t_X12_years_27 ?_
    refine g_iconst (v := 0) h t_X12_years_30 (by decide) ?_
    refine g_callSV h (As := [.ref (ρ 120), .ref (ρ 129), .int 0]) (st := []) my_X12_lay ms_X12_lay ml_12_256 rfl rfl (Nat.le_of_ble_eq_true rfl) (by decide) t_X12_years_31 hD (fun _ e => S_X12_lay hρ (by decide) (by decide) e) (fun w5 hD => ?_)
    refine g_iconst (v := 0) h t_X12_years_34 (by decide) ?_
    refine g_istore_n (L' := [(3, .int 0), (0, .ref (ρ 119)), (1, .int p1), (2, .int p2)]) h hn t_X12_years_35 rfl (by decide) rfl ?_
    refine g_iconst (v := 0) h t_X12_years_36 (by decide) ?_
    refine g_istore (L' := [(4, .int 0), (3, .int 0), (0, .ref (ρ 119)), (1, .int p1), (2, .int p2)]) h hn t_X12_years_37 (by decide) rfl ?_
    refine g_loc (L' := [(0, .ref (ρ 119)), (2, .int p2), (3, .int 0), (4, .int 0)]) h [2, 4, 1, 0] rfl ?_
    refine Q_X12_years_39 hρ hn h hR  ?_ _ _ _ _ hD
    · intro x48 w49 hD
      unfold J_X12_years_x159_5 at hD
      refine g_aload_n h 0 t_X12_years_159 rfl ?_
      refine g_iconst (v := 0) h t_X12_years_160 (by decide) ?_
      refine g_putI h 119 6 fl_12_112 fp_12_6 rfl (by decide) rfl t_X12_years_161 hD (fun w50 hD => ?_)
      refine g_aload_n h 0 t_X12_years_164 rfl ?_
      refine g_iload_n h 1 t_X12_years_165 rfl ?_
      refine g_i2l h t_X12_years_166 ?_
      refine g_callVV h 119 (As := [.long x48.toInt64]) (st := []) my_X12_tell mi_X12_tell ml_12_260 rfl (by decide) rfl rfl rfl (Nat.le_of_ble_eq_true rfl) (by decide) t_X12_years_167 hD (fun _ e => S_X12_tell hρ  e) (fun w51 hD => ?_)
      refine g_aload_n h 0 t_X12_years_170 rfl ?_
      refine g_aload_n h 0 t_X12_years_171 rfl ?_
      refine g_getR h 119 25 129 fl_12_46 rfl (by decide) rfl t_X12_years_172 ?_
      refine g_bipush (v := 14) h t_X12_years_175 (by decide) ?_
      refine g_iald h 129 rfl (by decide) t_X12_years_177 hD (fun hD => ?_)
      refine g_i2l h t_X12_years_178 ?_
      refine g_callVV h 119 (As := [.long ((w51.1 129 (14 : Int32).toNatClampNeg).toInt64)]) (st := []) my_X12_tell mi_X12_tell ml_12_260 rfl (by decide) rfl rfl rfl (Nat.le_of_ble_eq_true rfl) (by decide) t_X12_years_179 hD (fun _ e => S_X12_tell hρ  e) (fun w52 hD => ?_)
      refine g_sipush (v := 300) h t_X12_years_182 (by decide) ?_
      refine g_aload_n h 0 t_X12_years_185 rfl ?_
      refine g_getR h 119 25 129 fl_12_46 rfl (by decide) rfl t_X12_years_186 ?_
      refine g_bipush (v := 12) h t_X12_years_189 (by decide) ?_
      refine g_iald h 129 rfl (by decide) t_X12_years_191 hD (fun hD => ?_)
      refine g_iadd h t_X12_years_192 ?_
      refine g_aload_n h 0 t_X12_years_193 rfl ?_
      refine g_getR h 119 25 129 fl_12_46 rfl (by decide) rfl t_X12_years_194 ?_
      refine g_bipush (v := 13) h t_X12_years_197 (by decide) ?_
      refine g_iald h 129 rfl (by decide) t_X12_years_199 hD (fun hD => ?_)
      refine g_isub h t_X12_years_200 ?_
      obtain rfl := Option.some.inj hD
      exact hR _ _ t_X12_years_201 rfl
  · refine g_iconst (v := (-1)) h t_X12_years_15 (by decide) ?_
    obtain rfl := Option.some.inj hD
    exact hR _ _ t_X12_years_16 rfl
