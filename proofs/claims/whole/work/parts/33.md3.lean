def y_X12_goReach : MethodName := ⟨"SowingBoardsModel", "goReach", "(II)V"⟩
theorem t_X12_goReach_0 : decode prog_14_method_71_code 0 = .ok (.iload_n 1, 1) := by decide +kernel
theorem t_X12_goReach_1 : decode prog_14_method_71_code 1 = .ok (.iload_n 2, 1) := by decide +kernel
theorem t_X12_goReach_2 : decode prog_14_method_71_code 2 = .ok (.if_icmp .ne 65, 3) := by decide +kernel
theorem t_X12_goReach_5 : decode prog_14_method_71_code 5 = .ok (.iconst 0, 1) := by decide +kernel
theorem t_X12_goReach_6 : decode prog_14_method_71_code 6 = .ok (.istore_n 3, 1) := by decide +kernel
theorem t_X12_goReach_7 : decode prog_14_method_71_code 7 = .ok (.iload_n 3, 1) := by decide +kernel
theorem t_X12_goReach_8 : decode prog_14_method_71_code 8 = .ok (.aload_n 0, 1) := by decide +kernel
theorem t_X12_goReach_9 : decode prog_14_method_71_code 9 = .ok (.getfield 326, 3) := by decide +kernel
theorem t_X12_goReach_12 : decode prog_14_method_71_code 12 = .ok (.if_icmp .ge 24, 3) := by decide +kernel
theorem t_X12_goReach_15 : decode prog_14_method_71_code 15 = .ok (.aload_n 0, 1) := by decide +kernel
theorem t_X12_goReach_16 : decode prog_14_method_71_code 16 = .ok (.aload_n 0, 1) := by decide +kernel
theorem t_X12_goReach_17 : decode prog_14_method_71_code 17 = .ok (.getfield 57, 3) := by decide +kernel
theorem t_X12_goReach_20 : decode prog_14_method_71_code 20 = .ok (.iload_n 1, 1) := by decide +kernel
theorem t_X12_goReach_21 : decode prog_14_method_71_code 21 = .ok (.aaload, 1) := by decide +kernel
theorem t_X12_goReach_22 : decode prog_14_method_71_code 22 = .ok (.iload_n 3, 1) := by decide +kernel
theorem t_X12_goReach_23 : decode prog_14_method_71_code 23 = .ok (.invokevirtual 329, 3) := by decide +kernel
theorem t_X12_goReach_26 : decode prog_14_method_71_code 26 = .ok (.ifCond .eq 4, 3) := by decide +kernel
theorem t_X12_goReach_29 : decode prog_14_method_71_code 29 = .ok (.return_, 1) := by decide +kernel
theorem t_X12_goReach_30 : decode prog_14_method_71_code 30 = .ok (.iinc 3 1, 3) := by decide +kernel
theorem t_X12_goReach_33 : decode prog_14_method_71_code 33 = .ok (.goto (-26), 3) := by decide +kernel
theorem t_X12_goReach_36 : decode prog_14_method_71_code 36 = .ok (.aload_n 0, 1) := by decide +kernel
theorem t_X12_goReach_37 : decode prog_14_method_71_code 37 = .ok (.getfield 57, 3) := by decide +kernel
theorem t_X12_goReach_40 : decode prog_14_method_71_code 40 = .ok (.iload_n 1, 1) := by decide +kernel
theorem t_X12_goReach_41 : decode prog_14_method_71_code 41 = .ok (.aaload, 1) := by decide +kernel
theorem t_X12_goReach_42 : decode prog_14_method_71_code 42 = .ok (.aload_n 0, 1) := by decide +kernel
theorem t_X12_goReach_43 : decode prog_14_method_71_code 43 = .ok (.getfield 72, 3) := by decide +kernel
theorem t_X12_goReach_46 : decode prog_14_method_71_code 46 = .ok (.bipush 16, 2) := by decide +kernel
theorem t_X12_goReach_48 : decode prog_14_method_71_code 48 = .ok (.aload_n 0, 1) := by decide +kernel
theorem t_X12_goReach_49 : decode prog_14_method_71_code 49 = .ok (.getfield 326, 3) := by decide +kernel
theorem t_X12_goReach_52 : decode prog_14_method_71_code 52 = .ok (.imul, 1) := by decide +kernel
theorem t_X12_goReach_53 : decode prog_14_method_71_code 53 = .ok (.invokestatic 256, 3) := by decide +kernel
theorem t_X12_goReach_56 : decode prog_14_method_71_code 56 = .ok (.aload_n 0, 1) := by decide +kernel
theorem t_X12_goReach_57 : decode prog_14_method_71_code 57 = .ok (.dup, 1) := by decide +kernel
theorem t_X12_goReach_58 : decode prog_14_method_71_code 58 = .ok (.getfield 326, 3) := by decide +kernel
theorem t_X12_goReach_61 : decode prog_14_method_71_code 61 = .ok (.iconst 1, 1) := by decide +kernel
theorem t_X12_goReach_62 : decode prog_14_method_71_code 62 = .ok (.iadd, 1) := by decide +kernel
theorem t_X12_goReach_63 : decode prog_14_method_71_code 63 = .ok (.putfield 326, 3) := by decide +kernel
theorem t_X12_goReach_66 : decode prog_14_method_71_code 66 = .ok (.return_, 1) := by decide +kernel
theorem t_X12_goReach_67 : decode prog_14_method_71_code 67 = .ok (.iconst 0, 1) := by decide +kernel
theorem t_X12_goReach_68 : decode prog_14_method_71_code 68 = .ok (.istore_n 3, 1) := by decide +kernel
theorem t_X12_goReach_69 : decode prog_14_method_71_code 69 = .ok (.iload_n 3, 1) := by decide +kernel
theorem t_X12_goReach_70 : decode prog_14_method_71_code 70 = .ok (.aload_n 0, 1) := by decide +kernel
theorem t_X12_goReach_71 : decode prog_14_method_71_code 71 = .ok (.getfield 13, 3) := by decide +kernel
theorem t_X12_goReach_74 : decode prog_14_method_71_code 74 = .ok (.if_icmp .ge 65, 3) := by decide +kernel
theorem t_X12_goReach_77 : decode prog_14_method_71_code 77 = .ok (.aload_n 0, 1) := by decide +kernel
theorem t_X12_goReach_78 : decode prog_14_method_71_code 78 = .ok (.aload_n 0, 1) := by decide +kernel
theorem t_X12_goReach_79 : decode prog_14_method_71_code 79 = .ok (.getfield 57, 3) := by decide +kernel
theorem t_X12_goReach_82 : decode prog_14_method_71_code 82 = .ok (.iload_n 1, 1) := by decide +kernel
theorem t_X12_goReach_83 : decode prog_14_method_71_code 83 = .ok (.aaload, 1) := by decide +kernel
theorem t_X12_goReach_84 : decode prog_14_method_71_code 84 = .ok (.iload_n 3, 1) := by decide +kernel
theorem t_X12_goReach_85 : decode prog_14_method_71_code 85 = .ok (.invokevirtual 264, 3) := by decide +kernel
theorem t_X12_goReach_88 : decode prog_14_method_71_code 88 = .ok (.ifCond .ge 6, 3) := by decide +kernel
theorem t_X12_goReach_91 : decode prog_14_method_71_code 91 = .ok (.goto 42, 3) := by decide +kernel
theorem t_X12_goReach_94 : decode prog_14_method_71_code 94 = .ok (.aload_n 0, 1) := by decide +kernel
theorem t_X12_goReach_95 : decode prog_14_method_71_code 95 = .ok (.getfield 57, 3) := by decide +kernel
theorem t_X12_goReach_98 : decode prog_14_method_71_code 98 = .ok (.iload_n 1, 1) := by decide +kernel
theorem t_X12_goReach_99 : decode prog_14_method_71_code 99 = .ok (.aaload, 1) := by decide +kernel
theorem t_X12_goReach_100 : decode prog_14_method_71_code 100 = .ok (.aload_n 0, 1) := by decide +kernel
theorem t_X12_goReach_101 : decode prog_14_method_71_code 101 = .ok (.getfield 57, 3) := by decide +kernel
theorem t_X12_goReach_104 : decode prog_14_method_71_code 104 = .ok (.iload_n 1, 1) := by decide +kernel
theorem t_X12_goReach_105 : decode prog_14_method_71_code 105 = .ok (.iconst 1, 1) := by decide +kernel
theorem t_X12_goReach_106 : decode prog_14_method_71_code 106 = .ok (.iadd, 1) := by decide +kernel
theorem t_X12_goReach_107 : decode prog_14_method_71_code 107 = .ok (.aaload, 1) := by decide +kernel
theorem t_X12_goReach_108 : decode prog_14_method_71_code 108 = .ok (.iconst 0, 1) := by decide +kernel
theorem t_X12_goReach_109 : decode prog_14_method_71_code 109 = .ok (.invokestatic 256, 3) := by decide +kernel
theorem t_X12_goReach_112 : decode prog_14_method_71_code 112 = .ok (.aload_n 0, 1) := by decide +kernel
theorem t_X12_goReach_113 : decode prog_14_method_71_code 113 = .ok (.aload_n 0, 1) := by decide +kernel
theorem t_X12_goReach_114 : decode prog_14_method_71_code 114 = .ok (.getfield 57, 3) := by decide +kernel
theorem t_X12_goReach_117 : decode prog_14_method_71_code 117 = .ok (.iload_n 1, 1) := by decide +kernel
theorem t_X12_goReach_118 : decode prog_14_method_71_code 118 = .ok (.iconst 1, 1) := by decide +kernel
theorem t_X12_goReach_119 : decode prog_14_method_71_code 119 = .ok (.iadd, 1) := by decide +kernel
theorem t_X12_goReach_120 : decode prog_14_method_71_code 120 = .ok (.aaload, 1) := by decide +kernel
theorem t_X12_goReach_121 : decode prog_14_method_71_code 121 = .ok (.iload_n 3, 1) := by decide +kernel
theorem t_X12_goReach_122 : decode prog_14_method_71_code 122 = .ok (.invokevirtual 272, 3) := by decide +kernel
theorem t_X12_goReach_125 : decode prog_14_method_71_code 125 = .ok (.aload_n 0, 1) := by decide +kernel
theorem t_X12_goReach_126 : decode prog_14_method_71_code 126 = .ok (.iload_n 1, 1) := by decide +kernel
theorem t_X12_goReach_127 : decode prog_14_method_71_code 127 = .ok (.iconst 1, 1) := by decide +kernel
theorem t_X12_goReach_128 : decode prog_14_method_71_code 128 = .ok (.iadd, 1) := by decide +kernel
theorem t_X12_goReach_129 : decode prog_14_method_71_code 129 = .ok (.iload_n 2, 1) := by decide +kernel
theorem t_X12_goReach_130 : decode prog_14_method_71_code 130 = .ok (.invokevirtual 333, 3) := by decide +kernel
theorem t_X12_goReach_133 : decode prog_14_method_71_code 133 = .ok (.iinc 3 1, 3) := by decide +kernel
theorem t_X12_goReach_136 : decode prog_14_method_71_code 136 = .ok (.goto (-67), 3) := by decide +kernel
theorem t_X12_goReach_139 : decode prog_14_method_71_code 139 = .ok (.return_, 1) := by decide +kernel
def y_X12_reach : MethodName := ⟨"SowingBoardsModel", "reach", "(I)I"⟩
theorem t_X12_reach_0 : decode prog_14_method_72_code 0 = .ok (.aload_n 0, 1) := by decide +kernel
theorem t_X12_reach_1 : decode prog_14_method_72_code 1 = .ok (.iconst 0, 1) := by decide +kernel
theorem t_X12_reach_2 : decode prog_14_method_72_code 2 = .ok (.putfield 109, 3) := by decide +kernel
theorem t_X12_reach_5 : decode prog_14_method_72_code 5 = .ok (.iload_n 1, 1) := by decide +kernel
theorem t_X12_reach_6 : decode prog_14_method_72_code 6 = .ok (.iconst 0, 1) := by decide +kernel
theorem t_X12_reach_7 : decode prog_14_method_72_code 7 = .ok (.iconst 3, 1) := by decide +kernel
theorem t_X12_reach_8 : decode prog_14_method_72_code 8 = .ok (.invokestatic 118, 3) := by decide +kernel
theorem t_X12_reach_11 : decode prog_14_method_72_code 11 = .ok (.ifCond .ne 5, 3) := by decide +kernel
theorem t_X12_reach_14 : decode prog_14_method_72_code 14 = .ok (.iconst (-1), 1) := by decide +kernel
theorem t_X12_reach_15 : decode prog_14_method_72_code 15 = .ok (.ireturn, 1) := by decide +kernel
theorem t_X12_reach_16 : decode prog_14_method_72_code 16 = .ok (.aload_n 0, 1) := by decide +kernel
theorem t_X12_reach_17 : decode prog_14_method_72_code 17 = .ok (.iconst 0, 1) := by decide +kernel
theorem t_X12_reach_18 : decode prog_14_method_72_code 18 = .ok (.putfield 326, 3) := by decide +kernel
theorem t_X12_reach_21 : decode prog_14_method_72_code 21 = .ok (.aload_n 0, 1) := by decide +kernel
theorem t_X12_reach_22 : decode prog_14_method_72_code 22 = .ok (.getfield 9, 3) := by decide +kernel
theorem t_X12_reach_25 : decode prog_14_method_72_code 25 = .ok (.aload_n 0, 1) := by decide +kernel
theorem t_X12_reach_26 : decode prog_14_method_72_code 26 = .ok (.getfield 57, 3) := by decide +kernel
theorem t_X12_reach_29 : decode prog_14_method_72_code 29 = .ok (.iconst 0, 1) := by decide +kernel
theorem t_X12_reach_30 : decode prog_14_method_72_code 30 = .ok (.aaload, 1) := by decide +kernel
theorem t_X12_reach_31 : decode prog_14_method_72_code 31 = .ok (.iconst 0, 1) := by decide +kernel
theorem t_X12_reach_32 : decode prog_14_method_72_code 32 = .ok (.invokestatic 256, 3) := by decide +kernel
theorem t_X12_reach_35 : decode prog_14_method_72_code 35 = .ok (.aload_n 0, 1) := by decide +kernel
theorem t_X12_reach_36 : decode prog_14_method_72_code 36 = .ok (.iconst 0, 1) := by decide +kernel
theorem t_X12_reach_37 : decode prog_14_method_72_code 37 = .ok (.iload_n 1, 1) := by decide +kernel
theorem t_X12_reach_38 : decode prog_14_method_72_code 38 = .ok (.invokevirtual 333, 3) := by decide +kernel
theorem t_X12_reach_41 : decode prog_14_method_72_code 41 = .ok (.ldc_w 337, 3) := by decide +kernel
theorem t_X12_reach_44 : decode prog_14_method_72_code 44 = .ok (.istore_n 2, 1) := by decide +kernel
theorem t_X12_reach_45 : decode prog_14_method_72_code 45 = .ok (.iconst (-1), 1) := by decide +kernel
theorem t_X12_reach_46 : decode prog_14_method_72_code 46 = .ok (.istore_n 3, 1) := by decide +kernel
theorem t_X12_reach_47 : decode prog_14_method_72_code 47 = .ok (.iconst 0, 1) := by decide +kernel
theorem t_X12_reach_48 : decode prog_14_method_72_code 48 = .ok (.istore 4, 2) := by decide +kernel
theorem t_X12_reach_50 : decode prog_14_method_72_code 50 = .ok (.iload 4, 2) := by decide +kernel
theorem t_X12_reach_52 : decode prog_14_method_72_code 52 = .ok (.aload_n 0, 1) := by decide +kernel
theorem t_X12_reach_53 : decode prog_14_method_72_code 53 = .ok (.getfield 326, 3) := by decide +kernel
theorem t_X12_reach_56 : decode prog_14_method_72_code 56 = .ok (.if_icmp .ge 46, 3) := by decide +kernel
theorem t_X12_reach_59 : decode prog_14_method_72_code 59 = .ok (.aload_n 0, 1) := by decide +kernel
theorem t_X12_reach_60 : decode prog_14_method_72_code 60 = .ok (.getfield 72, 3) := by decide +kernel
theorem t_X12_reach_63 : decode prog_14_method_72_code 63 = .ok (.bipush 16, 2) := by decide +kernel
theorem t_X12_reach_65 : decode prog_14_method_72_code 65 = .ok (.iload 4, 2) := by decide +kernel
theorem t_X12_reach_67 : decode prog_14_method_72_code 67 = .ok (.imul, 1) := by decide +kernel
theorem t_X12_reach_68 : decode prog_14_method_72_code 68 = .ok (.bipush 12, 2) := by decide +kernel
theorem t_X12_reach_70 : decode prog_14_method_72_code 70 = .ok (.iadd, 1) := by decide +kernel
theorem t_X12_reach_71 : decode prog_14_method_72_code 71 = .ok (.aload_n 0, 1) := by decide +kernel
theorem t_X12_reach_72 : decode prog_14_method_72_code 72 = .ok (.getfield 9, 3) := by decide +kernel
theorem t_X12_reach_75 : decode prog_14_method_72_code 75 = .ok (.bipush 14, 2) := by decide +kernel
theorem t_X12_reach_77 : decode prog_14_method_72_code 77 = .ok (.iaload, 1) := by decide +kernel
theorem t_X12_reach_78 : decode prog_14_method_72_code 78 = .ok (.iadd, 1) := by decide +kernel
theorem t_X12_reach_79 : decode prog_14_method_72_code 79 = .ok (.iaload, 1) := by decide +kernel
theorem t_X12_reach_80 : decode prog_14_method_72_code 80 = .ok (.istore 5, 2) := by decide +kernel
theorem t_X12_reach_82 : decode prog_14_method_72_code 82 = .ok (.iload_n 2, 1) := by decide +kernel
theorem t_X12_reach_83 : decode prog_14_method_72_code 83 = .ok (.iload 5, 2) := by decide +kernel
theorem t_X12_reach_85 : decode prog_14_method_72_code 85 = .ok (.invokestatic 220, 3) := by decide +kernel
theorem t_X12_reach_88 : decode prog_14_method_72_code 88 = .ok (.istore_n 2, 1) := by decide +kernel
theorem t_X12_reach_89 : decode prog_14_method_72_code 89 = .ok (.iload_n 3, 1) := by decide +kernel
theorem t_X12_reach_90 : decode prog_14_method_72_code 90 = .ok (.iload 5, 2) := by decide +kernel
theorem t_X12_reach_92 : decode prog_14_method_72_code 92 = .ok (.invokestatic 226, 3) := by decide +kernel
theorem t_X12_reach_95 : decode prog_14_method_72_code 95 = .ok (.istore_n 3, 1) := by decide +kernel
theorem t_X12_reach_96 : decode prog_14_method_72_code 96 = .ok (.iinc 4 1, 3) := by decide +kernel
theorem t_X12_reach_99 : decode prog_14_method_72_code 99 = .ok (.goto (-49), 3) := by decide +kernel
theorem t_X12_reach_102 : decode prog_14_method_72_code 102 = .ok (.aload_n 0, 1) := by decide +kernel
theorem t_X12_reach_103 : decode prog_14_method_72_code 103 = .ok (.iconst 0, 1) := by decide +kernel
theorem t_X12_reach_104 : decode prog_14_method_72_code 104 = .ok (.putfield 112, 3) := by decide +kernel
theorem t_X12_reach_107 : decode prog_14_method_72_code 107 = .ok (.aload_n 0, 1) := by decide +kernel
theorem t_X12_reach_108 : decode prog_14_method_72_code 108 = .ok (.getfield 326, 3) := by decide +kernel
theorem t_X12_reach_111 : decode prog_14_method_72_code 111 = .ok (.ifCond .le 15, 3) := by decide +kernel
theorem t_X12_reach_114 : decode prog_14_method_72_code 114 = .ok (.aload_n 0, 1) := by decide +kernel
theorem t_X12_reach_115 : decode prog_14_method_72_code 115 = .ok (.iload_n 2, 1) := by decide +kernel
theorem t_X12_reach_116 : decode prog_14_method_72_code 116 = .ok (.i2l, 1) := by decide +kernel
theorem t_X12_reach_117 : decode prog_14_method_72_code 117 = .ok (.invokevirtual 260, 3) := by decide +kernel
theorem t_X12_reach_120 : decode prog_14_method_72_code 120 = .ok (.aload_n 0, 1) := by decide +kernel
theorem t_X12_reach_121 : decode prog_14_method_72_code 121 = .ok (.iload_n 3, 1) := by decide +kernel
theorem t_X12_reach_122 : decode prog_14_method_72_code 122 = .ok (.i2l, 1) := by decide +kernel
theorem t_X12_reach_123 : decode prog_14_method_72_code 123 = .ok (.invokevirtual 260, 3) := by decide +kernel
theorem t_X12_reach_126 : decode prog_14_method_72_code 126 = .ok (.aload_n 0, 1) := by decide +kernel
theorem t_X12_reach_127 : decode prog_14_method_72_code 127 = .ok (.getfield 326, 3) := by decide +kernel
theorem t_X12_reach_130 : decode prog_14_method_72_code 130 = .ok (.ireturn, 1) := by decide +kernel
def y_X12_common : MethodName := ⟨"SowingBoardsModel", "common", "(JJ)J"⟩
theorem t_X12_common_0 : decode prog_14_method_73_code 0 = .ok (.lload_n 2, 1) := by decide +kernel
theorem t_X12_common_1 : decode prog_14_method_73_code 1 = .ok (.lconst 0, 1) := by decide +kernel
theorem t_X12_common_2 : decode prog_14_method_73_code 2 = .ok (.lcmp, 1) := by decide +kernel
theorem t_X12_common_3 : decode prog_14_method_73_code 3 = .ok (.ifCond .ne 7, 3) := by decide +kernel
theorem t_X12_common_6 : decode prog_14_method_73_code 6 = .ok (.lload_n 0, 1) := by decide +kernel
theorem t_X12_common_7 : decode prog_14_method_73_code 7 = .ok (.goto 10, 3) := by decide +kernel
theorem t_X12_common_10 : decode prog_14_method_73_code 10 = .ok (.lload_n 2, 1) := by decide +kernel
theorem t_X12_common_11 : decode prog_14_method_73_code 11 = .ok (.lload_n 0, 1) := by decide +kernel
theorem t_X12_common_12 : decode prog_14_method_73_code 12 = .ok (.lload_n 2, 1) := by decide +kernel
theorem t_X12_common_13 : decode prog_14_method_73_code 13 = .ok (.lrem, 1) := by decide +kernel
theorem t_X12_common_14 : decode prog_14_method_73_code 14 = .ok (.invokestatic 338, 3) := by decide +kernel
theorem t_X12_common_17 : decode prog_14_method_73_code 17 = .ok (.lreturn, 1) := by decide +kernel
def y_X12_luckOf : MethodName := ⟨"SowingBoardsModel", "luckOf", "(III)J"⟩
theorem t_X12_luckOf_0 : decode prog_14_method_74_code 0 = .ok (.aload_n 0, 1) := by decide +kernel
theorem t_X12_luckOf_1 : decode prog_14_method_74_code 1 = .ok (.getfield 57, 3) := by decide +kernel
theorem t_X12_luckOf_4 : decode prog_14_method_74_code 4 = .ok (.iload_n 1, 1) := by decide +kernel
theorem t_X12_luckOf_5 : decode prog_14_method_74_code 5 = .ok (.aaload, 1) := by decide +kernel
theorem t_X12_luckOf_6 : decode prog_14_method_74_code 6 = .ok (.astore 4, 2) := by decide +kernel
theorem t_X12_luckOf_8 : decode prog_14_method_74_code 8 = .ok (.lconst 1, 1) := by decide +kernel
theorem t_X12_luckOf_9 : decode prog_14_method_74_code 9 = .ok (.lstore 5, 2) := by decide +kernel
theorem t_X12_luckOf_11 : decode prog_14_method_74_code 11 = .ok (.iload_n 1, 1) := by decide +kernel
theorem t_X12_luckOf_12 : decode prog_14_method_74_code 12 = .ok (.istore 7, 2) := by decide +kernel
theorem t_X12_luckOf_14 : decode prog_14_method_74_code 14 = .ok (.iload 7, 2) := by decide +kernel
theorem t_X12_luckOf_16 : decode prog_14_method_74_code 16 = .ok (.iload_n 2, 1) := by decide +kernel
theorem t_X12_luckOf_17 : decode prog_14_method_74_code 17 = .ok (.if_icmp .ge 17, 3) := by decide +kernel
theorem t_X12_luckOf_20 : decode prog_14_method_74_code 20 = .ok (.lload 5, 2) := by decide +kernel
theorem t_X12_luckOf_22 : decode prog_14_method_74_code 22 = .ok (.ldc2_w 342, 3) := by decide +kernel
theorem t_X12_luckOf_25 : decode prog_14_method_74_code 25 = .ok (.lmul, 1) := by decide +kernel
theorem t_X12_luckOf_26 : decode prog_14_method_74_code 26 = .ok (.lstore 5, 2) := by decide +kernel
theorem t_X12_luckOf_28 : decode prog_14_method_74_code 28 = .ok (.iinc 7 1, 3) := by decide +kernel
theorem t_X12_luckOf_31 : decode prog_14_method_74_code 31 = .ok (.goto (-17), 3) := by decide +kernel
theorem t_X12_luckOf_34 : decode prog_14_method_74_code 34 = .ok (.iload_n 1, 1) := by decide +kernel
theorem t_X12_luckOf_35 : decode prog_14_method_74_code 35 = .ok (.iload_n 2, 1) := by decide +kernel
theorem t_X12_luckOf_36 : decode prog_14_method_74_code 36 = .ok (.if_icmp .eq 12, 3) := by decide +kernel
theorem t_X12_luckOf_39 : decode prog_14_method_74_code 39 = .ok (.aload_n 0, 1) := by decide +kernel
theorem t_X12_luckOf_40 : decode prog_14_method_74_code 40 = .ok (.aload 4, 2) := by decide +kernel
theorem t_X12_luckOf_42 : decode prog_14_method_74_code 42 = .ok (.invokevirtual 282, 3) := by decide +kernel
theorem t_X12_luckOf_45 : decode prog_14_method_74_code 45 = .ok (.ifCond .eq 19, 3) := by decide +kernel
theorem t_X12_luckOf_48 : decode prog_14_method_74_code 48 = .ok (.aload 4, 2) := by decide +kernel
theorem t_X12_luckOf_50 : decode prog_14_method_74_code 50 = .ok (.bipush 12, 2) := by decide +kernel
theorem t_X12_luckOf_52 : decode prog_14_method_74_code 52 = .ok (.iaload, 1) := by decide +kernel
theorem t_X12_luckOf_53 : decode prog_14_method_74_code 53 = .ok (.iload_n 3, 1) := by decide +kernel
theorem t_X12_luckOf_54 : decode prog_14_method_74_code 54 = .ok (.if_icmp .lt 8, 3) := by decide +kernel
theorem t_X12_luckOf_57 : decode prog_14_method_74_code 57 = .ok (.lload 5, 2) := by decide +kernel
theorem t_X12_luckOf_59 : decode prog_14_method_74_code 59 = .ok (.goto 4, 3) := by decide +kernel
theorem t_X12_luckOf_62 : decode prog_14_method_74_code 62 = .ok (.lconst 0, 1) := by decide +kernel
theorem t_X12_luckOf_63 : decode prog_14_method_74_code 63 = .ok (.lreturn, 1) := by decide +kernel
theorem t_X12_luckOf_64 : decode prog_14_method_74_code 64 = .ok (.iconst 0, 1) := by decide +kernel
theorem t_X12_luckOf_65 : decode prog_14_method_74_code 65 = .ok (.istore 7, 2) := by decide +kernel
theorem t_X12_luckOf_67 : decode prog_14_method_74_code 67 = .ok (.iconst 0, 1) := by decide +kernel
theorem t_X12_luckOf_68 : decode prog_14_method_74_code 68 = .ok (.istore 8, 2) := by decide +kernel
theorem t_X12_luckOf_70 : decode prog_14_method_74_code 70 = .ok (.iload 8, 2) := by decide +kernel
theorem t_X12_luckOf_72 : decode prog_14_method_74_code 72 = .ok (.aload_n 0, 1) := by decide +kernel
theorem t_X12_luckOf_73 : decode prog_14_method_74_code 73 = .ok (.getfield 13, 3) := by decide +kernel
theorem t_X12_luckOf_76 : decode prog_14_method_74_code 76 = .ok (.if_icmp .ge 30, 3) := by decide +kernel
theorem t_X12_luckOf_79 : decode prog_14_method_74_code 79 = .ok (.iload 7, 2) := by decide +kernel
theorem t_X12_luckOf_81 : decode prog_14_method_74_code 81 = .ok (.aload_n 0, 1) := by decide +kernel
theorem t_X12_luckOf_82 : decode prog_14_method_74_code 82 = .ok (.aload 4, 2) := by decide +kernel
theorem t_X12_luckOf_84 : decode prog_14_method_74_code 84 = .ok (.iload 8, 2) := by decide +kernel
theorem t_X12_luckOf_86 : decode prog_14_method_74_code 86 = .ok (.invokevirtual 264, 3) := by decide +kernel
theorem t_X12_luckOf_89 : decode prog_14_method_74_code 89 = .ok (.ifCond .ne 7, 3) := by decide +kernel
theorem t_X12_luckOf_92 : decode prog_14_method_74_code 92 = .ok (.iconst 1, 1) := by decide +kernel
theorem t_X12_luckOf_93 : decode prog_14_method_74_code 93 = .ok (.goto 4, 3) := by decide +kernel
theorem t_X12_luckOf_96 : decode prog_14_method_74_code 96 = .ok (.iconst 0, 1) := by decide +kernel
theorem t_X12_luckOf_97 : decode prog_14_method_74_code 97 = .ok (.iadd, 1) := by decide +kernel
theorem t_X12_luckOf_98 : decode prog_14_method_74_code 98 = .ok (.istore 7, 2) := by decide +kernel
theorem t_X12_luckOf_100 : decode prog_14_method_74_code 100 = .ok (.iinc 8 1, 3) := by decide +kernel
theorem t_X12_luckOf_103 : decode prog_14_method_74_code 103 = .ok (.goto (-33), 3) := by decide +kernel
theorem t_X12_luckOf_106 : decode prog_14_method_74_code 106 = .ok (.lconst 0, 1) := by decide +kernel
theorem t_X12_luckOf_107 : decode prog_14_method_74_code 107 = .ok (.lstore 8, 2) := by decide +kernel
theorem t_X12_luckOf_109 : decode prog_14_method_74_code 109 = .ok (.iconst 0, 1) := by decide +kernel
theorem t_X12_luckOf_110 : decode prog_14_method_74_code 110 = .ok (.istore 10, 2) := by decide +kernel
theorem t_X12_luckOf_112 : decode prog_14_method_74_code 112 = .ok (.iload 10, 2) := by decide +kernel
theorem t_X12_luckOf_114 : decode prog_14_method_74_code 114 = .ok (.aload_n 0, 1) := by decide +kernel
theorem t_X12_luckOf_115 : decode prog_14_method_74_code 115 = .ok (.getfield 13, 3) := by decide +kernel
theorem t_X12_luckOf_118 : decode prog_14_method_74_code 118 = .ok (.if_icmp .ge 73, 3) := by decide +kernel
theorem t_X12_luckOf_121 : decode prog_14_method_74_code 121 = .ok (.aload_n 0, 1) := by decide +kernel
theorem t_X12_luckOf_122 : decode prog_14_method_74_code 122 = .ok (.aload 4, 2) := by decide +kernel
theorem t_X12_luckOf_124 : decode prog_14_method_74_code 124 = .ok (.iload 10, 2) := by decide +kernel
theorem t_X12_luckOf_126 : decode prog_14_method_74_code 126 = .ok (.invokevirtual 264, 3) := by decide +kernel
theorem t_X12_luckOf_129 : decode prog_14_method_74_code 129 = .ok (.ifCond .ge 6, 3) := by decide +kernel
theorem t_X12_luckOf_132 : decode prog_14_method_74_code 132 = .ok (.goto 53, 3) := by decide +kernel
theorem t_X12_luckOf_135 : decode prog_14_method_74_code 135 = .ok (.aload 4, 2) := by decide +kernel
theorem t_X12_luckOf_137 : decode prog_14_method_74_code 137 = .ok (.aload_n 0, 1) := by decide +kernel
theorem t_X12_luckOf_138 : decode prog_14_method_74_code 138 = .ok (.getfield 57, 3) := by decide +kernel
theorem t_X12_luckOf_141 : decode prog_14_method_74_code 141 = .ok (.iload_n 1, 1) := by decide +kernel
theorem t_X12_luckOf_142 : decode prog_14_method_74_code 142 = .ok (.iconst 1, 1) := by decide +kernel
theorem t_X12_luckOf_143 : decode prog_14_method_74_code 143 = .ok (.iadd, 1) := by decide +kernel
theorem t_X12_luckOf_144 : decode prog_14_method_74_code 144 = .ok (.aaload, 1) := by decide +kernel
theorem t_X12_luckOf_145 : decode prog_14_method_74_code 145 = .ok (.iconst 0, 1) := by decide +kernel
theorem t_X12_luckOf_146 : decode prog_14_method_74_code 146 = .ok (.invokestatic 256, 3) := by decide +kernel
theorem t_X12_luckOf_149 : decode prog_14_method_74_code 149 = .ok (.aload_n 0, 1) := by decide +kernel
theorem t_X12_luckOf_150 : decode prog_14_method_74_code 150 = .ok (.aload_n 0, 1) := by decide +kernel
theorem t_X12_luckOf_151 : decode prog_14_method_74_code 151 = .ok (.getfield 57, 3) := by decide +kernel
theorem t_X12_luckOf_154 : decode prog_14_method_74_code 154 = .ok (.iload_n 1, 1) := by decide +kernel
theorem t_X12_luckOf_155 : decode prog_14_method_74_code 155 = .ok (.iconst 1, 1) := by decide +kernel
theorem t_X12_luckOf_156 : decode prog_14_method_74_code 156 = .ok (.iadd, 1) := by decide +kernel
theorem t_X12_luckOf_157 : decode prog_14_method_74_code 157 = .ok (.aaload, 1) := by decide +kernel
theorem t_X12_luckOf_158 : decode prog_14_method_74_code 158 = .ok (.iload 10, 2) := by decide +kernel
theorem t_X12_luckOf_160 : decode prog_14_method_74_code 160 = .ok (.invokevirtual 272, 3) := by decide +kernel
theorem t_X12_luckOf_163 : decode prog_14_method_74_code 163 = .ok (.lload 8, 2) := by decide +kernel
theorem t_X12_luckOf_165 : decode prog_14_method_74_code 165 = .ok (.ldc2_w 342, 3) := by decide +kernel
theorem t_X12_luckOf_168 : decode prog_14_method_74_code 168 = .ok (.iload 7, 2) := by decide +kernel
theorem t_X12_luckOf_170 : decode prog_14_method_74_code 170 = .ok (.i2l, 1) := by decide +kernel
theorem t_X12_luckOf_171 : decode prog_14_method_74_code 171 = .ok (.ldiv, 1) := by decide +kernel
theorem t_X12_luckOf_172 : decode prog_14_method_74_code 172 = .ok (.aload_n 0, 1) := by decide +kernel
theorem t_X12_luckOf_173 : decode prog_14_method_74_code 173 = .ok (.iload_n 1, 1) := by decide +kernel
theorem t_X12_luckOf_174 : decode prog_14_method_74_code 174 = .ok (.iconst 1, 1) := by decide +kernel
theorem t_X12_luckOf_175 : decode prog_14_method_74_code 175 = .ok (.iadd, 1) := by decide +kernel
theorem t_X12_luckOf_176 : decode prog_14_method_74_code 176 = .ok (.iload_n 2, 1) := by decide +kernel
theorem t_X12_luckOf_177 : decode prog_14_method_74_code 177 = .ok (.iload_n 3, 1) := by decide +kernel
theorem t_X12_luckOf_178 : decode prog_14_method_74_code 178 = .ok (.invokevirtual 344, 3) := by decide +kernel
theorem t_X12_luckOf_181 : decode prog_14_method_74_code 181 = .ok (.lmul, 1) := by decide +kernel
theorem t_X12_luckOf_182 : decode prog_14_method_74_code 182 = .ok (.ladd, 1) := by decide +kernel
theorem t_X12_luckOf_183 : decode prog_14_method_74_code 183 = .ok (.lstore 8, 2) := by decide +kernel
theorem t_X12_luckOf_185 : decode prog_14_method_74_code 185 = .ok (.iinc 10 1, 3) := by decide +kernel
theorem t_X12_luckOf_188 : decode prog_14_method_74_code 188 = .ok (.goto (-76), 3) := by decide +kernel
theorem t_X12_luckOf_191 : decode prog_14_method_74_code 191 = .ok (.lload 8, 2) := by decide +kernel
theorem t_X12_luckOf_193 : decode prog_14_method_74_code 193 = .ok (.lreturn, 1) := by decide +kernel
def y_X12_luck : MethodName := ⟨"SowingBoardsModel", "luck", "(II)I"⟩
theorem t_X12_luck_0 : decode prog_14_method_75_code 0 = .ok (.aload_n 0, 1) := by decide +kernel
theorem t_X12_luck_1 : decode prog_14_method_75_code 1 = .ok (.iconst 0, 1) := by decide +kernel
theorem t_X12_luck_2 : decode prog_14_method_75_code 2 = .ok (.putfield 109, 3) := by decide +kernel
theorem t_X12_luck_5 : decode prog_14_method_75_code 5 = .ok (.iload_n 1, 1) := by decide +kernel
theorem t_X12_luck_6 : decode prog_14_method_75_code 6 = .ok (.iconst 0, 1) := by decide +kernel
theorem t_X12_luck_7 : decode prog_14_method_75_code 7 = .ok (.iconst 4, 1) := by decide +kernel
theorem t_X12_luck_8 : decode prog_14_method_75_code 8 = .ok (.invokestatic 118, 3) := by decide +kernel
theorem t_X12_luck_11 : decode prog_14_method_75_code 11 = .ok (.ifCond .eq 13, 3) := by decide +kernel
theorem t_X12_luck_14 : decode prog_14_method_75_code 14 = .ok (.iload_n 2, 1) := by decide +kernel
theorem t_X12_luck_15 : decode prog_14_method_75_code 15 = .ok (.iconst 0, 1) := by decide +kernel
theorem t_X12_luck_16 : decode prog_14_method_75_code 16 = .ok (.bipush 108, 2) := by decide +kernel
theorem t_X12_luck_18 : decode prog_14_method_75_code 18 = .ok (.invokestatic 118, 3) := by decide +kernel
theorem t_X12_luck_21 : decode prog_14_method_75_code 21 = .ok (.ifCond .ne 5, 3) := by decide +kernel
theorem t_X12_luck_24 : decode prog_14_method_75_code 24 = .ok (.iconst (-1), 1) := by decide +kernel
theorem t_X12_luck_25 : decode prog_14_method_75_code 25 = .ok (.ireturn, 1) := by decide +kernel
theorem t_X12_luck_26 : decode prog_14_method_75_code 26 = .ok (.aload_n 0, 1) := by decide +kernel
theorem t_X12_luck_27 : decode prog_14_method_75_code 27 = .ok (.getfield 9, 3) := by decide +kernel
theorem t_X12_luck_30 : decode prog_14_method_75_code 30 = .ok (.aload_n 0, 1) := by decide +kernel
theorem t_X12_luck_31 : decode prog_14_method_75_code 31 = .ok (.getfield 57, 3) := by decide +kernel
theorem t_X12_luck_34 : decode prog_14_method_75_code 34 = .ok (.iconst 0, 1) := by decide +kernel
theorem t_X12_luck_35 : decode prog_14_method_75_code 35 = .ok (.aaload, 1) := by decide +kernel
theorem t_X12_luck_36 : decode prog_14_method_75_code 36 = .ok (.iconst 0, 1) := by decide +kernel
theorem t_X12_luck_37 : decode prog_14_method_75_code 37 = .ok (.invokestatic 256, 3) := by decide +kernel
theorem t_X12_luck_40 : decode prog_14_method_75_code 40 = .ok (.aload_n 0, 1) := by decide +kernel
theorem t_X12_luck_41 : decode prog_14_method_75_code 41 = .ok (.iconst 0, 1) := by decide +kernel
theorem t_X12_luck_42 : decode prog_14_method_75_code 42 = .ok (.iload_n 1, 1) := by decide +kernel
theorem t_X12_luck_43 : decode prog_14_method_75_code 43 = .ok (.iload_n 2, 1) := by decide +kernel
theorem t_X12_luck_44 : decode prog_14_method_75_code 44 = .ok (.invokevirtual 344, 3) := by decide +kernel
theorem t_X12_luck_47 : decode prog_14_method_75_code 47 = .ok (.lstore_n 3, 1) := by decide +kernel
theorem t_X12_luck_48 : decode prog_14_method_75_code 48 = .ok (.lconst 1, 1) := by decide +kernel
theorem t_X12_luck_49 : decode prog_14_method_75_code 49 = .ok (.lstore 5, 2) := by decide +kernel
theorem t_X12_luck_51 : decode prog_14_method_75_code 51 = .ok (.iconst 0, 1) := by decide +kernel
theorem t_X12_luck_52 : decode prog_14_method_75_code 52 = .ok (.istore 7, 2) := by decide +kernel
theorem t_X12_luck_54 : decode prog_14_method_75_code 54 = .ok (.iload 7, 2) := by decide +kernel
theorem t_X12_luck_56 : decode prog_14_method_75_code 56 = .ok (.iload_n 1, 1) := by decide +kernel
theorem t_X12_luck_57 : decode prog_14_method_75_code 57 = .ok (.if_icmp .ge 17, 3) := by decide +kernel
theorem t_X12_luck_60 : decode prog_14_method_75_code 60 = .ok (.lload 5, 2) := by decide +kernel
theorem t_X12_luck_62 : decode prog_14_method_75_code 62 = .ok (.ldc2_w 342, 3) := by decide +kernel
theorem t_X12_luck_65 : decode prog_14_method_75_code 65 = .ok (.lmul, 1) := by decide +kernel
theorem t_X12_luck_66 : decode prog_14_method_75_code 66 = .ok (.lstore 5, 2) := by decide +kernel
theorem t_X12_luck_68 : decode prog_14_method_75_code 68 = .ok (.iinc 7 1, 3) := by decide +kernel
theorem t_X12_luck_71 : decode prog_14_method_75_code 71 = .ok (.goto (-17), 3) := by decide +kernel
theorem t_X12_luck_74 : decode prog_14_method_75_code 74 = .ok (.lload_n 3, 1) := by decide +kernel
theorem t_X12_luck_75 : decode prog_14_method_75_code 75 = .ok (.lload 5, 2) := by decide +kernel
theorem t_X12_luck_77 : decode prog_14_method_75_code 77 = .ok (.invokestatic 338, 3) := by decide +kernel
theorem t_X12_luck_80 : decode prog_14_method_75_code 80 = .ok (.lstore 7, 2) := by decide +kernel
theorem t_X12_luck_82 : decode prog_14_method_75_code 82 = .ok (.aload_n 0, 1) := by decide +kernel
theorem t_X12_luck_83 : decode prog_14_method_75_code 83 = .ok (.iconst 0, 1) := by decide +kernel
theorem t_X12_luck_84 : decode prog_14_method_75_code 84 = .ok (.putfield 112, 3) := by decide +kernel
theorem t_X12_luck_87 : decode prog_14_method_75_code 87 = .ok (.aload_n 0, 1) := by decide +kernel
theorem t_X12_luck_88 : decode prog_14_method_75_code 88 = .ok (.lload_n 3, 1) := by decide +kernel
theorem t_X12_luck_89 : decode prog_14_method_75_code 89 = .ok (.lload 7, 2) := by decide +kernel
theorem t_X12_luck_91 : decode prog_14_method_75_code 91 = .ok (.ldiv, 1) := by decide +kernel
theorem t_X12_luck_92 : decode prog_14_method_75_code 92 = .ok (.invokevirtual 260, 3) := by decide +kernel
theorem t_X12_luck_95 : decode prog_14_method_75_code 95 = .ok (.aload_n 0, 1) := by decide +kernel
theorem t_X12_luck_96 : decode prog_14_method_75_code 96 = .ok (.lload 5, 2) := by decide +kernel
theorem t_X12_luck_98 : decode prog_14_method_75_code 98 = .ok (.lload 7, 2) := by decide +kernel
theorem t_X12_luck_100 : decode prog_14_method_75_code 100 = .ok (.ldiv, 1) := by decide +kernel
theorem t_X12_luck_101 : decode prog_14_method_75_code 101 = .ok (.invokevirtual 260, 3) := by decide +kernel
theorem t_X12_luck_104 : decode prog_14_method_75_code 104 = .ok (.iconst 0, 1) := by decide +kernel
theorem t_X12_luck_105 : decode prog_14_method_75_code 105 = .ok (.ireturn, 1) := by decide +kernel
def y_X12_when : MethodName := ⟨"SowingBoardsModel", "when", "(I)I"⟩
theorem t_X12_when_0 : decode prog_14_method_76_code 0 = .ok (.aload_n 0, 1) := by decide +kernel
theorem t_X12_when_1 : decode prog_14_method_76_code 1 = .ok (.iconst 0, 1) := by decide +kernel
theorem t_X12_when_2 : decode prog_14_method_76_code 2 = .ok (.putfield 109, 3) := by decide +kernel
theorem t_X12_when_5 : decode prog_14_method_76_code 5 = .ok (.iload_n 1, 1) := by decide +kernel
theorem t_X12_when_6 : decode prog_14_method_76_code 6 = .ok (.iconst 0, 1) := by decide +kernel
theorem t_X12_when_7 : decode prog_14_method_76_code 7 = .ok (.aload_n 0, 1) := by decide +kernel
theorem t_X12_when_8 : decode prog_14_method_76_code 8 = .ok (.invokevirtual 214, 3) := by decide +kernel
theorem t_X12_when_11 : decode prog_14_method_76_code 11 = .ok (.iconst 1, 1) := by decide +kernel
theorem t_X12_when_12 : decode prog_14_method_76_code 12 = .ok (.isub, 1) := by decide +kernel
theorem t_X12_when_13 : decode prog_14_method_76_code 13 = .ok (.invokestatic 118, 3) := by decide +kernel
theorem t_X12_when_16 : decode prog_14_method_76_code 16 = .ok (.ifCond .ne 5, 3) := by decide +kernel
theorem t_X12_when_19 : decode prog_14_method_76_code 19 = .ok (.iconst (-1), 1) := by decide +kernel
theorem t_X12_when_20 : decode prog_14_method_76_code 20 = .ok (.ireturn, 1) := by decide +kernel
theorem t_X12_when_21 : decode prog_14_method_76_code 21 = .ok (.aload_n 0, 1) := by decide +kernel
theorem t_X12_when_22 : decode prog_14_method_76_code 22 = .ok (.getfield 9, 3) := by decide +kernel
theorem t_X12_when_25 : decode prog_14_method_76_code 25 = .ok (.aload_n 0, 1) := by decide +kernel
theorem t_X12_when_26 : decode prog_14_method_76_code 26 = .ok (.getfield 46, 3) := by decide +kernel
theorem t_X12_when_29 : decode prog_14_method_76_code 29 = .ok (.iconst 0, 1) := by decide +kernel
theorem t_X12_when_30 : decode prog_14_method_76_code 30 = .ok (.invokestatic 256, 3) := by decide +kernel
theorem t_X12_when_33 : decode prog_14_method_76_code 33 = .ok (.iconst 0, 1) := by decide +kernel
theorem t_X12_when_34 : decode prog_14_method_76_code 34 = .ok (.istore_n 2, 1) := by decide +kernel
theorem t_X12_when_35 : decode prog_14_method_76_code 35 = .ok (.iload_n 2, 1) := by decide +kernel
theorem t_X12_when_36 : decode prog_14_method_76_code 36 = .ok (.bipush 60, 2) := by decide +kernel
theorem t_X12_when_38 : decode prog_14_method_76_code 38 = .ok (.if_icmp .gt 63, 3) := by decide +kernel
theorem t_X12_when_41 : decode prog_14_method_76_code 41 = .ok (.aload_n 0, 1) := by decide +kernel
theorem t_X12_when_42 : decode prog_14_method_76_code 42 = .ok (.getfield 46, 3) := by decide +kernel
theorem t_X12_when_45 : decode prog_14_method_76_code 45 = .ok (.iload_n 1, 1) := by decide +kernel
theorem t_X12_when_46 : decode prog_14_method_76_code 46 = .ok (.iaload, 1) := by decide +kernel
theorem t_X12_when_47 : decode prog_14_method_76_code 47 = .ok (.ifCond .ne 34, 3) := by decide +kernel
theorem t_X12_when_50 : decode prog_14_method_76_code 50 = .ok (.aload_n 0, 1) := by decide +kernel
theorem t_X12_when_51 : decode prog_14_method_76_code 51 = .ok (.iconst 0, 1) := by decide +kernel
theorem t_X12_when_52 : decode prog_14_method_76_code 52 = .ok (.putfield 112, 3) := by decide +kernel
theorem t_X12_when_55 : decode prog_14_method_76_code 55 = .ok (.aload_n 0, 1) := by decide +kernel
theorem t_X12_when_56 : decode prog_14_method_76_code 56 = .ok (.aload_n 0, 1) := by decide +kernel
theorem t_X12_when_57 : decode prog_14_method_76_code 57 = .ok (.getfield 46, 3) := by decide +kernel
theorem t_X12_when_60 : decode prog_14_method_76_code 60 = .ok (.bipush 12, 2) := by decide +kernel
theorem t_X12_when_62 : decode prog_14_method_76_code 62 = .ok (.iaload, 1) := by decide +kernel
theorem t_X12_when_63 : decode prog_14_method_76_code 63 = .ok (.i2l, 1) := by decide +kernel
theorem t_X12_when_64 : decode prog_14_method_76_code 64 = .ok (.invokevirtual 260, 3) := by decide +kernel
theorem t_X12_when_67 : decode prog_14_method_76_code 67 = .ok (.aload_n 0, 1) := by decide +kernel
theorem t_X12_when_68 : decode prog_14_method_76_code 68 = .ok (.aload_n 0, 1) := by decide +kernel
theorem t_X12_when_69 : decode prog_14_method_76_code 69 = .ok (.getfield 46, 3) := by decide +kernel
theorem t_X12_when_72 : decode prog_14_method_76_code 72 = .ok (.bipush 13, 2) := by decide +kernel
theorem t_X12_when_74 : decode prog_14_method_76_code 74 = .ok (.iaload, 1) := by decide +kernel
theorem t_X12_when_75 : decode prog_14_method_76_code 75 = .ok (.i2l, 1) := by decide +kernel
theorem t_X12_when_76 : decode prog_14_method_76_code 76 = .ok (.invokevirtual 260, 3) := by decide +kernel
theorem t_X12_when_79 : decode prog_14_method_76_code 79 = .ok (.iload_n 2, 1) := by decide +kernel
theorem t_X12_when_80 : decode prog_14_method_76_code 80 = .ok (.ireturn, 1) := by decide +kernel
theorem t_X12_when_81 : decode prog_14_method_76_code 81 = .ok (.aload_n 0, 1) := by decide +kernel
theorem t_X12_when_82 : decode prog_14_method_76_code 82 = .ok (.aload_n 0, 1) := by decide +kernel
theorem t_X12_when_83 : decode prog_14_method_76_code 83 = .ok (.getfield 46, 3) := by decide +kernel
theorem t_X12_when_86 : decode prog_14_method_76_code 86 = .ok (.invokevirtual 289, 3) := by decide +kernel
theorem t_X12_when_89 : decode prog_14_method_76_code 89 = .ok (.ifCond .ne 6, 3) := by decide +kernel
theorem t_X12_when_92 : decode prog_14_method_76_code 92 = .ok (.bipush (-2), 2) := by decide +kernel
theorem t_X12_when_94 : decode prog_14_method_76_code 94 = .ok (.ireturn, 1) := by decide +kernel
theorem t_X12_when_95 : decode prog_14_method_76_code 95 = .ok (.iinc 2 1, 3) := by decide +kernel
theorem t_X12_when_98 : decode prog_14_method_76_code 98 = .ok (.goto (-63), 3) := by decide +kernel
theorem t_X12_when_101 : decode prog_14_method_76_code 101 = .ok (.bipush (-2), 2) := by decide +kernel
theorem t_X12_when_103 : decode prog_14_method_76_code 103 = .ok (.ireturn, 1) := by decide +kernel
def y_X12_ends : MethodName := ⟨"SowingBoardsModel", "ends", "()I"⟩
theorem t_X12_ends_0 : decode prog_14_method_77_code 0 = .ok (.aload_n 0, 1) := by decide +kernel
theorem t_X12_ends_1 : decode prog_14_method_77_code 1 = .ok (.iconst 0, 1) := by decide +kernel
theorem t_X12_ends_2 : decode prog_14_method_77_code 2 = .ok (.putfield 109, 3) := by decide +kernel
theorem t_X12_ends_5 : decode prog_14_method_77_code 5 = .ok (.aload_n 0, 1) := by decide +kernel
theorem t_X12_ends_6 : decode prog_14_method_77_code 6 = .ok (.getfield 9, 3) := by decide +kernel
theorem t_X12_ends_9 : decode prog_14_method_77_code 9 = .ok (.aload_n 0, 1) := by decide +kernel
theorem t_X12_ends_10 : decode prog_14_method_77_code 10 = .ok (.getfield 46, 3) := by decide +kernel
theorem t_X12_ends_13 : decode prog_14_method_77_code 13 = .ok (.iconst 0, 1) := by decide +kernel
theorem t_X12_ends_14 : decode prog_14_method_77_code 14 = .ok (.invokestatic 256, 3) := by decide +kernel
theorem t_X12_ends_17 : decode prog_14_method_77_code 17 = .ok (.iconst 0, 1) := by decide +kernel
theorem t_X12_ends_18 : decode prog_14_method_77_code 18 = .ok (.istore_n 1, 1) := by decide +kernel
theorem t_X12_ends_19 : decode prog_14_method_77_code 19 = .ok (.iload_n 1, 1) := by decide +kernel
theorem t_X12_ends_20 : decode prog_14_method_77_code 20 = .ok (.bipush 99, 2) := by decide +kernel
theorem t_X12_ends_22 : decode prog_14_method_77_code 22 = .ok (.if_icmp .gt 91, 3) := by decide +kernel
theorem t_X12_ends_25 : decode prog_14_method_77_code 25 = .ok (.aload_n 0, 1) := by decide +kernel
theorem t_X12_ends_26 : decode prog_14_method_77_code 26 = .ok (.aload_n 0, 1) := by decide +kernel
theorem t_X12_ends_27 : decode prog_14_method_77_code 27 = .ok (.getfield 46, 3) := by decide +kernel
theorem t_X12_ends_30 : decode prog_14_method_77_code 30 = .ok (.invokevirtual 282, 3) := by decide +kernel
theorem t_X12_ends_33 : decode prog_14_method_77_code 33 = .ok (.ifCond .eq 65, 3) := by decide +kernel
theorem t_X12_ends_36 : decode prog_14_method_77_code 36 = .ok (.aload_n 0, 1) := by decide +kernel
theorem t_X12_ends_37 : decode prog_14_method_77_code 37 = .ok (.iconst 0, 1) := by decide +kernel
theorem t_X12_ends_38 : decode prog_14_method_77_code 38 = .ok (.putfield 112, 3) := by decide +kernel
theorem t_X12_ends_41 : decode prog_14_method_77_code 41 = .ok (.aload_n 0, 1) := by decide +kernel
theorem t_X12_ends_42 : decode prog_14_method_77_code 42 = .ok (.aload_n 0, 1) := by decide +kernel
theorem t_X12_ends_43 : decode prog_14_method_77_code 43 = .ok (.getfield 46, 3) := by decide +kernel
theorem t_X12_ends_46 : decode prog_14_method_77_code 46 = .ok (.bipush 12, 2) := by decide +kernel
theorem t_X12_ends_48 : decode prog_14_method_77_code 48 = .ok (.iaload, 1) := by decide +kernel
theorem t_X12_ends_49 : decode prog_14_method_77_code 49 = .ok (.aload_n 0, 1) := by decide +kernel
theorem t_X12_ends_50 : decode prog_14_method_77_code 50 = .ok (.aload_n 0, 1) := by decide +kernel
theorem t_X12_ends_51 : decode prog_14_method_77_code 51 = .ok (.getfield 46, 3) := by decide +kernel
theorem t_X12_ends_54 : decode prog_14_method_77_code 54 = .ok (.iconst 0, 1) := by decide +kernel
theorem t_X12_ends_55 : decode prog_14_method_77_code 55 = .ok (.aload_n 0, 1) := by decide +kernel
theorem t_X12_ends_56 : decode prog_14_method_77_code 56 = .ok (.getfield 13, 3) := by decide +kernel
theorem t_X12_ends_59 : decode prog_14_method_77_code 59 = .ok (.invokevirtual 229, 3) := by decide +kernel
theorem t_X12_ends_62 : decode prog_14_method_77_code 62 = .ok (.iadd, 1) := by decide +kernel
theorem t_X12_ends_63 : decode prog_14_method_77_code 63 = .ok (.i2l, 1) := by decide +kernel
theorem t_X12_ends_64 : decode prog_14_method_77_code 64 = .ok (.invokevirtual 260, 3) := by decide +kernel
theorem t_X12_ends_67 : decode prog_14_method_77_code 67 = .ok (.aload_n 0, 1) := by decide +kernel
theorem t_X12_ends_68 : decode prog_14_method_77_code 68 = .ok (.aload_n 0, 1) := by decide +kernel
theorem t_X12_ends_69 : decode prog_14_method_77_code 69 = .ok (.getfield 46, 3) := by decide +kernel
theorem t_X12_ends_72 : decode prog_14_method_77_code 72 = .ok (.bipush 13, 2) := by decide +kernel
theorem t_X12_ends_74 : decode prog_14_method_77_code 74 = .ok (.iaload, 1) := by decide +kernel
theorem t_X12_ends_75 : decode prog_14_method_77_code 75 = .ok (.aload_n 0, 1) := by decide +kernel
theorem t_X12_ends_76 : decode prog_14_method_77_code 76 = .ok (.aload_n 0, 1) := by decide +kernel
theorem t_X12_ends_77 : decode prog_14_method_77_code 77 = .ok (.getfield 46, 3) := by decide +kernel
theorem t_X12_ends_80 : decode prog_14_method_77_code 80 = .ok (.aload_n 0, 1) := by decide +kernel
theorem t_X12_ends_81 : decode prog_14_method_77_code 81 = .ok (.getfield 13, 3) := by decide +kernel
theorem t_X12_ends_84 : decode prog_14_method_77_code 84 = .ok (.aload_n 0, 1) := by decide +kernel
theorem t_X12_ends_85 : decode prog_14_method_77_code 85 = .ok (.getfield 13, 3) := by decide +kernel
theorem t_X12_ends_88 : decode prog_14_method_77_code 88 = .ok (.invokevirtual 229, 3) := by decide +kernel
theorem t_X12_ends_91 : decode prog_14_method_77_code 91 = .ok (.iadd, 1) := by decide +kernel
theorem t_X12_ends_92 : decode prog_14_method_77_code 92 = .ok (.i2l, 1) := by decide +kernel
theorem t_X12_ends_93 : decode prog_14_method_77_code 93 = .ok (.invokevirtual 260, 3) := by decide +kernel
theorem t_X12_ends_96 : decode prog_14_method_77_code 96 = .ok (.iload_n 1, 1) := by decide +kernel
theorem t_X12_ends_97 : decode prog_14_method_77_code 97 = .ok (.ireturn, 1) := by decide +kernel
theorem t_X12_ends_98 : decode prog_14_method_77_code 98 = .ok (.aload_n 0, 1) := by decide +kernel
theorem t_X12_ends_99 : decode prog_14_method_77_code 99 = .ok (.aload_n 0, 1) := by decide +kernel
theorem t_X12_ends_100 : decode prog_14_method_77_code 100 = .ok (.getfield 46, 3) := by decide +kernel
theorem t_X12_ends_103 : decode prog_14_method_77_code 103 = .ok (.invokevirtual 289, 3) := by decide +kernel
theorem t_X12_ends_106 : decode prog_14_method_77_code 106 = .ok (.pop, 1) := by decide +kernel
theorem t_X12_ends_107 : decode prog_14_method_77_code 107 = .ok (.iinc 1 1, 3) := by decide +kernel
theorem t_X12_ends_110 : decode prog_14_method_77_code 110 = .ok (.goto (-91), 3) := by decide +kernel
theorem t_X12_ends_113 : decode prog_14_method_77_code 113 = .ok (.bipush (-2), 2) := by decide +kernel
theorem t_X12_ends_115 : decode prog_14_method_77_code 115 = .ok (.ireturn, 1) := by decide +kernel
def y_X12_isGone : MethodName := ⟨"SowingBoardsModel", "isGone", "(II)Z"⟩
theorem t_X12_isGone_0 : decode prog_14_method_78_code 0 = .ok (.iconst 0, 1) := by decide +kernel
theorem t_X12_isGone_1 : decode prog_14_method_78_code 1 = .ok (.istore_n 3, 1) := by decide +kernel
theorem t_X12_isGone_2 : decode prog_14_method_78_code 2 = .ok (.iload_n 3, 1) := by decide +kernel
theorem t_X12_isGone_3 : decode prog_14_method_78_code 3 = .ok (.bipush 15, 2) := by decide +kernel
theorem t_X12_isGone_5 : decode prog_14_method_78_code 5 = .ok (.if_icmp .ge 36, 3) := by decide +kernel
theorem t_X12_isGone_8 : decode prog_14_method_78_code 8 = .ok (.aload_n 0, 1) := by decide +kernel
theorem t_X12_isGone_9 : decode prog_14_method_78_code 9 = .ok (.getfield 75, 3) := by decide +kernel
theorem t_X12_isGone_12 : decode prog_14_method_78_code 12 = .ok (.bipush 16, 2) := by decide +kernel
theorem t_X12_isGone_14 : decode prog_14_method_78_code 14 = .ok (.iload_n 1, 1) := by decide +kernel
theorem t_X12_isGone_15 : decode prog_14_method_78_code 15 = .ok (.imul, 1) := by decide +kernel
theorem t_X12_isGone_16 : decode prog_14_method_78_code 16 = .ok (.iload_n 3, 1) := by decide +kernel
theorem t_X12_isGone_17 : decode prog_14_method_78_code 17 = .ok (.iadd, 1) := by decide +kernel
theorem t_X12_isGone_18 : decode prog_14_method_78_code 18 = .ok (.iaload, 1) := by decide +kernel
theorem t_X12_isGone_19 : decode prog_14_method_78_code 19 = .ok (.aload_n 0, 1) := by decide +kernel
theorem t_X12_isGone_20 : decode prog_14_method_78_code 20 = .ok (.getfield 75, 3) := by decide +kernel
theorem t_X12_isGone_23 : decode prog_14_method_78_code 23 = .ok (.bipush 16, 2) := by decide +kernel
theorem t_X12_isGone_25 : decode prog_14_method_78_code 25 = .ok (.iload_n 2, 1) := by decide +kernel
theorem t_X12_isGone_26 : decode prog_14_method_78_code 26 = .ok (.imul, 1) := by decide +kernel
theorem t_X12_isGone_27 : decode prog_14_method_78_code 27 = .ok (.iload_n 3, 1) := by decide +kernel
theorem t_X12_isGone_28 : decode prog_14_method_78_code 28 = .ok (.iadd, 1) := by decide +kernel
theorem t_X12_isGone_29 : decode prog_14_method_78_code 29 = .ok (.iaload, 1) := by decide +kernel
theorem t_X12_isGone_30 : decode prog_14_method_78_code 30 = .ok (.if_icmp .eq 5, 3) := by decide +kernel
theorem t_X12_isGone_33 : decode prog_14_method_78_code 33 = .ok (.iconst 0, 1) := by decide +kernel
theorem t_X12_isGone_34 : decode prog_14_method_78_code 34 = .ok (.ireturn, 1) := by decide +kernel
theorem t_X12_isGone_35 : decode prog_14_method_78_code 35 = .ok (.iinc 3 1, 3) := by decide +kernel
theorem t_X12_isGone_38 : decode prog_14_method_78_code 38 = .ok (.goto (-36), 3) := by decide +kernel
theorem t_X12_isGone_41 : decode prog_14_method_78_code 41 = .ok (.iconst 1, 1) := by decide +kernel
theorem t_X12_isGone_42 : decode prog_14_method_78_code 42 = .ok (.ireturn, 1) := by decide +kernel
def y_X12_round : MethodName := ⟨"SowingBoardsModel", "round", "()I"⟩
theorem t_X12_round_0 : decode prog_14_method_79_code 0 = .ok (.aload_n 0, 1) := by decide +kernel
theorem t_X12_round_1 : decode prog_14_method_79_code 1 = .ok (.iconst 0, 1) := by decide +kernel
theorem t_X12_round_2 : decode prog_14_method_79_code 2 = .ok (.putfield 109, 3) := by decide +kernel
theorem t_X12_round_5 : decode prog_14_method_79_code 5 = .ok (.aload_n 0, 1) := by decide +kernel
theorem t_X12_round_6 : decode prog_14_method_79_code 6 = .ok (.getfield 9, 3) := by decide +kernel
theorem t_X12_round_9 : decode prog_14_method_79_code 9 = .ok (.aload_n 0, 1) := by decide +kernel
theorem t_X12_round_10 : decode prog_14_method_79_code 10 = .ok (.getfield 46, 3) := by decide +kernel
theorem t_X12_round_13 : decode prog_14_method_79_code 13 = .ok (.iconst 0, 1) := by decide +kernel
theorem t_X12_round_14 : decode prog_14_method_79_code 14 = .ok (.invokestatic 256, 3) := by decide +kernel
theorem t_X12_round_17 : decode prog_14_method_79_code 17 = .ok (.aload_n 0, 1) := by decide +kernel
theorem t_X12_round_18 : decode prog_14_method_79_code 18 = .ok (.getfield 46, 3) := by decide +kernel
theorem t_X12_round_21 : decode prog_14_method_79_code 21 = .ok (.aload_n 0, 1) := by decide +kernel
theorem t_X12_round_22 : decode prog_14_method_79_code 22 = .ok (.getfield 75, 3) := by decide +kernel
theorem t_X12_round_25 : decode prog_14_method_79_code 25 = .ok (.iconst 0, 1) := by decide +kernel
theorem t_X12_round_26 : decode prog_14_method_79_code 26 = .ok (.invokestatic 256, 3) := by decide +kernel
theorem t_X12_round_29 : decode prog_14_method_79_code 29 = .ok (.iconst 1, 1) := by decide +kernel
theorem t_X12_round_30 : decode prog_14_method_79_code 30 = .ok (.istore_n 1, 1) := by decide +kernel
theorem t_X12_round_31 : decode prog_14_method_79_code 31 = .ok (.iload_n 1, 1) := by decide +kernel
theorem t_X12_round_32 : decode prog_14_method_79_code 32 = .ok (.bipush 60, 2) := by decide +kernel
theorem t_X12_round_34 : decode prog_14_method_79_code 34 = .ok (.if_icmp .gt 76, 3) := by decide +kernel
theorem t_X12_round_37 : decode prog_14_method_79_code 37 = .ok (.aload_n 0, 1) := by decide +kernel
theorem t_X12_round_38 : decode prog_14_method_79_code 38 = .ok (.aload_n 0, 1) := by decide +kernel
theorem t_X12_round_39 : decode prog_14_method_79_code 39 = .ok (.getfield 46, 3) := by decide +kernel
theorem t_X12_round_42 : decode prog_14_method_79_code 42 = .ok (.invokevirtual 289, 3) := by decide +kernel
theorem t_X12_round_45 : decode prog_14_method_79_code 45 = .ok (.ifCond .ne 6, 3) := by decide +kernel
theorem t_X12_round_48 : decode prog_14_method_79_code 48 = .ok (.bipush (-2), 2) := by decide +kernel
theorem t_X12_round_50 : decode prog_14_method_79_code 50 = .ok (.ireturn, 1) := by decide +kernel
theorem t_X12_round_51 : decode prog_14_method_79_code 51 = .ok (.aload_n 0, 1) := by decide +kernel
theorem t_X12_round_52 : decode prog_14_method_79_code 52 = .ok (.getfield 46, 3) := by decide +kernel
theorem t_X12_round_55 : decode prog_14_method_79_code 55 = .ok (.aload_n 0, 1) := by decide +kernel
theorem t_X12_round_56 : decode prog_14_method_79_code 56 = .ok (.getfield 75, 3) := by decide +kernel
theorem t_X12_round_59 : decode prog_14_method_79_code 59 = .ok (.bipush 16, 2) := by decide +kernel
theorem t_X12_round_61 : decode prog_14_method_79_code 61 = .ok (.iload_n 1, 1) := by decide +kernel
theorem t_X12_round_62 : decode prog_14_method_79_code 62 = .ok (.imul, 1) := by decide +kernel
theorem t_X12_round_63 : decode prog_14_method_79_code 63 = .ok (.invokestatic 256, 3) := by decide +kernel
theorem t_X12_round_66 : decode prog_14_method_79_code 66 = .ok (.iconst 0, 1) := by decide +kernel
theorem t_X12_round_67 : decode prog_14_method_79_code 67 = .ok (.istore_n 2, 1) := by decide +kernel
theorem t_X12_round_68 : decode prog_14_method_79_code 68 = .ok (.iload_n 2, 1) := by decide +kernel
theorem t_X12_round_69 : decode prog_14_method_79_code 69 = .ok (.iload_n 1, 1) := by decide +kernel
theorem t_X12_round_70 : decode prog_14_method_79_code 70 = .ok (.if_icmp .ge 34, 3) := by decide +kernel
theorem t_X12_round_73 : decode prog_14_method_79_code 73 = .ok (.aload_n 0, 1) := by decide +kernel
theorem t_X12_round_74 : decode prog_14_method_79_code 74 = .ok (.iload_n 2, 1) := by decide +kernel
theorem t_X12_round_75 : decode prog_14_method_79_code 75 = .ok (.iload_n 1, 1) := by decide +kernel
theorem t_X12_round_76 : decode prog_14_method_79_code 76 = .ok (.invokevirtual 348, 3) := by decide +kernel
theorem t_X12_round_79 : decode prog_14_method_79_code 79 = .ok (.ifCond .ne 6, 3) := by decide +kernel
theorem t_X12_round_82 : decode prog_14_method_79_code 82 = .ok (.goto 16, 3) := by decide +kernel
theorem t_X12_round_85 : decode prog_14_method_79_code 85 = .ok (.aload_n 0, 1) := by decide +kernel
theorem t_X12_round_86 : decode prog_14_method_79_code 86 = .ok (.iconst 0, 1) := by decide +kernel
theorem t_X12_round_87 : decode prog_14_method_79_code 87 = .ok (.putfield 112, 3) := by decide +kernel
theorem t_X12_round_90 : decode prog_14_method_79_code 90 = .ok (.aload_n 0, 1) := by decide +kernel
theorem t_X12_round_91 : decode prog_14_method_79_code 91 = .ok (.iload_n 2, 1) := by decide +kernel
theorem t_X12_round_92 : decode prog_14_method_79_code 92 = .ok (.i2l, 1) := by decide +kernel
theorem t_X12_round_93 : decode prog_14_method_79_code 93 = .ok (.invokevirtual 260, 3) := by decide +kernel
theorem t_X12_round_96 : decode prog_14_method_79_code 96 = .ok (.iload_n 1, 1) := by decide +kernel
theorem t_X12_round_97 : decode prog_14_method_79_code 97 = .ok (.ireturn, 1) := by decide +kernel
theorem t_X12_round_98 : decode prog_14_method_79_code 98 = .ok (.iinc 2 1, 3) := by decide +kernel
theorem t_X12_round_101 : decode prog_14_method_79_code 101 = .ok (.goto (-33), 3) := by decide +kernel
theorem t_X12_round_104 : decode prog_14_method_79_code 104 = .ok (.iinc 1 1, 3) := by decide +kernel
theorem t_X12_round_107 : decode prog_14_method_79_code 107 = .ok (.goto (-76), 3) := by decide +kernel
theorem t_X12_round_110 : decode prog_14_method_79_code 110 = .ok (.bipush (-2), 2) := by decide +kernel
theorem t_X12_round_112 : decode prog_14_method_79_code 112 = .ok (.ireturn, 1) := by decide +kernel
def y_X12_fullest : MethodName := ⟨"SowingBoardsModel", "fullest", "(I)I"⟩
theorem t_X12_fullest_0 : decode prog_14_method_80_code 0 = .ok (.aload_n 0, 1) := by decide +kernel
theorem t_X12_fullest_1 : decode prog_14_method_80_code 1 = .ok (.iconst 0, 1) := by decide +kernel
theorem t_X12_fullest_2 : decode prog_14_method_80_code 2 = .ok (.putfield 109, 3) := by decide +kernel
theorem t_X12_fullest_5 : decode prog_14_method_80_code 5 = .ok (.iload_n 1, 1) := by decide +kernel
theorem t_X12_fullest_6 : decode prog_14_method_80_code 6 = .ok (.iconst 0, 1) := by decide +kernel
theorem t_X12_fullest_7 : decode prog_14_method_80_code 7 = .ok (.bipush 60, 2) := by decide +kernel
theorem t_X12_fullest_9 : decode prog_14_method_80_code 9 = .ok (.invokestatic 118, 3) := by decide +kernel
theorem t_X12_fullest_12 : decode prog_14_method_80_code 12 = .ok (.ifCond .ne 5, 3) := by decide +kernel
theorem t_X12_fullest_15 : decode prog_14_method_80_code 15 = .ok (.iconst (-1), 1) := by decide +kernel
theorem t_X12_fullest_16 : decode prog_14_method_80_code 16 = .ok (.ireturn, 1) := by decide +kernel
theorem t_X12_fullest_17 : decode prog_14_method_80_code 17 = .ok (.aload_n 0, 1) := by decide +kernel
theorem t_X12_fullest_18 : decode prog_14_method_80_code 18 = .ok (.getfield 9, 3) := by decide +kernel
theorem t_X12_fullest_21 : decode prog_14_method_80_code 21 = .ok (.aload_n 0, 1) := by decide +kernel
theorem t_X12_fullest_22 : decode prog_14_method_80_code 22 = .ok (.getfield 46, 3) := by decide +kernel
theorem t_X12_fullest_25 : decode prog_14_method_80_code 25 = .ok (.iconst 0, 1) := by decide +kernel
theorem t_X12_fullest_26 : decode prog_14_method_80_code 26 = .ok (.invokestatic 256, 3) := by decide +kernel
theorem t_X12_fullest_29 : decode prog_14_method_80_code 29 = .ok (.iconst 0, 1) := by decide +kernel
theorem t_X12_fullest_30 : decode prog_14_method_80_code 30 = .ok (.istore_n 2, 1) := by decide +kernel
theorem t_X12_fullest_31 : decode prog_14_method_80_code 31 = .ok (.iload_n 2, 1) := by decide +kernel
theorem t_X12_fullest_32 : decode prog_14_method_80_code 32 = .ok (.iload_n 1, 1) := by decide +kernel
theorem t_X12_fullest_33 : decode prog_14_method_80_code 33 = .ok (.if_icmp .ge 18, 3) := by decide +kernel
theorem t_X12_fullest_36 : decode prog_14_method_80_code 36 = .ok (.aload_n 0, 1) := by decide +kernel
theorem t_X12_fullest_37 : decode prog_14_method_80_code 37 = .ok (.aload_n 0, 1) := by decide +kernel
theorem t_X12_fullest_38 : decode prog_14_method_80_code 38 = .ok (.getfield 46, 3) := by decide +kernel
theorem t_X12_fullest_41 : decode prog_14_method_80_code 41 = .ok (.invokevirtual 289, 3) := by decide +kernel
theorem t_X12_fullest_44 : decode prog_14_method_80_code 44 = .ok (.pop, 1) := by decide +kernel
theorem t_X12_fullest_45 : decode prog_14_method_80_code 45 = .ok (.iinc 2 1, 3) := by decide +kernel
theorem t_X12_fullest_48 : decode prog_14_method_80_code 48 = .ok (.goto (-17), 3) := by decide +kernel
theorem t_X12_fullest_51 : decode prog_14_method_80_code 51 = .ok (.iconst 0, 1) := by decide +kernel
theorem t_X12_fullest_52 : decode prog_14_method_80_code 52 = .ok (.istore_n 2, 1) := by decide +kernel
theorem t_X12_fullest_53 : decode prog_14_method_80_code 53 = .ok (.iconst 1, 1) := by decide +kernel
theorem t_X12_fullest_54 : decode prog_14_method_80_code 54 = .ok (.istore_n 3, 1) := by decide +kernel
theorem t_X12_fullest_55 : decode prog_14_method_80_code 55 = .ok (.iload_n 3, 1) := by decide +kernel
theorem t_X12_fullest_56 : decode prog_14_method_80_code 56 = .ok (.aload_n 0, 1) := by decide +kernel
theorem t_X12_fullest_57 : decode prog_14_method_80_code 57 = .ok (.invokevirtual 214, 3) := by decide +kernel
theorem t_X12_fullest_60 : decode prog_14_method_80_code 60 = .ok (.if_icmp .ge 30, 3) := by decide +kernel
theorem t_X12_fullest_63 : decode prog_14_method_80_code 63 = .ok (.aload_n 0, 1) := by decide +kernel
theorem t_X12_fullest_64 : decode prog_14_method_80_code 64 = .ok (.getfield 46, 3) := by decide +kernel
theorem t_X12_fullest_67 : decode prog_14_method_80_code 67 = .ok (.iload_n 3, 1) := by decide +kernel
theorem t_X12_fullest_68 : decode prog_14_method_80_code 68 = .ok (.iaload, 1) := by decide +kernel
theorem t_X12_fullest_69 : decode prog_14_method_80_code 69 = .ok (.aload_n 0, 1) := by decide +kernel
theorem t_X12_fullest_70 : decode prog_14_method_80_code 70 = .ok (.getfield 46, 3) := by decide +kernel
theorem t_X12_fullest_73 : decode prog_14_method_80_code 73 = .ok (.iload_n 2, 1) := by decide +kernel
theorem t_X12_fullest_74 : decode prog_14_method_80_code 74 = .ok (.iaload, 1) := by decide +kernel
theorem t_X12_fullest_75 : decode prog_14_method_80_code 75 = .ok (.if_icmp .le 7, 3) := by decide +kernel
theorem t_X12_fullest_78 : decode prog_14_method_80_code 78 = .ok (.iload_n 3, 1) := by decide +kernel
theorem t_X12_fullest_79 : decode prog_14_method_80_code 79 = .ok (.goto 4, 3) := by decide +kernel
theorem t_X12_fullest_82 : decode prog_14_method_80_code 82 = .ok (.iload_n 2, 1) := by decide +kernel
theorem t_X12_fullest_83 : decode prog_14_method_80_code 83 = .ok (.istore_n 2, 1) := by decide +kernel
theorem t_X12_fullest_84 : decode prog_14_method_80_code 84 = .ok (.iinc 3 1, 3) := by decide +kernel
theorem t_X12_fullest_87 : decode prog_14_method_80_code 87 = .ok (.goto (-32), 3) := by decide +kernel
theorem t_X12_fullest_90 : decode prog_14_method_80_code 90 = .ok (.aload_n 0, 1) := by decide +kernel
theorem t_X12_fullest_91 : decode prog_14_method_80_code 91 = .ok (.iconst 0, 1) := by decide +kernel
theorem t_X12_fullest_92 : decode prog_14_method_80_code 92 = .ok (.putfield 112, 3) := by decide +kernel
theorem t_X12_fullest_95 : decode prog_14_method_80_code 95 = .ok (.aload_n 0, 1) := by decide +kernel
theorem t_X12_fullest_96 : decode prog_14_method_80_code 96 = .ok (.aload_n 0, 1) := by decide +kernel
theorem t_X12_fullest_97 : decode prog_14_method_80_code 97 = .ok (.getfield 46, 3) := by decide +kernel
theorem t_X12_fullest_100 : decode prog_14_method_80_code 100 = .ok (.iload_n 2, 1) := by decide +kernel
theorem t_X12_fullest_101 : decode prog_14_method_80_code 101 = .ok (.iaload, 1) := by decide +kernel
theorem t_X12_fullest_102 : decode prog_14_method_80_code 102 = .ok (.i2l, 1) := by decide +kernel
theorem t_X12_fullest_103 : decode prog_14_method_80_code 103 = .ok (.invokevirtual 260, 3) := by decide +kernel
theorem t_X12_fullest_106 : decode prog_14_method_80_code 106 = .ok (.iload_n 2, 1) := by decide +kernel
theorem t_X12_fullest_107 : decode prog_14_method_80_code 107 = .ok (.ireturn, 1) := by decide +kernel
def y_X12_alone : MethodName := ⟨"SowingBoardsModel", "alone", "(I)I"⟩
theorem t_X12_alone_0 : decode prog_14_method_81_code 0 = .ok (.aload_n 0, 1) := by decide +kernel
theorem t_X12_alone_1 : decode prog_14_method_81_code 1 = .ok (.iconst 0, 1) := by decide +kernel
theorem t_X12_alone_2 : decode prog_14_method_81_code 2 = .ok (.putfield 109, 3) := by decide +kernel
theorem t_X12_alone_5 : decode prog_14_method_81_code 5 = .ok (.iload_n 1, 1) := by decide +kernel
theorem t_X12_alone_6 : decode prog_14_method_81_code 6 = .ok (.iconst 0, 1) := by decide +kernel
theorem t_X12_alone_7 : decode prog_14_method_81_code 7 = .ok (.bipush 99, 2) := by decide +kernel
theorem t_X12_alone_9 : decode prog_14_method_81_code 9 = .ok (.invokestatic 118, 3) := by decide +kernel
theorem t_X12_alone_12 : decode prog_14_method_81_code 12 = .ok (.ifCond .ne 5, 3) := by decide +kernel
theorem t_X12_alone_15 : decode prog_14_method_81_code 15 = .ok (.iconst (-1), 1) := by decide +kernel
theorem t_X12_alone_16 : decode prog_14_method_81_code 16 = .ok (.ireturn, 1) := by decide +kernel
theorem t_X12_alone_17 : decode prog_14_method_81_code 17 = .ok (.iconst 0, 1) := by decide +kernel
theorem t_X12_alone_18 : decode prog_14_method_81_code 18 = .ok (.istore_n 2, 1) := by decide +kernel
theorem t_X12_alone_19 : decode prog_14_method_81_code 19 = .ok (.iload_n 2, 1) := by decide +kernel
theorem t_X12_alone_20 : decode prog_14_method_81_code 20 = .ok (.aload_n 0, 1) := by decide +kernel
theorem t_X12_alone_21 : decode prog_14_method_81_code 21 = .ok (.getfield 78, 3) := by decide +kernel
theorem t_X12_alone_24 : decode prog_14_method_81_code 24 = .ok (.arraylength, 1) := by decide +kernel
theorem t_X12_alone_25 : decode prog_14_method_81_code 25 = .ok (.if_icmp .ge 16, 3) := by decide +kernel
theorem t_X12_alone_28 : decode prog_14_method_81_code 28 = .ok (.aload_n 0, 1) := by decide +kernel
theorem t_X12_alone_29 : decode prog_14_method_81_code 29 = .ok (.getfield 78, 3) := by decide +kernel
theorem t_X12_alone_32 : decode prog_14_method_81_code 32 = .ok (.iload_n 2, 1) := by decide +kernel
theorem t_X12_alone_33 : decode prog_14_method_81_code 33 = .ok (.iconst 0, 1) := by decide +kernel
theorem t_X12_alone_34 : decode prog_14_method_81_code 34 = .ok (.iastore, 1) := by decide +kernel
theorem t_X12_alone_35 : decode prog_14_method_81_code 35 = .ok (.iinc 2 1, 3) := by decide +kernel
theorem t_X12_alone_38 : decode prog_14_method_81_code 38 = .ok (.goto (-19), 3) := by decide +kernel
theorem t_X12_alone_41 : decode prog_14_method_81_code 41 = .ok (.iconst 0, 1) := by decide +kernel
theorem t_X12_alone_42 : decode prog_14_method_81_code 42 = .ok (.istore_n 2, 1) := by decide +kernel
theorem t_X12_alone_43 : decode prog_14_method_81_code 43 = .ok (.iconst 0, 1) := by decide +kernel
theorem t_X12_alone_44 : decode prog_14_method_81_code 44 = .ok (.istore_n 3, 1) := by decide +kernel
theorem t_X12_alone_45 : decode prog_14_method_81_code 45 = .ok (.iload_n 3, 1) := by decide +kernel
theorem t_X12_alone_46 : decode prog_14_method_81_code 46 = .ok (.iload_n 1, 1) := by decide +kernel
theorem t_X12_alone_47 : decode prog_14_method_81_code 47 = .ok (.if_icmp .ge 55, 3) := by decide +kernel
theorem t_X12_alone_50 : decode prog_14_method_81_code 50 = .ok (.iconst 1, 1) := by decide +kernel
theorem t_X12_alone_51 : decode prog_14_method_81_code 51 = .ok (.istore 4, 2) := by decide +kernel
theorem t_X12_alone_53 : decode prog_14_method_81_code 53 = .ok (.aload_n 0, 1) := by decide +kernel
theorem t_X12_alone_54 : decode prog_14_method_81_code 54 = .ok (.getfield 78, 3) := by decide +kernel
theorem t_X12_alone_57 : decode prog_14_method_81_code 57 = .ok (.iload 4, 2) := by decide +kernel
theorem t_X12_alone_59 : decode prog_14_method_81_code 59 = .ok (.iaload, 1) := by decide +kernel
theorem t_X12_alone_60 : decode prog_14_method_81_code 60 = .ok (.ifCond .le 20, 3) := by decide +kernel
theorem t_X12_alone_63 : decode prog_14_method_81_code 63 = .ok (.aload_n 0, 1) := by decide +kernel
theorem t_X12_alone_64 : decode prog_14_method_81_code 64 = .ok (.getfield 78, 3) := by decide +kernel
theorem t_X12_alone_67 : decode prog_14_method_81_code 67 = .ok (.iload 4, 2) := by decide +kernel
theorem t_X12_alone_69 : decode prog_14_method_81_code 69 = .ok (.dup2, 1) := by decide +kernel
theorem t_X12_alone_70 : decode prog_14_method_81_code 70 = .ok (.iaload, 1) := by decide +kernel
theorem t_X12_alone_71 : decode prog_14_method_81_code 71 = .ok (.iconst 1, 1) := by decide +kernel
theorem t_X12_alone_72 : decode prog_14_method_81_code 72 = .ok (.isub, 1) := by decide +kernel
theorem t_X12_alone_73 : decode prog_14_method_81_code 73 = .ok (.iastore, 1) := by decide +kernel
theorem t_X12_alone_74 : decode prog_14_method_81_code 74 = .ok (.iinc 4 1, 3) := by decide +kernel
theorem t_X12_alone_77 : decode prog_14_method_81_code 77 = .ok (.goto (-24), 3) := by decide +kernel
theorem t_X12_alone_80 : decode prog_14_method_81_code 80 = .ok (.aload_n 0, 1) := by decide +kernel
theorem t_X12_alone_81 : decode prog_14_method_81_code 81 = .ok (.getfield 78, 3) := by decide +kernel
theorem t_X12_alone_84 : decode prog_14_method_81_code 84 = .ok (.iload 4, 2) := by decide +kernel
theorem t_X12_alone_86 : decode prog_14_method_81_code 86 = .ok (.iload 4, 2) := by decide +kernel
theorem t_X12_alone_88 : decode prog_14_method_81_code 88 = .ok (.iastore, 1) := by decide +kernel
theorem t_X12_alone_89 : decode prog_14_method_81_code 89 = .ok (.iload_n 2, 1) := by decide +kernel
theorem t_X12_alone_90 : decode prog_14_method_81_code 90 = .ok (.iload 4, 2) := by decide +kernel
theorem t_X12_alone_92 : decode prog_14_method_81_code 92 = .ok (.invokestatic 226, 3) := by decide +kernel
theorem t_X12_alone_95 : decode prog_14_method_81_code 95 = .ok (.istore_n 2, 1) := by decide +kernel
theorem t_X12_alone_96 : decode prog_14_method_81_code 96 = .ok (.iinc 3 1, 3) := by decide +kernel
theorem t_X12_alone_99 : decode prog_14_method_81_code 99 = .ok (.goto (-54), 3) := by decide +kernel
theorem t_X12_alone_102 : decode prog_14_method_81_code 102 = .ok (.aload_n 0, 1) := by decide +kernel
theorem t_X12_alone_103 : decode prog_14_method_81_code 103 = .ok (.iconst 0, 1) := by decide +kernel
theorem t_X12_alone_104 : decode prog_14_method_81_code 104 = .ok (.putfield 112, 3) := by decide +kernel
theorem t_X12_alone_107 : decode prog_14_method_81_code 107 = .ok (.iconst 1, 1) := by decide +kernel
theorem t_X12_alone_108 : decode prog_14_method_81_code 108 = .ok (.istore_n 3, 1) := by decide +kernel
theorem t_X12_alone_109 : decode prog_14_method_81_code 109 = .ok (.iload_n 3, 1) := by decide +kernel
theorem t_X12_alone_110 : decode prog_14_method_81_code 110 = .ok (.iload_n 2, 1) := by decide +kernel
theorem t_X12_alone_111 : decode prog_14_method_81_code 111 = .ok (.if_icmp .gt 20, 3) := by decide +kernel
theorem t_X12_alone_114 : decode prog_14_method_81_code 114 = .ok (.aload_n 0, 1) := by decide +kernel
theorem t_X12_alone_115 : decode prog_14_method_81_code 115 = .ok (.aload_n 0, 1) := by decide +kernel
theorem t_X12_alone_116 : decode prog_14_method_81_code 116 = .ok (.getfield 78, 3) := by decide +kernel
theorem t_X12_alone_119 : decode prog_14_method_81_code 119 = .ok (.iload_n 3, 1) := by decide +kernel
theorem t_X12_alone_120 : decode prog_14_method_81_code 120 = .ok (.iaload, 1) := by decide +kernel
theorem t_X12_alone_121 : decode prog_14_method_81_code 121 = .ok (.i2l, 1) := by decide +kernel
theorem t_X12_alone_122 : decode prog_14_method_81_code 122 = .ok (.invokevirtual 260, 3) := by decide +kernel
theorem t_X12_alone_125 : decode prog_14_method_81_code 125 = .ok (.iinc 3 1, 3) := by decide +kernel
theorem t_X12_alone_128 : decode prog_14_method_81_code 128 = .ok (.goto (-19), 3) := by decide +kernel
theorem t_X12_alone_131 : decode prog_14_method_81_code 131 = .ok (.iload_n 2, 1) := by decide +kernel
theorem t_X12_alone_132 : decode prog_14_method_81_code 132 = .ok (.ireturn, 1) := by decide +kernel
def y_X12_comes : MethodName := ⟨"SowingBoardsModel", "comes", "()I"⟩
theorem t_X12_comes_0 : decode prog_14_method_82_code 0 = .ok (.aload_n 0, 1) := by decide +kernel
theorem t_X12_comes_1 : decode prog_14_method_82_code 1 = .ok (.iconst 0, 1) := by decide +kernel
theorem t_X12_comes_2 : decode prog_14_method_82_code 2 = .ok (.putfield 109, 3) := by decide +kernel
theorem t_X12_comes_5 : decode prog_14_method_82_code 5 = .ok (.aload_n 0, 1) := by decide +kernel
theorem t_X12_comes_6 : decode prog_14_method_82_code 6 = .ok (.bipush 20, 2) := by decide +kernel
theorem t_X12_comes_8 : decode prog_14_method_82_code 8 = .ok (.invokevirtual 161, 3) := by decide +kernel
theorem t_X12_comes_11 : decode prog_14_method_82_code 11 = .ok (.iconst 0, 1) := by decide +kernel
theorem t_X12_comes_12 : decode prog_14_method_82_code 12 = .ok (.istore_n 1, 1) := by decide +kernel
theorem t_X12_comes_13 : decode prog_14_method_82_code 13 = .ok (.aload_n 0, 1) := by decide +kernel
theorem t_X12_comes_14 : decode prog_14_method_82_code 14 = .ok (.invokevirtual 141, 3) := by decide +kernel
theorem t_X12_comes_17 : decode prog_14_method_82_code 17 = .ok (.ifCond .eq 37, 3) := by decide +kernel
theorem t_X12_comes_20 : decode prog_14_method_82_code 20 = .ok (.iload_n 1, 1) := by decide +kernel
theorem t_X12_comes_21 : decode prog_14_method_82_code 21 = .ok (.ifCond .eq 11, 3) := by decide +kernel
theorem t_X12_comes_24 : decode prog_14_method_82_code 24 = .ok (.aload_n 0, 1) := by decide +kernel
theorem t_X12_comes_25 : decode prog_14_method_82_code 25 = .ok (.invokevirtual 145, 3) := by decide +kernel
theorem t_X12_comes_28 : decode prog_14_method_82_code 28 = .ok (.iconst (-1), 1) := by decide +kernel
theorem t_X12_comes_29 : decode prog_14_method_82_code 29 = .ok (.if_icmp .eq 25, 3) := by decide +kernel
theorem t_X12_comes_32 : decode prog_14_method_82_code 32 = .ok (.aload_n 0, 1) := by decide +kernel
theorem t_X12_comes_33 : decode prog_14_method_82_code 33 = .ok (.getfield 78, 3) := by decide +kernel
theorem t_X12_comes_36 : decode prog_14_method_82_code 36 = .ok (.iload_n 1, 1) := by decide +kernel
theorem t_X12_comes_37 : decode prog_14_method_82_code 37 = .ok (.iconst 1, 1) := by decide +kernel
theorem t_X12_comes_38 : decode prog_14_method_82_code 38 = .ok (.iadd, 1) := by decide +kernel
theorem t_X12_comes_39 : decode prog_14_method_82_code 39 = .ok (.aload_n 0, 1) := by decide +kernel
theorem t_X12_comes_40 : decode prog_14_method_82_code 40 = .ok (.bipush 48, 2) := by decide +kernel
theorem t_X12_comes_42 : decode prog_14_method_82_code 42 = .ok (.bipush 10, 2) := by decide +kernel
theorem t_X12_comes_44 : decode prog_14_method_82_code 44 = .ok (.invokevirtual 157, 3) := by decide +kernel
theorem t_X12_comes_47 : decode prog_14_method_82_code 47 = .ok (.iastore, 1) := by decide +kernel
theorem t_X12_comes_48 : decode prog_14_method_82_code 48 = .ok (.iinc 1 1, 3) := by decide +kernel
theorem t_X12_comes_51 : decode prog_14_method_82_code 51 = .ok (.goto (-38), 3) := by decide +kernel
theorem t_X12_comes_54 : decode prog_14_method_82_code 54 = .ok (.aload_n 0, 1) := by decide +kernel
theorem t_X12_comes_55 : decode prog_14_method_82_code 55 = .ok (.invokevirtual 164, 3) := by decide +kernel
theorem t_X12_comes_58 : decode prog_14_method_82_code 58 = .ok (.ifCond .ne 10, 3) := by decide +kernel
theorem t_X12_comes_61 : decode prog_14_method_82_code 61 = .ok (.iconst (-1), 1) := by decide +kernel
theorem t_X12_comes_62 : decode prog_14_method_82_code 62 = .ok (.aload_n 0, 1) := by decide +kernel
theorem t_X12_comes_63 : decode prog_14_method_82_code 63 = .ok (.getfield 134, 3) := by decide +kernel
theorem t_X12_comes_66 : decode prog_14_method_82_code 66 = .ok (.isub, 1) := by decide +kernel
theorem t_X12_comes_67 : decode prog_14_method_82_code 67 = .ok (.ireturn, 1) := by decide +kernel
theorem t_X12_comes_68 : decode prog_14_method_82_code 68 = .ok (.iconst 0, 1) := by decide +kernel
theorem t_X12_comes_69 : decode prog_14_method_82_code 69 = .ok (.istore_n 2, 1) := by decide +kernel
theorem t_X12_comes_70 : decode prog_14_method_82_code 70 = .ok (.iconst 1, 1) := by decide +kernel
theorem t_X12_comes_71 : decode prog_14_method_82_code 71 = .ok (.istore_n 3, 1) := by decide +kernel
theorem t_X12_comes_72 : decode prog_14_method_82_code 72 = .ok (.iload_n 3, 1) := by decide +kernel
theorem t_X12_comes_73 : decode prog_14_method_82_code 73 = .ok (.iload_n 1, 1) := by decide +kernel
theorem t_X12_comes_74 : decode prog_14_method_82_code 74 = .ok (.if_icmp .gt 60, 3) := by decide +kernel
theorem t_X12_comes_77 : decode prog_14_method_82_code 77 = .ok (.aload_n 0, 1) := by decide +kernel
theorem t_X12_comes_78 : decode prog_14_method_82_code 78 = .ok (.getfield 78, 3) := by decide +kernel
theorem t_X12_comes_81 : decode prog_14_method_82_code 81 = .ok (.iload_n 3, 1) := by decide +kernel
theorem t_X12_comes_82 : decode prog_14_method_82_code 82 = .ok (.iaload, 1) := by decide +kernel
theorem t_X12_comes_83 : decode prog_14_method_82_code 83 = .ok (.iload_n 3, 1) := by decide +kernel
theorem t_X12_comes_84 : decode prog_14_method_82_code 84 = .ok (.if_icmp .eq 9, 3) := by decide +kernel
theorem t_X12_comes_87 : decode prog_14_method_82_code 87 = .ok (.iinc 3 1, 3) := by decide +kernel
theorem t_X12_comes_90 : decode prog_14_method_82_code 90 = .ok (.goto (-18), 3) := by decide +kernel
theorem t_X12_comes_93 : decode prog_14_method_82_code 93 = .ok (.aload_n 0, 1) := by decide +kernel
theorem t_X12_comes_94 : decode prog_14_method_82_code 94 = .ok (.getfield 78, 3) := by decide +kernel
theorem t_X12_comes_97 : decode prog_14_method_82_code 97 = .ok (.iload_n 3, 1) := by decide +kernel
theorem t_X12_comes_98 : decode prog_14_method_82_code 98 = .ok (.iconst 0, 1) := by decide +kernel
theorem t_X12_comes_99 : decode prog_14_method_82_code 99 = .ok (.iastore, 1) := by decide +kernel
theorem t_X12_comes_100 : decode prog_14_method_82_code 100 = .ok (.iconst 1, 1) := by decide +kernel
theorem t_X12_comes_101 : decode prog_14_method_82_code 101 = .ok (.istore 4, 2) := by decide +kernel
theorem t_X12_comes_103 : decode prog_14_method_82_code 103 = .ok (.iload 4, 2) := by decide +kernel
theorem t_X12_comes_105 : decode prog_14_method_82_code 105 = .ok (.iload_n 3, 1) := by decide +kernel
theorem t_X12_comes_106 : decode prog_14_method_82_code 106 = .ok (.if_icmp .ge 20, 3) := by decide +kernel
theorem t_X12_comes_109 : decode prog_14_method_82_code 109 = .ok (.aload_n 0, 1) := by decide +kernel
theorem t_X12_comes_110 : decode prog_14_method_82_code 110 = .ok (.getfield 78, 3) := by decide +kernel
theorem t_X12_comes_113 : decode prog_14_method_82_code 113 = .ok (.iload 4, 2) := by decide +kernel
theorem t_X12_comes_115 : decode prog_14_method_82_code 115 = .ok (.dup2, 1) := by decide +kernel
theorem t_X12_comes_116 : decode prog_14_method_82_code 116 = .ok (.iaload, 1) := by decide +kernel
theorem t_X12_comes_117 : decode prog_14_method_82_code 117 = .ok (.iconst 1, 1) := by decide +kernel
theorem t_X12_comes_118 : decode prog_14_method_82_code 118 = .ok (.iadd, 1) := by decide +kernel
theorem t_X12_comes_119 : decode prog_14_method_82_code 119 = .ok (.iastore, 1) := by decide +kernel
theorem t_X12_comes_120 : decode prog_14_method_82_code 120 = .ok (.iinc 4 1, 3) := by decide +kernel
theorem t_X12_comes_123 : decode prog_14_method_82_code 123 = .ok (.goto (-20), 3) := by decide +kernel
theorem t_X12_comes_126 : decode prog_14_method_82_code 126 = .ok (.iinc 2 1, 3) := by decide +kernel
theorem t_X12_comes_129 : decode prog_14_method_82_code 129 = .ok (.iconst 1, 1) := by decide +kernel
theorem t_X12_comes_130 : decode prog_14_method_82_code 130 = .ok (.istore_n 3, 1) := by decide +kernel
theorem t_X12_comes_131 : decode prog_14_method_82_code 131 = .ok (.goto (-59), 3) := by decide +kernel
theorem t_X12_comes_134 : decode prog_14_method_82_code 134 = .ok (.iconst 0, 1) := by decide +kernel
theorem t_X12_comes_135 : decode prog_14_method_82_code 135 = .ok (.istore 4, 2) := by decide +kernel
theorem t_X12_comes_137 : decode prog_14_method_82_code 137 = .ok (.iconst 1, 1) := by decide +kernel
theorem t_X12_comes_138 : decode prog_14_method_82_code 138 = .ok (.istore 5, 2) := by decide +kernel
theorem t_X12_comes_140 : decode prog_14_method_82_code 140 = .ok (.iload 5, 2) := by decide +kernel
theorem t_X12_comes_142 : decode prog_14_method_82_code 142 = .ok (.iload_n 1, 1) := by decide +kernel
theorem t_X12_comes_143 : decode prog_14_method_82_code 143 = .ok (.if_icmp .gt 21, 3) := by decide +kernel
theorem t_X12_comes_146 : decode prog_14_method_82_code 146 = .ok (.iload 4, 2) := by decide +kernel
theorem t_X12_comes_148 : decode prog_14_method_82_code 148 = .ok (.aload_n 0, 1) := by decide +kernel
theorem t_X12_comes_149 : decode prog_14_method_82_code 149 = .ok (.getfield 78, 3) := by decide +kernel
theorem t_X12_comes_152 : decode prog_14_method_82_code 152 = .ok (.iload 5, 2) := by decide +kernel
theorem t_X12_comes_154 : decode prog_14_method_82_code 154 = .ok (.iaload, 1) := by decide +kernel
theorem t_X12_comes_155 : decode prog_14_method_82_code 155 = .ok (.iadd, 1) := by decide +kernel
theorem t_X12_comes_156 : decode prog_14_method_82_code 156 = .ok (.istore 4, 2) := by decide +kernel
theorem t_X12_comes_158 : decode prog_14_method_82_code 158 = .ok (.iinc 5 1, 3) := by decide +kernel
theorem t_X12_comes_161 : decode prog_14_method_82_code 161 = .ok (.goto (-21), 3) := by decide +kernel
theorem t_X12_comes_164 : decode prog_14_method_82_code 164 = .ok (.aload_n 0, 1) := by decide +kernel
theorem t_X12_comes_165 : decode prog_14_method_82_code 165 = .ok (.iconst 0, 1) := by decide +kernel
theorem t_X12_comes_166 : decode prog_14_method_82_code 166 = .ok (.putfield 112, 3) := by decide +kernel
theorem t_X12_comes_169 : decode prog_14_method_82_code 169 = .ok (.aload_n 0, 1) := by decide +kernel
theorem t_X12_comes_170 : decode prog_14_method_82_code 170 = .ok (.iload_n 2, 1) := by decide +kernel
theorem t_X12_comes_171 : decode prog_14_method_82_code 171 = .ok (.i2l, 1) := by decide +kernel
theorem t_X12_comes_172 : decode prog_14_method_82_code 172 = .ok (.invokevirtual 260, 3) := by decide +kernel
theorem t_X12_comes_175 : decode prog_14_method_82_code 175 = .ok (.aload_n 0, 1) := by decide +kernel
theorem t_X12_comes_176 : decode prog_14_method_82_code 176 = .ok (.iload 4, 2) := by decide +kernel
theorem t_X12_comes_178 : decode prog_14_method_82_code 178 = .ok (.i2l, 1) := by decide +kernel
theorem t_X12_comes_179 : decode prog_14_method_82_code 179 = .ok (.invokevirtual 260, 3) := by decide +kernel
theorem t_X12_comes_182 : decode prog_14_method_82_code 182 = .ok (.iload_n 2, 1) := by decide +kernel
theorem t_X12_comes_183 : decode prog_14_method_82_code 183 = .ok (.ireturn, 1) := by decide +kernel
def y_X12_highOf : MethodName := ⟨"SowingBoardsModel", "highOf", "(I)I"⟩
theorem t_X12_highOf_0 : decode prog_14_method_83_code 0 = .ok (.iload_n 0, 1) := by decide +kernel
theorem t_X12_highOf_1 : decode prog_14_method_83_code 1 = .ok (.ifCond .eq 8, 3) := by decide +kernel
theorem t_X12_highOf_4 : decode prog_14_method_83_code 4 = .ok (.iload_n 0, 1) := by decide +kernel
theorem t_X12_highOf_5 : decode prog_14_method_83_code 5 = .ok (.iconst 4, 1) := by decide +kernel
theorem t_X12_highOf_6 : decode prog_14_method_83_code 6 = .ok (.if_icmp .ne 7, 3) := by decide +kernel
theorem t_X12_highOf_9 : decode prog_14_method_83_code 9 = .ok (.iconst 1, 1) := by decide +kernel
theorem t_X12_highOf_10 : decode prog_14_method_83_code 10 = .ok (.goto 14, 3) := by decide +kernel
theorem t_X12_highOf_13 : decode prog_14_method_83_code 13 = .ok (.iload_n 0, 1) := by decide +kernel
theorem t_X12_highOf_14 : decode prog_14_method_83_code 14 = .ok (.iconst 3, 1) := by decide +kernel
theorem t_X12_highOf_15 : decode prog_14_method_83_code 15 = .ok (.if_icmp .ne 7, 3) := by decide +kernel
theorem t_X12_highOf_18 : decode prog_14_method_83_code 18 = .ok (.iconst 5, 1) := by decide +kernel
theorem t_X12_highOf_19 : decode prog_14_method_83_code 19 = .ok (.goto 5, 3) := by decide +kernel
theorem t_X12_highOf_22 : decode prog_14_method_83_code 22 = .ok (.bipush 9, 2) := by decide +kernel
theorem t_X12_highOf_24 : decode prog_14_method_83_code 24 = .ok (.ireturn, 1) := by decide +kernel
def y_X12_heard : MethodName := ⟨"SowingBoardsModel", "heard", "(II)I"⟩
theorem t_X12_heard_0 : decode prog_14_method_84_code 0 = .ok (.aload_n 0, 1) := by decide +kernel
theorem t_X12_heard_1 : decode prog_14_method_84_code 1 = .ok (.iconst 0, 1) := by decide +kernel
theorem t_X12_heard_2 : decode prog_14_method_84_code 2 = .ok (.putfield 109, 3) := by decide +kernel
theorem t_X12_heard_5 : decode prog_14_method_84_code 5 = .ok (.iload_n 1, 1) := by decide +kernel
theorem t_X12_heard_6 : decode prog_14_method_84_code 6 = .ok (.iconst 0, 1) := by decide +kernel
theorem t_X12_heard_7 : decode prog_14_method_84_code 7 = .ok (.iconst 4, 1) := by decide +kernel
theorem t_X12_heard_8 : decode prog_14_method_84_code 8 = .ok (.invokestatic 118, 3) := by decide +kernel
theorem t_X12_heard_11 : decode prog_14_method_84_code 11 = .ok (.ifCond .eq 24, 3) := by decide +kernel
theorem t_X12_heard_14 : decode prog_14_method_84_code 14 = .ok (.iload_n 2, 1) := by decide +kernel
theorem t_X12_heard_15 : decode prog_14_method_84_code 15 = .ok (.iconst 0, 1) := by decide +kernel
theorem t_X12_heard_16 : decode prog_14_method_84_code 16 = .ok (.iload_n 1, 1) := by decide +kernel
theorem t_X12_heard_17 : decode prog_14_method_84_code 17 = .ok (.invokestatic 351, 3) := by decide +kernel
theorem t_X12_heard_20 : decode prog_14_method_84_code 20 = .ok (.invokestatic 118, 3) := by decide +kernel
theorem t_X12_heard_23 : decode prog_14_method_84_code 23 = .ok (.ifCond .eq 12, 3) := by decide +kernel
theorem t_X12_heard_26 : decode prog_14_method_84_code 26 = .ok (.aload_n 0, 1) := by decide +kernel
theorem t_X12_heard_27 : decode prog_14_method_84_code 27 = .ok (.getfield 354, 3) := by decide +kernel
theorem t_X12_heard_30 : decode prog_14_method_84_code 30 = .ok (.bipush 12, 2) := by decide +kernel
theorem t_X12_heard_32 : decode prog_14_method_84_code 32 = .ok (.if_icmp .ne 5, 3) := by decide +kernel
theorem t_X12_heard_35 : decode prog_14_method_84_code 35 = .ok (.iconst (-1), 1) := by decide +kernel
theorem t_X12_heard_36 : decode prog_14_method_84_code 36 = .ok (.ireturn, 1) := by decide +kernel
theorem t_X12_heard_37 : decode prog_14_method_84_code 37 = .ok (.aload_n 0, 1) := by decide +kernel
theorem t_X12_heard_38 : decode prog_14_method_84_code 38 = .ok (.getfield 81, 3) := by decide +kernel
theorem t_X12_heard_41 : decode prog_14_method_84_code 41 = .ok (.aload_n 0, 1) := by decide +kernel
theorem t_X12_heard_42 : decode prog_14_method_84_code 42 = .ok (.getfield 354, 3) := by decide +kernel
theorem t_X12_heard_45 : decode prog_14_method_84_code 45 = .ok (.iload_n 1, 1) := by decide +kernel
theorem t_X12_heard_46 : decode prog_14_method_84_code 46 = .ok (.iastore, 1) := by decide +kernel
theorem t_X12_heard_47 : decode prog_14_method_84_code 47 = .ok (.aload_n 0, 1) := by decide +kernel
theorem t_X12_heard_48 : decode prog_14_method_84_code 48 = .ok (.getfield 84, 3) := by decide +kernel
theorem t_X12_heard_51 : decode prog_14_method_84_code 51 = .ok (.aload_n 0, 1) := by decide +kernel
theorem t_X12_heard_52 : decode prog_14_method_84_code 52 = .ok (.getfield 354, 3) := by decide +kernel
theorem t_X12_heard_55 : decode prog_14_method_84_code 55 = .ok (.iload_n 2, 1) := by decide +kernel
theorem t_X12_heard_56 : decode prog_14_method_84_code 56 = .ok (.iastore, 1) := by decide +kernel
theorem t_X12_heard_57 : decode prog_14_method_84_code 57 = .ok (.aload_n 0, 1) := by decide +kernel
theorem t_X12_heard_58 : decode prog_14_method_84_code 58 = .ok (.dup, 1) := by decide +kernel
theorem t_X12_heard_59 : decode prog_14_method_84_code 59 = .ok (.getfield 354, 3) := by decide +kernel
theorem t_X12_heard_62 : decode prog_14_method_84_code 62 = .ok (.iconst 1, 1) := by decide +kernel
theorem t_X12_heard_63 : decode prog_14_method_84_code 63 = .ok (.iadd, 1) := by decide +kernel
theorem t_X12_heard_64 : decode prog_14_method_84_code 64 = .ok (.putfield 354, 3) := by decide +kernel
theorem t_X12_heard_67 : decode prog_14_method_84_code 67 = .ok (.aload_n 0, 1) := by decide +kernel
theorem t_X12_heard_68 : decode prog_14_method_84_code 68 = .ok (.getfield 354, 3) := by decide +kernel
theorem t_X12_heard_71 : decode prog_14_method_84_code 71 = .ok (.ireturn, 1) := by decide +kernel
def y_X12_forget : MethodName := ⟨"SowingBoardsModel", "forget", "()I"⟩
theorem t_X12_forget_0 : decode prog_14_method_85_code 0 = .ok (.aload_n 0, 1) := by decide +kernel
theorem t_X12_forget_1 : decode prog_14_method_85_code 1 = .ok (.iconst 0, 1) := by decide +kernel
theorem t_X12_forget_2 : decode prog_14_method_85_code 2 = .ok (.putfield 109, 3) := by decide +kernel
theorem t_X12_forget_5 : decode prog_14_method_85_code 5 = .ok (.aload_n 0, 1) := by decide +kernel
theorem t_X12_forget_6 : decode prog_14_method_85_code 6 = .ok (.getfield 354, 3) := by decide +kernel
theorem t_X12_forget_9 : decode prog_14_method_85_code 9 = .ok (.istore_n 1, 1) := by decide +kernel
theorem t_X12_forget_10 : decode prog_14_method_85_code 10 = .ok (.aload_n 0, 1) := by decide +kernel
theorem t_X12_forget_11 : decode prog_14_method_85_code 11 = .ok (.iconst 0, 1) := by decide +kernel
theorem t_X12_forget_12 : decode prog_14_method_85_code 12 = .ok (.putfield 354, 3) := by decide +kernel
theorem t_X12_forget_15 : decode prog_14_method_85_code 15 = .ok (.iload_n 1, 1) := by decide +kernel
theorem t_X12_forget_16 : decode prog_14_method_85_code 16 = .ok (.ireturn, 1) := by decide +kernel
theorem fl_12_75 : FLk "SowingBoardsModel" 75 12 39 := ⟨_, rfl, by decide, Or.inl (vtb_at 1377 (by decide +kernel) rfl)⟩
theorem fl_12_78 : FLk "SowingBoardsModel" 78 12 40 := ⟨_, rfl, by decide, Or.inl (vtb_at 1378 (by decide +kernel) rfl)⟩
theorem fl_12_81 : FLk "SowingBoardsModel" 81 12 41 := ⟨_, rfl, by decide, Or.inl (vtb_at 1379 (by decide +kernel) rfl)⟩
theorem fl_12_84 : FLk "SowingBoardsModel" 84 12 42 := ⟨_, rfl, by decide, Or.inl (vtb_at 1380 (by decide +kernel) rfl)⟩
theorem fl_12_326 : FLk "SowingBoardsModel" 326 12 38 := ⟨_, rfl, by decide, Or.inl (vtb_at 1376 (by decide +kernel) rfl)⟩
theorem fl_12_354 : FLk "SowingBoardsModel" 354 12 43 := ⟨_, rfl, by decide, Or.inl (vtb_at 1381 (by decide +kernel) rfl)⟩
theorem fp_12_38 : FPk 12 38 "I" := ⟨_, rfl, rfl, rfl⟩
theorem fp_12_43 : FPk 12 43 "I" := ⟨_, rfl, rfl, rfl⟩
theorem cc_12_337 : Cond.constant "SowingBoardsModel" 337 1000000 ∈ vtb := vtb_at 1783 (by decide +kernel) rfl
theorem cc_12_342 : Cond.constantLong "SowingBoardsModel" 342 60 ∈ vtb := vtb_at 1792 (by decide +kernel) rfl
theorem my_X12_goReach : MY y_X12_goReach prog_14_method_71_code 4 none 2 := ⟨vtb_at 1778 (by decide +kernel) rfl, vtb_at 152 (by decide +kernel) rfl, ⟨by decide, by decide, by decide +kernel⟩, by decide⟩
theorem mi_X12_goReach : MI y_X12_goReach := ⟨vtb_at 1777 (by decide +kernel) rfl, vtb_at 126 (by decide +kernel) rfl⟩
theorem my_X12_isReached : MY y_X12_isReached prog_14_method_70_code 4 (some .boolean) 2 := ⟨vtb_at 1782 (by decide +kernel) rfl, vtb_at 152 (by decide +kernel) rfl, ⟨by decide, by decide, by decide +kernel⟩, by decide⟩
theorem mi_X12_isReached : MI y_X12_isReached := ⟨vtb_at 1781 (by decide +kernel) rfl, vtb_at 127 (by decide +kernel) rfl⟩
theorem my_X12_common : MY y_X12_common prog_14_method_73_code 4 (some .long) 2 := ⟨vtb_at 1795 (by decide +kernel) rfl, vtb_at 152 (by decide +kernel) rfl, ⟨by decide, by decide, by decide +kernel⟩, by decide⟩
theorem ms_X12_common : Cond.static y_X12_common ∈ vtb := vtb_at 1794 (by decide +kernel) rfl
theorem my_X12_luckOf : MY y_X12_luckOf prog_14_method_74_code 11 (some .long) 3 := ⟨vtb_at 1791 (by decide +kernel) rfl, vtb_at 152 (by decide +kernel) rfl, ⟨by decide, by decide, by decide +kernel⟩, by decide⟩
theorem mi_X12_luckOf : MI y_X12_luckOf := ⟨vtb_at 1790 (by decide +kernel) rfl, vtb_at 128 (by decide +kernel) rfl⟩
theorem my_X12_isGone : MY y_X12_isGone prog_14_method_78_code 4 (some .boolean) 2 := ⟨vtb_at 1811 (by decide +kernel) rfl, vtb_at 152 (by decide +kernel) rfl, ⟨by decide, by decide, by decide +kernel⟩, by decide⟩
theorem mi_X12_isGone : MI y_X12_isGone := ⟨vtb_at 1810 (by decide +kernel) rfl, vtb_at 129 (by decide +kernel) rfl⟩
theorem my_X12_highOf : MY y_X12_highOf prog_14_method_83_code 1 (some .int) 1 := ⟨vtb_at 1830 (by decide +kernel) rfl, vtb_at 152 (by decide +kernel) rfl, ⟨by decide, by decide, by decide +kernel⟩, by decide⟩
theorem ms_X12_highOf : Cond.static y_X12_highOf ∈ vtb := vtb_at 1829 (by decide +kernel) rfl
theorem ml_12_329 : ML "SowingBoardsModel" 329 y_X12_isReached := Or.inl (vtb_at 1779 (by decide +kernel) rfl)
theorem ml_12_333 : ML "SowingBoardsModel" 333 y_X12_goReach := Or.inl (vtb_at 1775 (by decide +kernel) rfl)
theorem ml_12_338 : ML "SowingBoardsModel" 338 y_X12_common := Or.inl (vtb_at 1793 (by decide +kernel) rfl)
theorem ml_12_344 : ML "SowingBoardsModel" 344 y_X12_luckOf := Or.inl (vtb_at 1788 (by decide +kernel) rfl)
theorem ml_12_348 : ML "SowingBoardsModel" 348 y_X12_isGone := Or.inl (vtb_at 1808 (by decide +kernel) rfl)
theorem ml_12_351 : ML "SowingBoardsModel" 351 y_X12_highOf := Or.inl (vtb_at 1828 (by decide +kernel) rfl)
def J_X12_goReach_j133_1 (r69 : Int32 → Wd → Option Wd) (x5 : Int32) : Wd → Option Wd := fun w10 =>
  bd (x5 + 1) fun x12 => r69 x12 w10
def L_X12_goReach_69 (rec : Int32 → Int32 → Wd → Option Wd) (x1 : Int32) (x2 : Int32) (k3 : Wd → Option Wd) : Nat → Int32 → Wd → Option Wd
  | 0, _, _ => none
  | n4 + 1, x5, w6 =>
    if (w6.1 119 1) ≤ x5 then (k3 w6) else (if ib x1 7 then bd (133 + x1.toNatClampNeg) (fun q7 => bc (D_X12_refuses q7 x5 w6) fun x9 w8 => bd (J_X12_goReach_j133_1 (L_X12_goReach_69 rec x1 x2 k3 n4) x5) fun k11 => if 0 ≤ x9 then (if ib x1 7 then bd (133 + x1.toNatClampNeg) (fun q13 => if ib (x1 + 1) 7 then bd (133 + (x1 + 1).toNatClampNeg) (fun q14 => bv (D_X12_lay q13 q14 0 w8) fun w15 => if ib (x1 + 1) 7 then bd (133 + (x1 + 1).toNatClampNeg) (fun q16 => bv (D_X12_goMove q16 x5 w15) fun w17 => bv (rec (x1 + 1) x2 w17) fun w18 => k11 w18) else none) else none) else none) else (k11 w8)) else none)
def J_X12_goReach_x139_2  : Wd → Option Wd := fun w19 =>
  some w19
def L_X12_goReach_7 (rec : Int32 → Int32 → Wd → Option Wd) (x20 : Int32) (k21 : Wd → Option Wd) (k22 : Wd → Option Wd) : Nat → Int32 → Wd → Option Wd
  | 0, _, _ => none
  | n23 + 1, x24, w25 =>
    if (w25.1 119 38) ≤ x24 then (k22 w25) else (if ib x20 7 then bd (133 + x20.toNatClampNeg) (fun q26 => bc (D_X12_isReached q26 x24 w25) fun x28 w27 => if x28 = 0 then (bd (x24 + 1) fun x29 => L_X12_goReach_7 rec x20 k21 k22 n23 x29 w27) else (k21 w27)) else none)
def J_X12_goReach_x29_3  : Wd → Option Wd := fun w30 =>
  some w30
def J_X12_goReach_x36_4 (p1 : Int32) : Wd → Option Wd := fun w31 =>
  if ib p1 7 then bd (133 + p1.toNatClampNeg) (fun q32 => bv (D_X12_lay q32 149 (16 * (w31.1 119 38)) w31) fun w33 => bd (wI w33 119 38 ((w33.1 119 38) + 1)) fun w34 => some w34) else none
def B_X12_goReach (rec : Int32 → Int32 → Wd → Option Wd) (p1 : Int32) (p2 : Int32) : Wd → Option Wd := fun w =>
  if p1 = p2 then (L_X12_goReach_7 rec p1 J_X12_goReach_x29_3 (J_X12_goReach_x36_4 p1) FU 0 w) else (L_X12_goReach_69 rec p1 p2 J_X12_goReach_x139_2 FU 0 w)
set_option maxRecDepth 20000 in
theorem Q_X12_goReach_69 {l0 : Launch} {ρ : Nat → Nat} {cs : Nat → ClassId} {G : va_G} {X : Cx} (hρ : injN ρ) {rec : Int32 → Int32 → Wd → Option Wd} {dr d : Nat} (hdr : dr < d) (hbd : 4 ≤ d) (hrec : (∀ {p1 : Int32} {p2 : Int32} {w : Wd} {rr : Wd}, rec p1 p2 w = some rr → CtV l0 ρ cs G y_X12_goReach prog_14_method_71_code 4 dr [.ref (ρ 119), .int p1, .int p2] w rr)) (hn : X.2.2.2.2.2.2.2.2.2.2.1 = 4) (h : Okx l0 ρ cs G X prog_14_method_71_code "SowingBoardsModel" d) {rr : Wd} (hR : ∀ pc L, decode prog_14_method_71_code pc = .ok (.return_, 1) → gG ρ cs G X pc L [] rr) {x1 : Int32} {x2 : Int32} {k3 : Wd → Option Wd} (hk3 : ∀ (w1 : Wd), k3 w1 = some rr → gG ρ cs G X 139 [] [] w1) : ∀ (n : Nat) (x5 : Int32) (w : Wd), L_X12_goReach_69 rec x1 x2 k3 n x5 w = some rr → gG ρ cs G X 69 [(0, .ref (ρ 119)), (1, .int x1), (2, .int x2), (3, .int x5)] [] w := by
  intro n
  induction n with
  | zero =>
    intro x5 w hD
    cases hD
  | succ n4 ih =>
    intro x5 w6 hD
    unfold L_X12_goReach_69 at hD
    refine g_iload_n h 3 t_X12_goReach_69 rfl ?_
    refine g_aload_n h 0 t_X12_goReach_70 rfl ?_
    refine g_getI h 119 1 fl_12_13 rfl (by decide) rfl t_X12_goReach_71 ?_
    refine g_icmp_ge (tgt := 139) h t_X12_goReach_74 (by decide) hD (fun hD => ?_) (fun hD => ?_)
    · refine g_loc (L' := []) h [] rfl ?_
      exact hk3 _ hD
    · refine g_aload_n h 0 t_X12_goReach_77 rfl ?_
      refine g_aload_n h 0 t_X12_goReach_78 rfl ?_
      refine g_getR h 119 29 132 fl_12_57 rfl (by decide) rfl t_X12_goReach_79 ?_
      refine g_iload_n h 1 t_X12_goReach_82 rfl ?_
      refine g_rald h 132 rfl (by decide) t_X12_goReach_83 hD (fun q7 eq7 lq7 hD => ?_)
      have hq7 : isIA q7 := iaA (f := 133) (by decide) eq7 lq7
      refine g_iload_n h 3 t_X12_goReach_84 rfl ?_
      refine g_callVI h 119 (As := [.ref (ρ q7), .int x5]) (st := []) my_X12_refuses mi_X12_refuses ml_12_264 rfl (by decide) rfl rfl rfl (Nat.le_of_ble_eq_true rfl) (by omega) t_X12_goReach_85 hD (fun _ _ e => S_X12_refuses hρ hq7 e) (fun x9 w8 hD => ?_)
      refine g_join (P := fun k11 => ∀ (w10 : Wd), k11 w10 = some rr → gG ρ cs G X 133 [(0, .ref (ρ 119)), (1, .int x1), (2, .int x2), (3, .int x5)] [] w10) hD ?_ (fun k11 hk11 hD => ?_)
      · intro w10 hD
        unfold J_X12_goReach_j133_1 at hD
        obtain ⟨x12, ex12, hD⟩ := bd_ex hD
        refine g_iinc (v := x12) (L' := [(3, .int x12), (0, .ref (ρ 119)), (1, .int x1), (2, .int x2)]) h hn t_X12_goReach_133 (k := 3) rfl (by rw [ex12]; rfl) (by decide) rfl ?_
        refine g_goto (tgt := 69) h t_X12_goReach_136 (by decide) ?_
        refine g_loc (L' := [(0, .ref (ρ 119)), (1, .int x1), (2, .int x2), (3, .int x12)]) h [1, 2, 3, 0] rfl ?_
        exact ih x12 _ hD
      · refine g_if_ge (tgt := 94) h t_X12_goReach_88 (by decide) hD (fun hD => ?_) (fun hD => ?_)
        · refine g_aload_n h 0 t_X12_goReach_94 rfl ?_
          refine g_getR h 119 29 132 fl_12_57 rfl (by decide) rfl t_X12_goReach_95 ?_
          refine g_iload_n h 1 t_X12_goReach_98 rfl ?_
          refine g_rald h 132 rfl (by decide) t_X12_goReach_99 hD (fun q13 eq13 lq13 hD => ?_)
          have hq13 : isIA q13 := iaA (f := 133) (by decide) eq13 lq13
          refine g_aload_n h 0 t_X12_goReach_100 rfl ?_
          refine g_getR h 119 29 132 fl_12_57 rfl (by decide) rfl t_X12_goReach_101 ?_
          refine g_iload_n h 1 t_X12_goReach_104 rfl ?_
          refine g_iconst (v := 1) h t_X12_goReach_105 (by decide) ?_
          refine g_iadd h t_X12_goReach_106 ?_
          refine g_rald h 132 rfl (by decide) t_X12_goReach_107 hD (fun q14 eq14 lq14 hD => ?_)
          have hq14 : isIA q14 := iaA (f := 133) (by decide) eq14 lq14
          refine g_iconst (v := 0) h t_X12_goReach_108 (by decide) ?_
          refine g_callSV h (As := [.ref (ρ q13), .ref (ρ q14), .int 0]) (st := []) my_X12_lay ms_X12_lay ml_12_256 rfl rfl (Nat.le_of_ble_eq_true rfl) (by omega) t_X12_goReach_109 hD (fun _ e => S_X12_lay hρ hq13 hq14 e) (fun w15 hD => ?_)
          refine g_aload_n h 0 t_X12_goReach_112 rfl ?_
          refine g_aload_n h 0 t_X12_goReach_113 rfl ?_
          refine g_getR h 119 29 132 fl_12_57 rfl (by decide) rfl t_X12_goReach_114 ?_
          refine g_iload_n h 1 t_X12_goReach_117 rfl ?_
          refine g_iconst (v := 1) h t_X12_goReach_118 (by decide) ?_
          refine g_iadd h t_X12_goReach_119 ?_
          refine g_rald h 132 rfl (by decide) t_X12_goReach_120 hD (fun q16 eq16 lq16 hD => ?_)
          have hq16 : isIA q16 := iaA (f := 133) (by decide) eq16 lq16
          refine g_iload_n h 3 t_X12_goReach_121 rfl ?_
          refine g_callVV h 119 (As := [.ref (ρ q16), .int x5]) (st := []) my_X12_goMove mi_X12_goMove ml_12_272 rfl (by decide) rfl rfl rfl (Nat.le_of_ble_eq_true rfl) (by omega) t_X12_goReach_122 hD (fun _ e => S_X12_goMove hρ hq16 e) (fun w17 hD => ?_)
          refine g_aload_n h 0 t_X12_goReach_125 rfl ?_
          refine g_iload_n h 1 t_X12_goReach_126 rfl ?_
          refine g_iconst (v := 1) h t_X12_goReach_127 (by decide) ?_
          refine g_iadd h t_X12_goReach_128 ?_
          refine g_iload_n h 2 t_X12_goReach_129 rfl ?_
          refine g_callVV h 119 (As := [.int (x1 + 1), .int x2]) (st := []) my_X12_goReach mi_X12_goReach ml_12_333 rfl (by decide) rfl rfl rfl (Nat.le_of_ble_eq_true rfl) (by omega) t_X12_goReach_130 hD (fun _ e => hrec  e) (fun w18 hD => ?_)
          refine g_loc (L' := [(0, .ref (ρ 119)), (1, .int x1), (2, .int x2), (3, .int x5)]) h [0, 1, 2, 3] rfl ?_
          exact hk11 _ hD
        · refine g_goto (tgt := 133) h t_X12_goReach_91 (by decide) ?_
          refine g_loc (L' := [(0, .ref (ρ 119)), (1, .int x1), (2, .int x2), (3, .int x5)]) h [0, 1, 2, 3] rfl ?_
          exact hk11 _ hD
set_option maxRecDepth 20000 in
theorem Q_X12_goReach_7 {l0 : Launch} {ρ : Nat → Nat} {cs : Nat → ClassId} {G : va_G} {X : Cx} (hρ : injN ρ) {rec : Int32 → Int32 → Wd → Option Wd} {dr d : Nat} (hdr : dr < d) (hbd : 4 ≤ d) (hrec : (∀ {p1 : Int32} {p2 : Int32} {w : Wd} {rr : Wd}, rec p1 p2 w = some rr → CtV l0 ρ cs G y_X12_goReach prog_14_method_71_code 4 dr [.ref (ρ 119), .int p1, .int p2] w rr)) (hn : X.2.2.2.2.2.2.2.2.2.2.1 = 4) (h : Okx l0 ρ cs G X prog_14_method_71_code "SowingBoardsModel" d) {rr : Wd} (hR : ∀ pc L, decode prog_14_method_71_code pc = .ok (.return_, 1) → gG ρ cs G X pc L [] rr) {x20 : Int32} {k21 : Wd → Option Wd} (hk21 : ∀ (w1 : Wd), k21 w1 = some rr → gG ρ cs G X 29 [] [] w1) {k22 : Wd → Option Wd} (hk22 : ∀ (w1 : Wd), k22 w1 = some rr → gG ρ cs G X 36 [(0, .ref (ρ 119)), (1, .int x20)] [] w1) : ∀ (n : Nat) (x24 : Int32) (w : Wd), L_X12_goReach_7 rec x20 k21 k22 n x24 w = some rr → gG ρ cs G X 7 [(0, .ref (ρ 119)), (1, .int x20), (3, .int x24)] [] w := by
  intro n
  induction n with
  | zero =>
    intro x24 w hD
    cases hD
  | succ n23 ih =>
    intro x24 w25 hD
    unfold L_X12_goReach_7 at hD
    refine g_iload_n h 2 t_X12_goReach_7 rfl ?_
    refine g_aload_n h 0 t_X12_goReach_8 rfl ?_
    refine g_getI h 119 38 fl_12_326 rfl (by decide) rfl t_X12_goReach_9 ?_
    refine g_icmp_ge (tgt := 36) h t_X12_goReach_12 (by decide) hD (fun hD => ?_) (fun hD => ?_)
    · refine g_loc (L' := [(0, .ref (ρ 119)), (1, .int x20)]) h [0, 1] rfl ?_
      exact hk22 _ hD
    · refine g_aload_n h 0 t_X12_goReach_15 rfl ?_
      refine g_aload_n h 0 t_X12_goReach_16 rfl ?_
      refine g_getR h 119 29 132 fl_12_57 rfl (by decide) rfl t_X12_goReach_17 ?_
      refine g_iload_n h 1 t_X12_goReach_20 rfl ?_
      refine g_rald h 132 rfl (by decide) t_X12_goReach_21 hD (fun q26 eq26 lq26 hD => ?_)
      have hq26 : isIA q26 := iaA (f := 133) (by decide) eq26 lq26
      refine g_iload_n h 2 t_X12_goReach_22 rfl ?_
      refine g_callVI h 119 (As := [.ref (ρ q26), .int x24]) (st := []) my_X12_isReached mi_X12_isReached ml_12_329 rfl (by decide) rfl rfl rfl (Nat.le_of_ble_eq_true rfl) (by omega) t_X12_goReach_23 hD (fun _ _ e => S_X12_isReached hρ hq26 e) (fun x28 w27 hD => ?_)
      refine g_if_eq (tgt := 30) h t_X12_goReach_26 (by decide) hD (fun hD => ?_) (fun hD => ?_)
      · obtain ⟨x29, ex29, hD⟩ := bd_ex hD
        refine g_iinc (v := x29) (L' := [(3, .int x29), (0, .ref (ρ 119)), (1, .int x20)]) h hn t_X12_goReach_30 (k := 2) rfl (by rw [ex29]; rfl) (by decide) rfl ?_
        refine g_goto (tgt := 7) h t_X12_goReach_33 (by decide) ?_
        refine g_loc (L' := [(0, .ref (ρ 119)), (1, .int x20), (3, .int x29)]) h [1, 2, 0] rfl ?_
        exact ih x29 _ hD
      · refine g_loc (L' := []) h [] rfl ?_
        exact hk21 _ hD
set_option maxRecDepth 20000 in
theorem SB_X12_goReach {l0 : Launch} {ρ : Nat → Nat} {cs : Nat → ClassId} {G : va_G} (hρ : injN ρ) {rec : Int32 → Int32 → Wd → Option Wd} {dr d : Nat} (hdr : dr < d) (hbd : 4 ≤ d) (hrec : (∀ {p1 : Int32} {p2 : Int32} {w : Wd} {rr : Wd}, rec p1 p2 w = some rr → CtV l0 ρ cs G y_X12_goReach prog_14_method_71_code 4 dr [.ref (ρ 119), .int p1, .int p2] w rr)) {p1 : Int32} {p2 : Int32} {w : Wd} {rr : Wd} (hD : B_X12_goReach rec p1 p2 w = some rr) : CtV l0 ρ cs G y_X12_goReach prog_14_method_71_code 4 d [.ref (ρ 119), .int p1, .int p2] w rr := by
  refine ctV_of hρ (by decide) (Nat.le_of_ble_eq_true rfl) (fun X hn h hR => ?_)
  unfold B_X12_goReach at hD
  show gG ρ cs G X 0 [(0, .ref (ρ 119)), (1, .int p1), (2, .int p2)] [] w
  refine g_iload_n h 1 t_X12_goReach_0 rfl ?_
  refine g_iload_n h 2 t_X12_goReach_1 rfl ?_
  refine g_icmp_ne (tgt := 67) h t_X12_goReach_2 (by decide) hD (fun hD => ?_) (fun hD => ?_)
  · refine g_iconst (v := 0) h t_X12_goReach_67 (by decide) ?_
    refine g_istore_n (L' := [(3, .int 0), (0, .ref (ρ 119)), (1, .int p1), (2, .int p2)]) h hn t_X12_goReach_68 rfl (by decide) rfl ?_
    refine g_loc (L' := [(0, .ref (ρ 119)), (1, .int p1), (2, .int p2), (3, .int 0)]) h [1, 2, 3, 0] rfl ?_
    refine Q_X12_goReach_69 hρ hdr hbd hrec hn h hR  ?_ _ _ _ hD
    · intro w19 hD
      unfold J_X12_goReach_x139_2 at hD
      obtain rfl := Option.some.inj hD
      exact hR _ _ t_X12_goReach_139
  · refine g_iconst (v := 0) h t_X12_goReach_5 (by decide) ?_
    refine g_istore_n (L' := [(3, .int 0), (0, .ref (ρ 119)), (1, .int p1), (2, .int p2)]) h hn t_X12_goReach_6 rfl (by decide) rfl ?_
    refine g_loc (L' := [(0, .ref (ρ 119)), (1, .int p1), (3, .int 0)]) h [1, 2, 0] rfl ?_
    refine Q_X12_goReach_7 hρ hdr hbd hrec hn h hR  ?_ ?_ _ _ _ hD
    · intro w30 hD
      unfold J_X12_goReach_x29_3 at hD
      obtain rfl := Option.some.inj hD
      exact hR _ _ t_X12_goReach_29
    · intro w31 hD
      unfold J_X12_goReach_x36_4 at hD
      refine g_aload_n h 0 t_X12_goReach_36 rfl ?_
      refine g_getR h 119 29 132 fl_12_57 rfl (by decide) rfl t_X12_goReach_37 ?_
      refine g_iload_n h 1 t_X12_goReach_40 rfl ?_
      refine g_rald h 132 rfl (by decide) t_X12_goReach_41 hD (fun q32 eq32 lq32 hD => ?_)
      have hq32 : isIA q32 := iaA (f := 133) (by decide) eq32 lq32
      refine g_aload_n h 0 t_X12_goReach_42 rfl ?_
      refine g_getR h 119 37 149 fl_12_72 rfl (by decide) rfl t_X12_goReach_43 ?_
      refine g_bipush (v := 16) h t_X12_goReach_46 (by decide) ?_
      refine g_aload_n h 0 t_X12_goReach_48 rfl ?_
      refine g_getI h 119 38 fl_12_326 rfl (by decide) rfl t_X12_goReach_49 ?_
      refine g_imul h t_X12_goReach_52 ?_
      refine g_callSV h (As := [.ref (ρ q32), .ref (ρ 149), .int (16 * (w31.1 119 38))]) (st := []) my_X12_lay ms_X12_lay ml_12_256 rfl rfl (Nat.le_of_ble_eq_true rfl) (by omega) t_X12_goReach_53 hD (fun _ e => S_X12_lay hρ hq32 (by decide) e) (fun w33 hD => ?_)
      refine g_aload_n h 0 t_X12_goReach_56 rfl ?_
      refine g_dup h t_X12_goReach_57 rfl ?_
      refine g_getI h 119 38 fl_12_326 rfl (by decide) rfl t_X12_goReach_58 ?_
      refine g_iconst (v := 1) h t_X12_goReach_61 (by decide) ?_
      refine g_iadd h t_X12_goReach_62 ?_
      refine g_putI h 119 38 fl_12_326 fp_12_38 rfl (by decide) rfl t_X12_goReach_63 hD (fun w34 hD => ?_)
      obtain rfl := Option.some.inj hD
      exact hR _ _ t_X12_goReach_66
def E_X12_goReach : Nat → Int32 → Int32 → Wd → Option Wd
  | 0, _, _, _ => none
  | n + 1, p1, p2, w => B_X12_goReach (fun p1 p2 w => E_X12_goReach n p1 p2 w) p1 p2 w
set_option maxRecDepth 20000 in
theorem SE_X12_goReach {l0 : Launch} {ρ : Nat → Nat} {cs : Nat → ClassId} {G : va_G} (hρ : injN ρ) : ∀ n : Nat, (∀ {p1 : Int32} {p2 : Int32} {w : Wd} {rr : Wd}, E_X12_goReach n p1 p2 w = some rr → CtV l0 ρ cs G y_X12_goReach prog_14_method_71_code 4 (4 + n) [.ref (ρ 119), .int p1, .int p2] w rr) := by
  intro n
  induction n with
  | zero =>
    intros
    rename_i hD
    cases hD
  | succ n ih =>
    intros
    rename_i hD
    exact SB_X12_goReach hρ (rec := fun p1 p2 w => E_X12_goReach n p1 p2 w) (dr := 4 + n) (d := 4 + (n + 1)) (by omega) (by omega) ih hD
def D_X12_goReach (p1 : Int32) (p2 : Int32) : Wd → Option Wd := fun w => E_X12_goReach 80 p1 p2 w
set_option maxRecDepth 20000 in
theorem S_X12_goReach {l0 : Launch} {ρ : Nat → Nat} {cs : Nat → ClassId} {G : va_G} (hρ : injN ρ) {p1 : Int32} {p2 : Int32} {w : Wd} {rr : Wd} (hD : D_X12_goReach p1 p2 w = some rr) : CtV l0 ρ cs G y_X12_goReach prog_14_method_71_code 4 84 [.ref (ρ 119), .int p1, .int p2] w rr := (SE_X12_goReach hρ 80) hD
def L_X12_reach_50 (k8 : Int32 → Int32 → Wd → Option (Int32 × Wd)) : Nat → Int32 → Int32 → Int32 → Wd → Option (Int32 × Wd)
  | 0, _, _, _, _ => none
  | n9 + 1, x10, x11, x12, w13 =>
    if (w13.1 119 38) ≤ x12 then (k8 x10 x11 w13) else (if ib 14 16 then (if ib (((16 * x12) + 12) + (w13.1 120 (14 : Int32).toNatClampNeg)) 3456 then (bd (w13.1 149 (((16 * x12) + 12) + (w13.1 120 (14 : Int32).toNatClampNeg)).toNatClampNeg) fun x14 => bd (imin x10 x14) fun x15 => bd (imax x11 x14) fun x16 => bd (x12 + 1) fun x17 => L_X12_reach_50 k8 n9 x15 x16 x17 w13) else none) else none)
def J_X12_reach_x102_1  : Int32 → Int32 → Wd → Option (Int32 × Wd) := fun x18 x19 w20 =>
  bd (wI w20 119 6 0) fun w21 => if (w21.1 119 38) ≤ 0 then (some (w21.1 119 38, w21)) else (bv (D_X12_tell x18.toInt64 w21) fun w22 => bv (D_X12_tell x19.toInt64 w22) fun w23 => some (w23.1 119 38, w23))
def D_X12_reach (p1 : Int32) : Wd → Option (Int32 × Wd) := fun w =>
  bd (wI w 119 7 0) fun w1 => bc (D_X12_in p1 0 3 w1) fun x3 w2 => if x3 = 0 then (some ((-1), w2)) else (bd (wI w2 119 38 0) fun w4 => if ib 0 7 then bd (133 + (0 : Int32).toNatClampNeg) (fun q5 => bv (D_X12_lay 120 q5 0 w4) fun w6 => bv (D_X12_goReach 0 p1 w6) fun w7 => L_X12_reach_50 J_X12_reach_x102_1 FU 1000000 (-1) 0 w7) else none)
set_option maxRecDepth 20000 in
theorem Q_X12_reach_50 {l0 : Launch} {ρ : Nat → Nat} {cs : Nat → ClassId} {G : va_G} {X : Cx} (hρ : injN ρ) (hn : X.2.2.2.2.2.2.2.2.2.2.1 = 6) (h : Okx l0 ρ cs G X prog_14_method_72_code "SowingBoardsModel" 85) {rr : (Int32 × Wd)} (hR : ∀ pc L, decode prog_14_method_72_code pc = .ok (.ireturn, 1) → narrow .int (.int rr.1) = .int rr.1 → gG ρ cs G X pc L [.int rr.1] rr.2)  {k8 : Int32 → Int32 → Wd → Option (Int32 × Wd)} (hk8 : ∀ (z2 : Int32) (z3 : Int32) (w1 : Wd), k8 z2 z3 w1 = some rr → gG ρ cs G X 102 [(0, .ref (ρ 119)), (2, .int z2), (3, .int z3)] [] w1) : ∀ (n : Nat) (x10 : Int32) (x11 : Int32) (x12 : Int32) (w : Wd), L_X12_reach_50 k8 n x10 x11 x12 w = some rr → gG ρ cs G X 50 [(0, .ref (ρ 119)), (2, .int x10), (3, .int x11), (4, .int x12)] [] w := by
  intro n
  induction n with
  | zero =>
    intro x10 x11 x12 w hD
    cases hD
  | succ n9 ih =>
    intro x10 x11 x12 w13 hD
    unfold L_X12_reach_50 at hD
    refine g_iload h 3 t_X12_reach_50 rfl ?_
    refine g_aload_n h 0 t_X12_reach_52 rfl ?_
    refine g_getI h 119 38 fl_12_326 rfl (by decide) rfl t_X12_reach_53 ?_
    refine g_icmp_ge (tgt := 102) h t_X12_reach_56 (by decide) hD (fun hD => ?_) (fun hD => ?_)
    · refine g_loc (L' := [(0, .ref (ρ 119)), (2, .int x10), (3, .int x11)]) h [0, 1, 2] rfl ?_
      exact hk8 x10 x11 _ hD
    · refine g_aload_n h 0 t_X12_reach_59 rfl ?_
      refine g_getR h 119 37 149 fl_12_72 rfl (by decide) rfl t_X12_reach_60 ?_
      refine g_bipush (v := 16) h t_X12_reach_63 (by decide) ?_
      refine g_iload h 3 t_X12_reach_65 rfl ?_
      refine g_imul h t_X12_reach_67 ?_
      refine g_bipush (v := 12) h t_X12_reach_68 (by decide) ?_
      refine g_iadd h t_X12_reach_70 ?_
      refine g_aload_n h 0 t_X12_reach_71 rfl ?_
      refine g_getR h 119 0 120 fl_12_9 rfl (by decide) rfl t_X12_reach_72 ?_
      refine g_bipush (v := 14) h t_X12_reach_75 (by decide) ?_
      refine g_iald h 120 rfl (by decide) t_X12_reach_77 hD (fun hD => ?_)
      refine g_iadd h t_X12_reach_78 ?_
      refine g_iald h 149 rfl (by decide) t_X12_reach_79 hD (fun hD => ?_)
      refine g_bdI hD (fun x14 hD => ?_)
      refine g_istore (L' := [(5, .int x14), (0, .ref (ρ 119)), (2, .int x10), (3, .int x11), (4, .int x12)]) h hn t_X12_reach_80 (by decide) rfl ?_
      refine g_iload_n h 2 t_X12_reach_82 rfl ?_
      refine g_iload h 0 t_X12_reach_83 rfl ?_
      refine g_mmin h (st := []) (vtb_at 1618 (by decide +kernel) rfl) (Nat.le_of_ble_eq_true rfl) t_X12_reach_85 ?_
      refine g_bdI hD (fun x15 hD => ?_)
      refine g_istore_n (L' := [(2, .int x15), (5, .int x14), (0, .ref (ρ 119)), (3, .int x11), (4, .int x12)]) h hn t_X12_reach_88 rfl (by decide) rfl ?_
      refine g_iload_n h 3 t_X12_reach_89 rfl ?_
      refine g_iload h 1 t_X12_reach_90 rfl ?_
      refine g_mmax h (st := []) (vtb_at 1619 (by decide +kernel) rfl) (Nat.le_of_ble_eq_true rfl) t_X12_reach_92 ?_
      refine g_bdI hD (fun x16 hD => ?_)
      refine g_istore_n (L' := [(3, .int x16), (2, .int x15), (5, .int x14), (0, .ref (ρ 119)), (4, .int x12)]) h hn t_X12_reach_95 rfl (by decide) rfl ?_
      obtain ⟨x17, ex17, hD⟩ := bd_ex hD
      refine g_iinc (v := x17) (L' := [(4, .int x17), (3, .int x16), (2, .int x15), (5, .int x14), (0, .ref (ρ 119))]) h hn t_X12_reach_96 (k := 4) rfl (by rw [ex17]; rfl) (by decide) rfl ?_
      refine g_goto (tgt := 50) h t_X12_reach_99 (by decide) ?_
      refine g_loc (L' := [(0, .ref (ρ 119)), (2, .int x15), (3, .int x16), (4, .int x17)]) h [4, 2, 1, 0] rfl ?_
      exact ih x15 x16 x17 _ hD
set_option maxRecDepth 20000 in
theorem S_X12_reach {l0 : Launch} {ρ : Nat → Nat} {cs : Nat → ClassId} {G : va_G} (hρ : injN ρ) {p1 : Int32} {w : Wd} {rr : (Int32 × Wd)} (hD : D_X12_reach p1 w = some rr) : CtI l0 ρ cs G y_X12_reach prog_14_method_72_code 6 .int 85 [.ref (ρ 119), .int p1] w rr.1 rr.2 := by
  refine ctI_of hρ (by decide) (Nat.le_of_ble_eq_true rfl) (fun X hn h hR => ?_)
  unfold D_X12_reach at hD
  show gG ρ cs G X 0 [(0, .ref (ρ 119)), (1, .int p1)] [] w
  refine g_aload_n h 0 t_X12_reach_0 rfl ?_
  refine g_iconst (v := 0) h t_X12_reach_1 (by decide) ?_
  refine g_putI h 119 7 fl_12_109 fp_12_7 rfl (by decide) rfl t_X12_reach_2 hD (fun w1 hD => ?_)
  refine g_iload_n h 1 t_X12_reach_5 rfl ?_
  refine g_iconst (v := 0) h t_X12_reach_6 (by decide) ?_
  refine g_iconst (v := 3) h t_X12_reach_7 (by decide) ?_
  refine g_callSI h (As := [.int p1, .int 0, .int 3]) (st := []) my_X12_in ms_X12_in ml_12_118 rfl rfl (Nat.le_of_ble_eq_true rfl) (by decide) t_X12_reach_8 hD (fun _ _ e => S_X12_in hρ  e) (fun x3 w2 hD => ?_)
  refine g_if_ne (tgt := 16) h t_X12_reach_11 (by decide) hD (fun hD => ?_) (fun hD => ?_)
  · refine g_aload_n h 0 t_X12_reach_16 rfl ?_
    refine g_iconst (v := 0) h t_X12_reach_17 (by decide) ?_
    refine g_putI h 119 38 fl_12_326 fp_12_38 rfl (by decide) rfl t_X12_reach_18 hD (fun w4 hD => ?_)
    refine g_aload_n h 0 t_X12_reach_21 rfl ?_
    refine g_getR h 119 0 120 fl_12_9 rfl (by decide) rfl t_X12_reach_22 ?_
    refine g_aload_n h 0 t_X12_reach_25 rfl ?_
    refine g_getR h 119 29 132 fl_12_57 rfl (by decide) rfl t_X12_reach_26 ?_
    refine g_iconst (v := 0) h t_X12_reach_29 (by decide) ?_
    refine g_rald h 132 rfl (by decide) t_X12_reach_30 hD (fun q5 eq5 lq5 hD => ?_)
    have hq5 : isIA q5 := iaA (f := 133) (by decide) eq5 lq5
    refine g_iconst (v := 0) h t_X12_reach_31 (by decide) ?_
    refine g_callSV h (As := [.ref (ρ 120), .ref (ρ q5), .int 0]) (st := []) my_X12_lay ms_X12_lay ml_12_256 rfl rfl (Nat.le_of_ble_eq_true rfl) (by decide) t_X12_reach_32 hD (fun _ e => S_X12_lay hρ (by decide) hq5 e) (fun w6 hD => ?_)
    refine g_aload_n h 0 t_X12_reach_35 rfl ?_
    refine g_iconst (v := 0) h t_X12_reach_36 (by decide) ?_
    refine g_iload_n h 1 t_X12_reach_37 rfl ?_
    refine g_callVV h 119 (As := [.int 0, .int p1]) (st := []) my_X12_goReach mi_X12_goReach ml_12_333 rfl (by decide) rfl rfl rfl (Nat.le_of_ble_eq_true rfl) (by decide) t_X12_reach_38 hD (fun _ e => S_X12_goReach hρ  e) (fun w7 hD => ?_)
    refine g_ldcw (v := 1000000) h t_X12_reach_41 cc_12_337 ?_
    refine g_istore_n (L' := [(2, .int 1000000), (0, .ref (ρ 119)), (1, .int p1)]) h hn t_X12_reach_44 rfl (by decide) rfl ?_
    refine g_iconst (v := (-1)) h t_X12_reach_45 (by decide) ?_
    refine g_istore_n (L' := [(3, .int (-1)), (2, .int 1000000), (0, .ref (ρ 119)), (1, .int p1)]) h hn t_X12_reach_46 rfl (by decide) rfl ?_
    refine g_iconst (v := 0) h t_X12_reach_47 (by decide) ?_
    refine g_istore (L' := [(4, .int 0), (3, .int (-1)), (2, .int 1000000), (0, .ref (ρ 119)), (1, .int p1)]) h hn t_X12_reach_48 (by decide) rfl ?_
    refine g_loc (L' := [(0, .ref (ρ 119)), (2, .int 1000000), (3, .int (-1)), (4, .int 0)]) h [3, 2, 1, 0] rfl ?_
    refine Q_X12_reach_50 hρ hn h hR  ?_ _ _ _ _ _ hD
    · intro x18 x19 w20 hD
      unfold J_X12_reach_x102_1 at hD
      refine g_aload_n h 0 t_X12_reach_102 rfl ?_
      refine g_iconst (v := 0) h t_X12_reach_103 (by decide) ?_
      refine g_putI h 119 6 fl_12_112 fp_12_6 rfl (by decide) rfl t_X12_reach_104 hD (fun w21 hD => ?_)
      refine g_aload_n h 0 t_X12_reach_107 rfl ?_
      refine g_getI h 119 38 fl_12_326 rfl (by decide) rfl t_X12_reach_108 ?_
      refine g_if_le (tgt := 126) h t_X12_reach_111 (by decide) hD (fun hD => ?_) (fun hD => ?_)
      · refine g_aload_n h 0 t_X12_reach_126 rfl ?_
        refine g_getI h 119 38 fl_12_326 rfl (by decide) rfl t_X12_reach_127 ?_
        obtain rfl := Option.some.inj hD
        exact hR _ _ t_X12_reach_130 rfl
      · refine g_aload_n h 0 t_X12_reach_114 rfl ?_
        refine g_iload_n h 1 t_X12_reach_115 rfl ?_
        refine g_i2l h t_X12_reach_116 ?_
        refine g_callVV h 119 (As := [.long x18.toInt64]) (st := []) my_X12_tell mi_X12_tell ml_12_260 rfl (by decide) rfl rfl rfl (Nat.le_of_ble_eq_true rfl) (by decide) t_X12_reach_117 hD (fun _ e => S_X12_tell hρ  e) (fun w22 hD => ?_)
        refine g_aload_n h 0 t_X12_reach_120 rfl ?_
        refine g_iload_n h 2 t_X12_reach_121 rfl ?_
        refine g_i2l h t_X12_reach_122 ?_
        refine g_callVV h 119 (As := [.long x19.toInt64]) (st := []) my_X12_tell mi_X12_tell ml_12_260 rfl (by decide) rfl rfl rfl (Nat.le_of_ble_eq_true rfl) (by decide) t_X12_reach_123 hD (fun _ e => S_X12_tell hρ  e) (fun w23 hD => ?_)
        refine g_aload_n h 0 t_X12_reach_126 rfl ?_
        refine g_getI h 119 38 fl_12_326 rfl (by decide) rfl t_X12_reach_127 ?_
        obtain rfl := Option.some.inj hD
        exact hR _ _ t_X12_reach_130 rfl
  · refine g_iconst (v := (-1)) h t_X12_reach_14 (by decide) ?_
    obtain rfl := Option.some.inj hD
    exact hR _ _ t_X12_reach_15 rfl
def B_X12_common (rec : Int64 → Int64 → Wd → Option (Int64 × Wd)) (p0 : Int64) (p1 : Int64) : Wd → Option (Int64 × Wd) := fun w =>
  if (lg_cmp p1 (0 : Int64)) = 0 then (some (p0, w)) else (if ¬ (p1) = 0 then (bc (rec p1 (p0 - p0 / p1 * p1) w) fun x2 w1 => some (x2, w1)) else none)
set_option maxRecDepth 20000 in
theorem SB_X12_common {l0 : Launch} {ρ : Nat → Nat} {cs : Nat → ClassId} {G : va_G} (hρ : injN ρ) {rec : Int64 → Int64 → Wd → Option (Int64 × Wd)} {dr d : Nat} (hdr : dr < d) (hbd : 0 ≤ d) (hrec : (∀ {p0 : Int64} {p1 : Int64} {w : Wd} {rr : (Int64 × Wd)}, rec p0 p1 w = some rr → CtJ l0 ρ cs G y_X12_common prog_14_method_73_code 4 dr [.long p0, .long p1] w rr.1 rr.2)) {p0 : Int64} {p1 : Int64} {w : Wd} {rr : (Int64 × Wd)} (hD : B_X12_common rec p0 p1 w = some rr) : CtJ l0 ρ cs G y_X12_common prog_14_method_73_code 4 d [.long p0, .long p1] w rr.1 rr.2 := by
  refine ctJ_of hρ (by decide) (Nat.le_of_ble_eq_true rfl) (fun X hn h hR => ?_)
  unfold B_X12_common at hD
  show gG ρ cs G X 0 [(0, .long p0), (2, .long p1)] [] w
  refine g_lload_n h 1 t_X12_common_0 rfl ?_
  refine g_lconst (v := 0) h t_X12_common_1 (by decide) ?_
  refine g_lcmp h t_X12_common_2 ?_
  refine g_if_ne (tgt := 10) h t_X12_common_3 (by decide) hD (fun hD => ?_) (fun hD => ?_)
  · refine g_lload_n h 1 t_X12_common_10 rfl ?_
    refine g_lload_n h 0 t_X12_common_11 rfl ?_
    refine g_lload_n h 1 t_X12_common_12 rfl ?_
    refine g_lrem h t_X12_common_13 hD (fun hD => ?_)
    refine g_callSJ h (As := [.long p1, .long (p0 - p0 / p1 * p1)]) (st := []) my_X12_common ms_X12_common ml_12_338 rfl rfl (Nat.le_of_ble_eq_true rfl) (by omega) t_X12_common_14 hD (fun _ _ e => hrec  e) (fun x2 w1 hD => ?_)
    obtain rfl := Option.some.inj hD
    exact hR _ _ t_X12_common_17
  · refine g_lload_n h 0 t_X12_common_6 rfl ?_
    refine g_goto (tgt := 17) h t_X12_common_7 (by decide) ?_
    obtain rfl := Option.some.inj hD
    exact hR _ _ t_X12_common_17
def E_X12_common : Nat → Int64 → Int64 → Wd → Option (Int64 × Wd)
  | 0, _, _, _ => none
  | n + 1, p0, p1, w => B_X12_common (fun p0 p1 w => E_X12_common n p0 p1 w) p0 p1 w
set_option maxRecDepth 20000 in
theorem SE_X12_common {l0 : Launch} {ρ : Nat → Nat} {cs : Nat → ClassId} {G : va_G} (hρ : injN ρ) : ∀ n : Nat, (∀ {p0 : Int64} {p1 : Int64} {w : Wd} {rr : (Int64 × Wd)}, E_X12_common n p0 p1 w = some rr → CtJ l0 ρ cs G y_X12_common prog_14_method_73_code 4 (0 + n) [.long p0, .long p1] w rr.1 rr.2) := by
  intro n
  induction n with
  | zero =>
    intros
    rename_i hD
    cases hD
  | succ n ih =>
    intros
    rename_i hD
    exact SB_X12_common hρ (rec := fun p0 p1 w => E_X12_common n p0 p1 w) (dr := 0 + n) (d := 0 + (n + 1)) (by omega) (by omega) ih hD
def D_X12_common (p0 : Int64) (p1 : Int64) : Wd → Option (Int64 × Wd) := fun w => E_X12_common 80 p0 p1 w
set_option maxRecDepth 20000 in
theorem S_X12_common {l0 : Launch} {ρ : Nat → Nat} {cs : Nat → ClassId} {G : va_G} (hρ : injN ρ) {p0 : Int64} {p1 : Int64} {w : Wd} {rr : (Int64 × Wd)} (hD : D_X12_common p0 p1 w = some rr) : CtJ l0 ρ cs G y_X12_common prog_14_method_73_code 4 80 [.long p0, .long p1] w rr.1 rr.2 := (SE_X12_common hρ 80) hD
def L_X12_luckOf_14 (rec : Int32 → Int32 → Int32 → Wd → Option (Int64 × Wd)) (x2 : Int32) (x3 : Int32) (x4 : Int32) (q5 : Nat) (k6 : Int64 → Wd → Option (Int64 × Wd)) : Nat → Int64 → Int32 → Wd → Option (Int64 × Wd)
  | 0, _, _, _ => none
  | n7 + 1, x8, x9, w10 =>
    if x3 ≤ x9 then (k6 x8 w10) else (bd (x8 * (60 : Int64)) fun x11 => bd (x9 + 1) fun x12 => L_X12_luckOf_14 rec x2 x3 x4 q5 k6 n7 x11 x12 w10)
def J_X12_luckOf_j97_1 (r70 : Int32 → Int32 → Wd → Option (Int64 × Wd)) (x25 : Int32) (x26 : Int32) : Int32 → Wd → Option (Int64 × Wd) := fun x30 w31 =>
  bd (x25 + x30) fun x33 => bd (x26 + 1) fun x34 => r70 x33 x34 w31
def L_X12_luckOf_70 (rec : Int32 → Int32 → Int32 → Wd → Option (Int64 × Wd)) (x19 : Int32) (x20 : Int32) (x21 : Int32) (q22 : Nat) (k23 : Int32 → Wd → Option (Int64 × Wd)) : Nat → Int32 → Int32 → Wd → Option (Int64 × Wd)
  | 0, _, _, _ => none
  | n24 + 1, x25, x26, w27 =>
    if (w27.1 119 1) ≤ x26 then (k23 x25 w27) else (bc (D_X12_refuses q22 x26 w27) fun x29 w28 => bd (J_X12_luckOf_j97_1 (L_X12_luckOf_70 rec x19 x20 x21 q22 k23 n24) x25 x26) fun k32 => if x29 = 0 then (k32 1 w28) else (k32 0 w28))
def J_X12_luckOf_j185_2 (r112 : Int64 → Int32 → Wd → Option (Int64 × Wd)) (x45 : Int32) : Int64 → Wd → Option (Int64 × Wd) := fun x49 w50 =>
  bd (x45 + 1) fun x52 => r112 x49 x52 w50
def L_X12_luckOf_112 (rec : Int32 → Int32 → Int32 → Wd → Option (Int64 × Wd)) (x37 : Int32) (x38 : Int32) (x39 : Int32) (q40 : Nat) (x41 : Int32) (k42 : Int64 → Wd → Option (Int64 × Wd)) : Nat → Int64 → Int32 → Wd → Option (Int64 × Wd)
  | 0, _, _, _ => none
  | n43 + 1, x44, x45, w46 =>
    if (w46.1 119 1) ≤ x45 then (k42 x44 w46) else (bc (D_X12_refuses q40 x45 w46) fun x48 w47 => bd (J_X12_luckOf_j185_2 (L_X12_luckOf_112 rec x37 x38 x39 q40 x41 k42 n43) x45) fun k51 => if 0 ≤ x48 then (if ib (x37 + 1) 7 then bd (133 + (x37 + 1).toNatClampNeg) (fun q53 => bv (D_X12_lay q40 q53 0 w47) fun w54 => if ib (x37 + 1) 7 then bd (133 + (x37 + 1).toNatClampNeg) (fun q55 => bv (D_X12_goMove q55 x45 w54) fun w56 => if ¬ (x41.toInt64) = 0 then (bc (rec (x37 + 1) x38 x39 w56) fun x58 w57 => bd (x44 + (((60 : Int64) / x41.toInt64) * x58)) fun x59 => k51 x59 w57) else none) else none) else none) else (k51 x44 w47))
def J_X12_luckOf_x191_3  : Int64 → Wd → Option (Int64 × Wd) := fun x60 w61 =>
  some (x60, w61)
def J_X12_luckOf_x106_4 (rec : Int32 → Int32 → Int32 → Wd → Option (Int64 × Wd)) (p1 : Int32) (p2 : Int32) (p3 : Int32) (q1 : Nat) : Int32 → Wd → Option (Int64 × Wd) := fun x35 w36 =>
  L_X12_luckOf_112 rec p1 p2 p3 q1 x35 J_X12_luckOf_x191_3 FU (0 : Int64) 0 w36
def J_X12_luckOf_j48_5 (q1 : Nat) (p3 : Int32) (x13 : Int64) : Wd → Option (Int64 × Wd) := fun w15 =>
  if ib 12 (ln q1) then (if (w15.1 q1 (12 : Int32).toNatClampNeg) < p3 then (some ((0 : Int64), w15)) else (some (x13, w15))) else none
def J_X12_luckOf_x34_6 (q1 : Nat) (p3 : Int32) (p1 : Int32) (p2 : Int32) (rec : Int32 → Int32 → Int32 → Wd → Option (Int64 × Wd)) : Int64 → Wd → Option (Int64 × Wd) := fun x13 w14 =>
  bd (J_X12_luckOf_j48_5 q1 p3 x13) fun k16 => if p1 = p2 then (k16 w14) else (bc (D_X12_isOver q1 w14) fun x18 w17 => if x18 = 0 then (L_X12_luckOf_70 rec p1 p2 p3 q1 (J_X12_luckOf_x106_4 rec p1 p2 p3 q1) FU 0 0 w17) else (k16 w17))
def B_X12_luckOf (rec : Int32 → Int32 → Int32 → Wd → Option (Int64 × Wd)) (p1 : Int32) (p2 : Int32) (p3 : Int32) : Wd → Option (Int64 × Wd) := fun w =>
  if ib p1 7 then bd (133 + p1.toNatClampNeg) (fun q1 => L_X12_luckOf_14 rec p1 p2 p3 q1 (J_X12_luckOf_x34_6 q1 p3 p1 p2 rec) FU (1 : Int64) p1 w) else none
set_option maxRecDepth 20000 in
theorem Q_X12_luckOf_14 {l0 : Launch} {ρ : Nat → Nat} {cs : Nat → ClassId} {G : va_G} {X : Cx} (hρ : injN ρ) {rec : Int32 → Int32 → Int32 → Wd → Option (Int64 × Wd)} {dr d : Nat} (hdr : dr < d) (hbd : 4 ≤ d) (hrec : (∀ {p1 : Int32} {p2 : Int32} {p3 : Int32} {w : Wd} {rr : (Int64 × Wd)}, rec p1 p2 p3 w = some rr → CtJ l0 ρ cs G y_X12_luckOf prog_14_method_74_code 11 dr [.ref (ρ 119), .int p1, .int p2, .int p3] w rr.1 rr.2)) (hn : X.2.2.2.2.2.2.2.2.2.2.1 = 11) (h : Okx l0 ρ cs G X prog_14_method_74_code "SowingBoardsModel" d) {rr : (Int64 × Wd)} (hR : ∀ pc L, decode prog_14_method_74_code pc = .ok (.lreturn, 1) → gG ρ cs G X pc L [.long rr.1] rr.2) {x2 : Int32} {x3 : Int32} {x4 : Int32} {q5 : Nat} (hq5 : isIA q5) {k6 : Int64 → Wd → Option (Int64 × Wd)} (hk6 : ∀ (z5 : Int64) (w1 : Wd), k6 z5 w1 = some rr → gG ρ cs G X 34 [(0, .ref (ρ 119)), (1, .int x2), (2, .int x3), (3, .int x4), (4, .ref (ρ q5)), (5, .long z5)] [] w1) : ∀ (n : Nat) (x8 : Int64) (x9 : Int32) (w : Wd), L_X12_luckOf_14 rec x2 x3 x4 q5 k6 n x8 x9 w = some rr → gG ρ cs G X 14 [(0, .ref (ρ 119)), (1, .int x2), (2, .int x3), (3, .int x4), (4, .ref (ρ q5)), (5, .long x8), (7, .int x9)] [] w := by
  intro n
  induction n with
  | zero =>
    intro x8 x9 w hD
    cases hD
  | succ n7 ih =>
    intro x8 x9 w10 hD
    unfold L_X12_luckOf_14 at hD
    refine g_iload h 6 t_X12_luckOf_14 rfl ?_
    refine g_iload_n h 2 t_X12_luckOf_16 rfl ?_
    refine g_icmp_ge (tgt := 34) h t_X12_luckOf_17 (by decide) hD (fun hD => ?_) (fun hD => ?_)
    · refine g_loc (L' := [(0, .ref (ρ 119)), (1, .int x2), (2, .int x3), (3, .int x4), (4, .ref (ρ q5)), (5, .long x8)]) h [0, 1, 2, 3, 4, 5] rfl ?_
      exact hk6 x8 _ hD
    · refine g_lload h 5 t_X12_luckOf_20 rfl ?_
      refine g_ldc2 (v := 60) h t_X12_luckOf_22 cc_12_342 ?_
      refine g_lmul h t_X12_luckOf_25 ?_
      refine g_bdJ hD (fun x11 hD => ?_)
      refine g_lstore (L' := [(5, .long x11), (0, .ref (ρ 119)), (1, .int x2), (2, .int x3), (3, .int x4), (4, .ref (ρ q5)), (7, .int x9)]) h hn t_X12_luckOf_26 (by decide) rfl ?_
      obtain ⟨x12, ex12, hD⟩ := bd_ex hD
      refine g_iinc (v := x12) (L' := [(7, .int x12), (5, .long x11), (0, .ref (ρ 119)), (1, .int x2), (2, .int x3), (3, .int x4), (4, .ref (ρ q5))]) h hn t_X12_luckOf_28 (k := 6) rfl (by rw [ex12]; rfl) (by decide) rfl ?_
      refine g_goto (tgt := 14) h t_X12_luckOf_31 (by decide) ?_
      refine g_loc (L' := [(0, .ref (ρ 119)), (1, .int x2), (2, .int x3), (3, .int x4), (4, .ref (ρ q5)), (5, .long x11), (7, .int x12)]) h [2, 3, 4, 5, 6, 1, 0] rfl ?_
      exact ih x11 x12 _ hD
set_option maxRecDepth 20000 in
theorem Q_X12_luckOf_70 {l0 : Launch} {ρ : Nat → Nat} {cs : Nat → ClassId} {G : va_G} {X : Cx} (hρ : injN ρ) {rec : Int32 → Int32 → Int32 → Wd → Option (Int64 × Wd)} {dr d : Nat} (hdr : dr < d) (hbd : 4 ≤ d) (hrec : (∀ {p1 : Int32} {p2 : Int32} {p3 : Int32} {w : Wd} {rr : (Int64 × Wd)}, rec p1 p2 p3 w = some rr → CtJ l0 ρ cs G y_X12_luckOf prog_14_method_74_code 11 dr [.ref (ρ 119), .int p1, .int p2, .int p3] w rr.1 rr.2)) (hn : X.2.2.2.2.2.2.2.2.2.2.1 = 11) (h : Okx l0 ρ cs G X prog_14_method_74_code "SowingBoardsModel" d) {rr : (Int64 × Wd)} (hR : ∀ pc L, decode prog_14_method_74_code pc = .ok (.lreturn, 1) → gG ρ cs G X pc L [.long rr.1] rr.2) {x19 : Int32} {x20 : Int32} {x21 : Int32} {q22 : Nat} (hq22 : isIA q22) {k23 : Int32 → Wd → Option (Int64 × Wd)} (hk23 : ∀ (z7 : Int32) (w1 : Wd), k23 z7 w1 = some rr → gG ρ cs G X 106 [(0, .ref (ρ 119)), (1, .int x19), (2, .int x20), (3, .int x21), (4, .ref (ρ q22)), (7, .int z7)] [] w1) : ∀ (n : Nat) (x25 : Int32) (x26 : Int32) (w : Wd), L_X12_luckOf_70 rec x19 x20 x21 q22 k23 n x25 x26 w = some rr → gG ρ cs G X 70 [(0, .ref (ρ 119)), (1, .int x19), (2, .int x20), (3, .int x21), (4, .ref (ρ q22)), (7, .int x25), (8, .int x26)] [] w := by
  intro n
  induction n with
  | zero =>
    intro x25 x26 w hD
    cases hD
  | succ n24 ih =>
    intro x25 x26 w27 hD
    unfold L_X12_luckOf_70 at hD
    refine g_iload h 6 t_X12_luckOf_70 rfl ?_
    refine g_aload_n h 0 t_X12_luckOf_72 rfl ?_
    refine g_getI h 119 1 fl_12_13 rfl (by decide) rfl t_X12_luckOf_73 ?_
    refine g_icmp_ge (tgt := 106) h t_X12_luckOf_76 (by decide) hD (fun hD => ?_) (fun hD => ?_)
    · refine g_loc (L' := [(0, .ref (ρ 119)), (1, .int x19), (2, .int x20), (3, .int x21), (4, .ref (ρ q22)), (7, .int x25)]) h [0, 1, 2, 3, 4, 5] rfl ?_
      exact hk23 x25 _ hD
    · refine g_iload h 5 t_X12_luckOf_79 rfl ?_
      refine g_aload_n h 0 t_X12_luckOf_81 rfl ?_
      refine g_aload h 4 t_X12_luckOf_82 rfl ?_
      refine g_iload h 6 t_X12_luckOf_84 rfl ?_
      refine g_callVI h 119 (As := [.ref (ρ q22), .int x26]) (st := [.int x25]) my_X12_refuses mi_X12_refuses ml_12_264 rfl (by decide) rfl rfl rfl (Nat.le_of_ble_eq_true rfl) (by omega) t_X12_luckOf_86 hD (fun _ _ e => S_X12_refuses hρ hq22 e) (fun x29 w28 hD => ?_)
      refine g_join (P := fun k32 => ∀ (x30 : Int32) (w31 : Wd), k32 x30 w31 = some rr → gG ρ cs G X 97 [(0, .ref (ρ 119)), (1, .int x19), (2, .int x20), (3, .int x21), (4, .ref (ρ q22)), (8, .int x26)] [.int x30, .int x25] w31) hD ?_ (fun k32 hk32 hD => ?_)
      · intro x30 w31 hD
        unfold J_X12_luckOf_j97_1 at hD
        refine g_iadd h t_X12_luckOf_97 ?_
        refine g_bdI hD (fun x33 hD => ?_)
        refine g_istore (L' := [(7, .int x33), (0, .ref (ρ 119)), (1, .int x19), (2, .int x20), (3, .int x21), (4, .ref (ρ q22)), (8, .int x26)]) h hn t_X12_luckOf_98 (by decide) rfl ?_
        obtain ⟨x34, ex34, hD⟩ := bd_ex hD
        refine g_iinc (v := x34) (L' := [(8, .int x34), (7, .int x33), (0, .ref (ρ 119)), (1, .int x19), (2, .int x20), (3, .int x21), (4, .ref (ρ q22))]) h hn t_X12_luckOf_100 (k := 6) rfl (by rw [ex34]; rfl) (by decide) rfl ?_
        refine g_goto (tgt := 70) h t_X12_luckOf_103 (by decide) ?_
        refine g_loc (L' := [(0, .ref (ρ 119)), (1, .int x19), (2, .int x20), (3, .int x21), (4, .ref (ρ q22)), (7, .int x33), (8, .int x34)]) h [2, 3, 4, 5, 6, 1, 0] rfl ?_
        exact ih x33 x34 _ hD
      · refine g_if_ne (tgt := 96) h t_X12_luckOf_89 (by decide) hD (fun hD => ?_) (fun hD => ?_)
        · refine g_iconst (v := 0) h t_X12_luckOf_96 (by decide) ?_
          refine g_loc (L' := [(0, .ref (ρ 119)), (1, .int x19), (2, .int x20), (3, .int x21), (4, .ref (ρ q22)), (8, .int x26)]) h [0, 1, 2, 3, 4, 6] rfl ?_
          exact hk32 0 _ hD
        · refine g_iconst (v := 1) h t_X12_luckOf_92 (by decide) ?_
          refine g_goto (tgt := 97) h t_X12_luckOf_93 (by decide) ?_
          refine g_loc (L' := [(0, .ref (ρ 119)), (1, .int x19), (2, .int x20), (3, .int x21), (4, .ref (ρ q22)), (8, .int x26)]) h [0, 1, 2, 3, 4, 6] rfl ?_
          exact hk32 1 _ hD
set_option maxRecDepth 20000 in
theorem Q_X12_luckOf_112 {l0 : Launch} {ρ : Nat → Nat} {cs : Nat → ClassId} {G : va_G} {X : Cx} (hρ : injN ρ) {rec : Int32 → Int32 → Int32 → Wd → Option (Int64 × Wd)} {dr d : Nat} (hdr : dr < d) (hbd : 4 ≤ d) (hrec : (∀ {p1 : Int32} {p2 : Int32} {p3 : Int32} {w : Wd} {rr : (Int64 × Wd)}, rec p1 p2 p3 w = some rr → CtJ l0 ρ cs G y_X12_luckOf prog_14_method_74_code 11 dr [.ref (ρ 119), .int p1, .int p2, .int p3] w rr.1 rr.2)) (hn : X.2.2.2.2.2.2.2.2.2.2.1 = 11) (h : Okx l0 ρ cs G X prog_14_method_74_code "SowingBoardsModel" d) {rr : (Int64 × Wd)} (hR : ∀ pc L, decode prog_14_method_74_code pc = .ok (.lreturn, 1) → gG ρ cs G X pc L [.long rr.1] rr.2) {x37 : Int32} {x38 : Int32} {x39 : Int32} {q40 : Nat} (hq40 : isIA q40) {x41 : Int32} {k42 : Int64 → Wd → Option (Int64 × Wd)} (hk42 : ∀ (z8 : Int64) (w1 : Wd), k42 z8 w1 = some rr → gG ρ cs G X 191 [(8, .long z8)] [] w1) : ∀ (n : Nat) (x44 : Int64) (x45 : Int32) (w : Wd), L_X12_luckOf_112 rec x37 x38 x39 q40 x41 k42 n x44 x45 w = some rr → gG ρ cs G X 112 [(0, .ref (ρ 119)), (1, .int x37), (2, .int x38), (3, .int x39), (4, .ref (ρ q40)), (7, .int x41), (8, .long x44), (10, .int x45)] [] w := by
  intro n
  induction n with
  | zero =>
    intro x44 x45 w hD
    cases hD
  | succ n43 ih =>
    intro x44 x45 w46 hD
    unfold L_X12_luckOf_112 at hD
    refine g_iload h 7 t_X12_luckOf_112 rfl ?_
    refine g_aload_n h 0 t_X12_luckOf_114 rfl ?_
    refine g_getI h 119 1 fl_12_13 rfl (by decide) rfl t_X12_luckOf_115 ?_
    refine g_icmp_ge (tgt := 191) h t_X12_luckOf_118 (by decide) hD (fun hD => ?_) (fun hD => ?_)
    · refine g_loc (L' := [(8, .long x44)]) h [6] rfl ?_
      exact hk42 x44 _ hD
    · refine g_aload_n h 0 t_X12_luckOf_121 rfl ?_
      refine g_aload h 4 t_X12_luckOf_122 rfl ?_
      refine g_iload h 7 t_X12_luckOf_124 rfl ?_
      refine g_callVI h 119 (As := [.ref (ρ q40), .int x45]) (st := []) my_X12_refuses mi_X12_refuses ml_12_264 rfl (by decide) rfl rfl rfl (Nat.le_of_ble_eq_true rfl) (by omega) t_X12_luckOf_126 hD (fun _ _ e => S_X12_refuses hρ hq40 e) (fun x48 w47 hD => ?_)
      refine g_join (P := fun k51 => ∀ (x49 : Int64) (w50 : Wd), k51 x49 w50 = some rr → gG ρ cs G X 185 [(0, .ref (ρ 119)), (1, .int x37), (2, .int x38), (3, .int x39), (4, .ref (ρ q40)), (7, .int x41), (8, .long x49), (10, .int x45)] [] w50) hD ?_ (fun k51 hk51 hD => ?_)
      · intro x49 w50 hD
        unfold J_X12_luckOf_j185_2 at hD
        obtain ⟨x52, ex52, hD⟩ := bd_ex hD
        refine g_iinc (v := x52) (L' := [(10, .int x52), (0, .ref (ρ 119)), (1, .int x37), (2, .int x38), (3, .int x39), (4, .ref (ρ q40)), (7, .int x41), (8, .long x49)]) h hn t_X12_luckOf_185 (k := 7) rfl (by rw [ex52]; rfl) (by decide) rfl ?_
        refine g_goto (tgt := 112) h t_X12_luckOf_188 (by decide) ?_
        refine g_loc (L' := [(0, .ref (ρ 119)), (1, .int x37), (2, .int x38), (3, .int x39), (4, .ref (ρ q40)), (7, .int x41), (8, .long x49), (10, .int x52)]) h [1, 2, 3, 4, 5, 6, 7, 0] rfl ?_
        exact ih x49 x52 _ hD
      · refine g_if_ge (tgt := 135) h t_X12_luckOf_129 (by decide) hD (fun hD => ?_) (fun hD => ?_)
        · refine g_aload h 4 t_X12_luckOf_135 rfl ?_
          refine g_aload_n h 0 t_X12_luckOf_137 rfl ?_
          refine g_getR h 119 29 132 fl_12_57 rfl (by decide) rfl t_X12_luckOf_138 ?_
          refine g_iload_n h 1 t_X12_luckOf_141 rfl ?_
          refine g_iconst (v := 1) h t_X12_luckOf_142 (by decide) ?_
          refine g_iadd h t_X12_luckOf_143 ?_
          refine g_rald h 132 rfl (by decide) t_X12_luckOf_144 hD (fun q53 eq53 lq53 hD => ?_)
          have hq53 : isIA q53 := iaA (f := 133) (by decide) eq53 lq53
          refine g_iconst (v := 0) h t_X12_luckOf_145 (by decide) ?_
          refine g_callSV h (As := [.ref (ρ q40), .ref (ρ q53), .int 0]) (st := []) my_X12_lay ms_X12_lay ml_12_256 rfl rfl (Nat.le_of_ble_eq_true rfl) (by omega) t_X12_luckOf_146 hD (fun _ e => S_X12_lay hρ hq40 hq53 e) (fun w54 hD => ?_)
          refine g_aload_n h 0 t_X12_luckOf_149 rfl ?_
          refine g_aload_n h 0 t_X12_luckOf_150 rfl ?_
          refine g_getR h 119 29 132 fl_12_57 rfl (by decide) rfl t_X12_luckOf_151 ?_
          refine g_iload_n h 1 t_X12_luckOf_154 rfl ?_
          refine g_iconst (v := 1) h t_X12_luckOf_155 (by decide) ?_
          refine g_iadd h t_X12_luckOf_156 ?_
          refine g_rald h 132 rfl (by decide) t_X12_luckOf_157 hD (fun q55 eq55 lq55 hD => ?_)
          have hq55 : isIA q55 := iaA (f := 133) (by decide) eq55 lq55
          refine g_iload h 7 t_X12_luckOf_158 rfl ?_
          refine g_callVV h 119 (As := [.ref (ρ q55), .int x45]) (st := []) my_X12_goMove mi_X12_goMove ml_12_272 rfl (by decide) rfl rfl rfl (Nat.le_of_ble_eq_true rfl) (by omega) t_X12_luckOf_160 hD (fun _ e => S_X12_goMove hρ hq55 e) (fun w56 hD => ?_)
          refine g_lload h 6 t_X12_luckOf_163 rfl ?_
          refine g_ldc2 (v := 60) h t_X12_luckOf_165 cc_12_342 ?_
          refine g_iload h 5 t_X12_luckOf_168 rfl ?_
          refine g_i2l h t_X12_luckOf_170 ?_
          refine g_ldiv h t_X12_luckOf_171 hD (fun hD => ?_)
          refine g_aload_n h 0 t_X12_luckOf_172 rfl ?_
          refine g_iload_n h 1 t_X12_luckOf_173 rfl ?_
          refine g_iconst (v := 1) h t_X12_luckOf_174 (by decide) ?_
          refine g_iadd h t_X12_luckOf_175 ?_
          refine g_iload_n h 2 t_X12_luckOf_176 rfl ?_
          refine g_iload_n h 3 t_X12_luckOf_177 rfl ?_
          refine g_callVJ h 119 (As := [.int (x37 + 1), .int x38, .int x39]) (st := [.long ((60 : Int64) / x41.toInt64), .long x44]) my_X12_luckOf mi_X12_luckOf ml_12_344 rfl (by decide) rfl rfl rfl (Nat.le_of_ble_eq_true rfl) (by omega) t_X12_luckOf_178 hD (fun _ _ e => hrec  e) (fun x58 w57 hD => ?_)
          refine g_lmul h t_X12_luckOf_181 ?_
          refine g_ladd h t_X12_luckOf_182 ?_
          refine g_bdJ hD (fun x59 hD => ?_)
          refine g_lstore (L' := [(8, .long x59), (0, .ref (ρ 119)), (1, .int x37), (2, .int x38), (3, .int x39), (4, .ref (ρ q40)), (7, .int x41), (10, .int x45)]) h hn t_X12_luckOf_183 (by decide) rfl ?_
          refine g_loc (L' := [(0, .ref (ρ 119)), (1, .int x37), (2, .int x38), (3, .int x39), (4, .ref (ρ q40)), (7, .int x41), (8, .long x59), (10, .int x45)]) h [1, 2, 3, 4, 5, 6, 0, 7] rfl ?_
          exact hk51 x59 _ hD
        · refine g_goto (tgt := 185) h t_X12_luckOf_132 (by decide) ?_
          refine g_loc (L' := [(0, .ref (ρ 119)), (1, .int x37), (2, .int x38), (3, .int x39), (4, .ref (ρ q40)), (7, .int x41), (8, .long x44), (10, .int x45)]) h [0, 1, 2, 3, 4, 5, 6, 7] rfl ?_
          exact hk51 x44 _ hD
set_option maxRecDepth 20000 in
theorem SB_X12_luckOf {l0 : Launch} {ρ : Nat → Nat} {cs : Nat → ClassId} {G : va_G} (hρ : injN ρ) {rec : Int32 → Int32 → Int32 → Wd → Option (Int64 × Wd)} {dr d : Nat} (hdr : dr < d) (hbd : 4 ≤ d) (hrec : (∀ {p1 : Int32} {p2 : Int32} {p3 : Int32} {w : Wd} {rr : (Int64 × Wd)}, rec p1 p2 p3 w = some rr → CtJ l0 ρ cs G y_X12_luckOf prog_14_method_74_code 11 dr [.ref (ρ 119), .int p1, .int p2, .int p3] w rr.1 rr.2)) {p1 : Int32} {p2 : Int32} {p3 : Int32} {w : Wd} {rr : (Int64 × Wd)} (hD : B_X12_luckOf rec p1 p2 p3 w = some rr) : CtJ l0 ρ cs G y_X12_luckOf prog_14_method_74_code 11 d [.ref (ρ 119), .int p1, .int p2, .int p3] w rr.1 rr.2 := by
  refine ctJ_of hρ (by decide) (Nat.le_of_ble_eq_true rfl) (fun X hn h hR => ?_)
  unfold B_X12_luckOf at hD
  show gG ρ cs G X 0 [(0, .ref (ρ 119)), (1, .int p1), (2, .int p2), (3, .int p3)] [] w
  refine g_aload_n h 0 t_X12_luckOf_0 rfl ?_
  refine g_getR h 119 29 132 fl_12_57 rfl (by decide) rfl t_X12_luckOf_1 ?_
  refine g_iload_n h 1 t_X12_luckOf_4 rfl ?_
  refine g_rald h 132 rfl (by decide) t_X12_luckOf_5 hD (fun q1 eq1 lq1 hD => ?_)
  have hq1 : isIA q1 := iaA (f := 133) (by decide) eq1 lq1
  refine g_astore (L' := [(4, .ref (ρ q1)), (0, .ref (ρ 119)), (1, .int p1), (2, .int p2), (3, .int p3)]) h hn t_X12_luckOf_6 (by decide) rfl ?_
  refine g_lconst (v := 1) h t_X12_luckOf_8 (by decide) ?_
  refine g_lstore (L' := [(5, .long (1 : Int64)), (4, .ref (ρ q1)), (0, .ref (ρ 119)), (1, .int p1), (2, .int p2), (3, .int p3)]) h hn t_X12_luckOf_9 (by decide) rfl ?_
  refine g_iload_n h 3 t_X12_luckOf_11 rfl ?_
  refine g_istore (L' := [(7, .int p1), (5, .long (1 : Int64)), (4, .ref (ρ q1)), (0, .ref (ρ 119)), (1, .int p1), (2, .int p2), (3, .int p3)]) h hn t_X12_luckOf_12 (by decide) rfl ?_
  refine g_loc (L' := [(0, .ref (ρ 119)), (1, .int p1), (2, .int p2), (3, .int p3), (4, .ref (ρ q1)), (5, .long (1 : Int64)), (7, .int p1)]) h [3, 4, 5, 6, 2, 1, 0] rfl ?_
  refine Q_X12_luckOf_14 hρ hdr hbd hrec hn h hR hq1 ?_ _ _ _ _ hD
  · intro x13 w14 hD
    unfold J_X12_luckOf_x34_6 at hD
    refine g_iload_n h 1 t_X12_luckOf_34 rfl ?_
    refine g_iload_n h 2 t_X12_luckOf_35 rfl ?_
    refine g_join (P := fun k16 => ∀ (w15 : Wd), k16 w15 = some rr → gG ρ cs G X 48 [(3, .int p3), (4, .ref (ρ q1)), (5, .long x13)] [] w15) hD ?_ (fun k16 hk16 hD => ?_)
    · intro w15 hD
      unfold J_X12_luckOf_j48_5 at hD
      refine g_aload h 1 t_X12_luckOf_48 rfl ?_
      refine g_bipush (v := 12) h t_X12_luckOf_50 (by decide) ?_
      refine g_iald h q1 (isIA_sh hq1) (isIA_lt hq1) t_X12_luckOf_52 hD (fun hD => ?_)
      refine g_iload_n h 0 t_X12_luckOf_53 rfl ?_
      refine g_icmp_lt (tgt := 62) h t_X12_luckOf_54 (by decide) hD (fun hD => ?_) (fun hD => ?_)
      · refine g_lconst (v := 0) h t_X12_luckOf_62 (by decide) ?_
        obtain rfl := Option.some.inj hD
        exact hR _ _ t_X12_luckOf_63
      · refine g_lload h 2 t_X12_luckOf_57 rfl ?_
        refine g_goto (tgt := 63) h t_X12_luckOf_59 (by decide) ?_
        obtain rfl := Option.some.inj hD
        exact hR _ _ t_X12_luckOf_63
    · refine g_icmp_eq (tgt := 48) h t_X12_luckOf_36 (by decide) hD (fun hD => ?_) (fun hD => ?_)
      · refine g_loc (L' := [(3, .int p3), (4, .ref (ρ q1)), (5, .long x13)]) h [3, 4, 5] rfl ?_
        exact hk16 _ hD
      · refine g_aload_n h 0 t_X12_luckOf_39 rfl ?_
        refine g_aload h 4 t_X12_luckOf_40 rfl ?_
        refine g_callVI h 119 (As := [.ref (ρ q1)]) (st := []) my_X12_isOver mi_X12_isOver ml_12_282 rfl (by decide) rfl rfl rfl (Nat.le_of_ble_eq_true rfl) (by omega) t_X12_luckOf_42 hD (fun _ _ e => S_X12_isOver hρ hq1 e) (fun x18 w17 hD => ?_)
        refine g_if_eq (tgt := 64) h t_X12_luckOf_45 (by decide) hD (fun hD => ?_) (fun hD => ?_)
        · refine g_iconst (v := 0) h t_X12_luckOf_64 (by decide) ?_
          refine g_istore (L' := [(7, .int 0), (0, .ref (ρ 119)), (1, .int p1), (2, .int p2), (3, .int p3), (4, .ref (ρ q1)), (5, .long x13)]) h hn t_X12_luckOf_65 (by decide) rfl ?_
          refine g_iconst (v := 0) h t_X12_luckOf_67 (by decide) ?_
          refine g_istore (L' := [(8, .int 0), (7, .int 0), (0, .ref (ρ 119)), (1, .int p1), (2, .int p2), (3, .int p3), (4, .ref (ρ q1)), (5, .long x13)]) h hn t_X12_luckOf_68 (by decide) rfl ?_
          refine g_loc (L' := [(0, .ref (ρ 119)), (1, .int p1), (2, .int p2), (3, .int p3), (4, .ref (ρ q1)), (7, .int 0), (8, .int 0)]) h [2, 3, 4, 5, 6, 1, 0] rfl ?_
          refine Q_X12_luckOf_70 hρ hdr hbd hrec hn h hR hq1 ?_ _ _ _ _ hD
          · intro x35 w36 hD
            unfold J_X12_luckOf_x106_4 at hD
            refine g_lconst (v := 0) h t_X12_luckOf_106 (by decide) ?_
            refine g_lstore (L' := [(8, .long (0 : Int64)), (0, .ref (ρ 119)), (1, .int p1), (2, .int p2), (3, .int p3), (4, .ref (ρ q1)), (7, .int x35)]) h hn t_X12_luckOf_107 (by decide) rfl ?_
            refine g_iconst (v := 0) h t_X12_luckOf_109 (by decide) ?_
            refine g_istore (L' := [(10, .int 0), (8, .long (0 : Int64)), (0, .ref (ρ 119)), (1, .int p1), (2, .int p2), (3, .int p3), (4, .ref (ρ q1)), (7, .int x35)]) h hn t_X12_luckOf_110 (by decide) rfl ?_
            refine g_loc (L' := [(0, .ref (ρ 119)), (1, .int p1), (2, .int p2), (3, .int p3), (4, .ref (ρ q1)), (7, .int x35), (8, .long (0 : Int64)), (10, .int 0)]) h [2, 3, 4, 5, 6, 7, 1, 0] rfl ?_
            refine Q_X12_luckOf_112 hρ hdr hbd hrec hn h hR hq1 ?_ _ _ _ _ hD
            · intro x60 w61 hD
              unfold J_X12_luckOf_x191_3 at hD
              refine g_lload h 0 t_X12_luckOf_191 rfl ?_
              obtain rfl := Option.some.inj hD
              exact hR _ _ t_X12_luckOf_193
        · refine g_loc (L' := [(3, .int p3), (4, .ref (ρ q1)), (5, .long x13)]) h [3, 4, 5] rfl ?_
          exact hk16 _ hD
def E_X12_luckOf : Nat → Int32 → Int32 → Int32 → Wd → Option (Int64 × Wd)
  | 0, _, _, _, _ => none
  | n + 1, p1, p2, p3, w => B_X12_luckOf (fun p1 p2 p3 w => E_X12_luckOf n p1 p2 p3 w) p1 p2 p3 w
set_option maxRecDepth 20000 in
theorem SE_X12_luckOf {l0 : Launch} {ρ : Nat → Nat} {cs : Nat → ClassId} {G : va_G} (hρ : injN ρ) : ∀ n : Nat, (∀ {p1 : Int32} {p2 : Int32} {p3 : Int32} {w : Wd} {rr : (Int64 × Wd)}, E_X12_luckOf n p1 p2 p3 w = some rr → CtJ l0 ρ cs G y_X12_luckOf prog_14_method_74_code 11 (4 + n) [.ref (ρ 119), .int p1, .int p2, .int p3] w rr.1 rr.2) := by
  intro n
  induction n with
  | zero =>
    intros
    rename_i hD
    cases hD
  | succ n ih =>
    intros
    rename_i hD
    exact SB_X12_luckOf hρ (rec := fun p1 p2 p3 w => E_X12_luckOf n p1 p2 p3 w) (dr := 4 + n) (d := 4 + (n + 1)) (by omega) (by omega) ih hD
def D_X12_luckOf (p1 : Int32) (p2 : Int32) (p3 : Int32) : Wd → Option (Int64 × Wd) := fun w => E_X12_luckOf 80 p1 p2 p3 w
set_option maxRecDepth 20000 in
theorem S_X12_luckOf {l0 : Launch} {ρ : Nat → Nat} {cs : Nat → ClassId} {G : va_G} (hρ : injN ρ) {p1 : Int32} {p2 : Int32} {p3 : Int32} {w : Wd} {rr : (Int64 × Wd)} (hD : D_X12_luckOf p1 p2 p3 w = some rr) : CtJ l0 ρ cs G y_X12_luckOf prog_14_method_74_code 11 84 [.ref (ρ 119), .int p1, .int p2, .int p3] w rr.1 rr.2 := (SE_X12_luckOf hρ 80) hD
def L_X12_luck_54 (x10 : Int32) (x11 : Int64) (k12 : Int64 → Wd → Option (Int32 × Wd)) : Nat → Int64 → Int32 → Wd → Option (Int32 × Wd)
  | 0, _, _, _ => none
  | n13 + 1, x14, x15, w16 =>
    if x10 ≤ x15 then (k12 x14 w16) else (bd (x14 * (60 : Int64)) fun x17 => bd (x15 + 1) fun x18 => L_X12_luck_54 x10 x11 k12 n13 x17 x18 w16)
def J_X12_luck_x74_1 (x9 : Int64) : Int64 → Wd → Option (Int32 × Wd) := fun x19 w20 =>
  bc (D_X12_common x9 x19 w20) fun x22 w21 => bd (wI w21 119 6 0) fun w23 => if ¬ (x22) = 0 then (bv (D_X12_tell (x9 / x22) w23) fun w24 => if ¬ (x22) = 0 then (bv (D_X12_tell (x19 / x22) w24) fun w25 => some (0, w25)) else none) else none
def D_X12_luck (p1 : Int32) (p2 : Int32) : Wd → Option (Int32 × Wd) := fun w =>
  bd (wI w 119 7 0) fun w1 => bc (D_X12_in p1 0 4 w1) fun x3 w2 => if x3 = 0 then (some ((-1), w2)) else (bc (D_X12_in p2 0 108 w2) fun x5 w4 => if x5 = 0 then (some ((-1), w4)) else (if ib 0 7 then bd (133 + (0 : Int32).toNatClampNeg) (fun q6 => bv (D_X12_lay 120 q6 0 w4) fun w7 => bc (D_X12_luckOf 0 p1 p2 w7) fun x9 w8 => L_X12_luck_54 p1 x9 (J_X12_luck_x74_1 x9) FU (1 : Int64) 0 w8) else none))
set_option maxRecDepth 20000 in
theorem Q_X12_luck_54 {l0 : Launch} {ρ : Nat → Nat} {cs : Nat → ClassId} {G : va_G} {X : Cx} (hρ : injN ρ) (hn : X.2.2.2.2.2.2.2.2.2.2.1 = 9) (h : Okx l0 ρ cs G X prog_14_method_75_code "SowingBoardsModel" 85) {rr : (Int32 × Wd)} (hR : ∀ pc L, decode prog_14_method_75_code pc = .ok (.ireturn, 1) → narrow .int (.int rr.1) = .int rr.1 → gG ρ cs G X pc L [.int rr.1] rr.2) {x10 : Int32} {x11 : Int64} {k12 : Int64 → Wd → Option (Int32 × Wd)} (hk12 : ∀ (z5 : Int64) (w1 : Wd), k12 z5 w1 = some rr → gG ρ cs G X 74 [(0, .ref (ρ 119)), (3, .long x11), (5, .long z5)] [] w1) : ∀ (n : Nat) (x14 : Int64) (x15 : Int32) (w : Wd), L_X12_luck_54 x10 x11 k12 n x14 x15 w = some rr → gG ρ cs G X 54 [(0, .ref (ρ 119)), (1, .int x10), (3, .long x11), (5, .long x14), (7, .int x15)] [] w := by
  intro n
  induction n with
  | zero =>
    intro x14 x15 w hD
    cases hD
  | succ n13 ih =>
    intro x14 x15 w16 hD
    unfold L_X12_luck_54 at hD
    refine g_iload h 4 t_X12_luck_54 rfl ?_
    refine g_iload_n h 1 t_X12_luck_56 rfl ?_
    refine g_icmp_ge (tgt := 74) h t_X12_luck_57 (by decide) hD (fun hD => ?_) (fun hD => ?_)
    · refine g_loc (L' := [(0, .ref (ρ 119)), (3, .long x11), (5, .long x14)]) h [0, 2, 3] rfl ?_
      exact hk12 x14 _ hD
    · refine g_lload h 3 t_X12_luck_60 rfl ?_
      refine g_ldc2 (v := 60) h t_X12_luck_62 cc_12_342 ?_
      refine g_lmul h t_X12_luck_65 ?_
      refine g_bdJ hD (fun x17 hD => ?_)
      refine g_lstore (L' := [(5, .long x17), (0, .ref (ρ 119)), (1, .int x10), (3, .long x11), (7, .int x15)]) h hn t_X12_luck_66 (by decide) rfl ?_
      obtain ⟨x18, ex18, hD⟩ := bd_ex hD
      refine g_iinc (v := x18) (L' := [(7, .int x18), (5, .long x17), (0, .ref (ρ 119)), (1, .int x10), (3, .long x11)]) h hn t_X12_luck_68 (k := 4) rfl (by rw [ex18]; rfl) (by decide) rfl ?_
      refine g_goto (tgt := 54) h t_X12_luck_71 (by decide) ?_
      refine g_loc (L' := [(0, .ref (ρ 119)), (1, .int x10), (3, .long x11), (5, .long x17), (7, .int x18)]) h [2, 3, 4, 1, 0] rfl ?_
      exact ih x17 x18 _ hD
set_option maxRecDepth 20000 in
theorem S_X12_luck {l0 : Launch} {ρ : Nat → Nat} {cs : Nat → ClassId} {G : va_G} (hρ : injN ρ) {p1 : Int32} {p2 : Int32} {w : Wd} {rr : (Int32 × Wd)} (hD : D_X12_luck p1 p2 w = some rr) : CtI l0 ρ cs G y_X12_luck prog_14_method_75_code 9 .int 85 [.ref (ρ 119), .int p1, .int p2] w rr.1 rr.2 := by
  refine ctI_of hρ (by decide) (Nat.le_of_ble_eq_true rfl) (fun X hn h hR => ?_)
  unfold D_X12_luck at hD
  show gG ρ cs G X 0 [(0, .ref (ρ 119)), (1, .int p1), (2, .int p2)] [] w
  refine g_aload_n h 0 t_X12_luck_0 rfl ?_
  refine g_iconst (v := 0) h t_X12_luck_1 (by decide) ?_
  refine g_putI h 119 7 fl_12_109 fp_12_7 rfl (by decide) rfl t_X12_luck_2 hD (fun w1 hD => ?_)
  refine g_iload_n h 1 t_X12_luck_5 rfl ?_
  refine g_iconst (v := 0) h t_X12_luck_6 (by decide) ?_
  refine g_iconst (v := 4) h t_X12_luck_7 (by decide) ?_
  refine g_callSI h (As := [.int p1, .int 0, .int 4]) (st := []) my_X12_in ms_X12_in ml_12_118 rfl rfl (Nat.le_of_ble_eq_true rfl) (by decide) t_X12_luck_8 hD (fun _ _ e => S_X12_in hρ  e) (fun x3 w2 hD => ?_)
  refine g_if_eq (tgt := 24) h t_X12_luck_11 (by decide) hD (fun hD => ?_) (fun hD => ?_)
  · refine g_iconst (v := (-1)) h t_X12_luck_24 (by decide) ?_
    obtain rfl := Option.some.inj hD
    exact hR _ _ t_X12_luck_25 rfl
  · refine g_iload_n h 2 t_X12_luck_14 rfl ?_
    refine g_iconst (v := 0) h t_X12_luck_15 (by decide) ?_
    refine g_bipush (v := 108) h t_X12_luck_16 (by decide) ?_
    refine g_callSI h (As := [.int p2, .int 0, .int 108]) (st := []) my_X12_in ms_X12_in ml_12_118 rfl rfl (Nat.le_of_ble_eq_true rfl) (by decide) t_X12_luck_18 hD (fun _ _ e => S_X12_in hρ  e) (fun x5 w4 hD => ?_)
    refine g_if_ne (tgt := 26) h t_X12_luck_21 (by decide) hD (fun hD => ?_) (fun hD => ?_)
    · refine g_aload_n h 0 t_X12_luck_26 rfl ?_
      refine g_getR h 119 0 120 fl_12_9 rfl (by decide) rfl t_X12_luck_27 ?_
      refine g_aload_n h 0 t_X12_luck_30 rfl ?_
      refine g_getR h 119 29 132 fl_12_57 rfl (by decide) rfl t_X12_luck_31 ?_
      refine g_iconst (v := 0) h t_X12_luck_34 (by decide) ?_
      refine g_rald h 132 rfl (by decide) t_X12_luck_35 hD (fun q6 eq6 lq6 hD => ?_)
      have hq6 : isIA q6 := iaA (f := 133) (by decide) eq6 lq6
      refine g_iconst (v := 0) h t_X12_luck_36 (by decide) ?_
      refine g_callSV h (As := [.ref (ρ 120), .ref (ρ q6), .int 0]) (st := []) my_X12_lay ms_X12_lay ml_12_256 rfl rfl (Nat.le_of_ble_eq_true rfl) (by decide) t_X12_luck_37 hD (fun _ e => S_X12_lay hρ (by decide) hq6 e) (fun w7 hD => ?_)
      refine g_aload_n h 0 t_X12_luck_40 rfl ?_
      refine g_iconst (v := 0) h t_X12_luck_41 (by decide) ?_
      refine g_iload_n h 1 t_X12_luck_42 rfl ?_
      refine g_iload_n h 2 t_X12_luck_43 rfl ?_
      refine g_callVJ h 119 (As := [.int 0, .int p1, .int p2]) (st := []) my_X12_luckOf mi_X12_luckOf ml_12_344 rfl (by decide) rfl rfl rfl (Nat.le_of_ble_eq_true rfl) (by decide) t_X12_luck_44 hD (fun _ _ e => S_X12_luckOf hρ  e) (fun x9 w8 hD => ?_)
      refine g_lstore_n (L' := [(3, .long x9), (0, .ref (ρ 119)), (1, .int p1), (2, .int p2)]) h hn t_X12_luck_47 rfl (by decide) rfl ?_
      refine g_lconst (v := 1) h t_X12_luck_48 (by decide) ?_
      refine g_lstore (L' := [(5, .long (1 : Int64)), (3, .long x9), (0, .ref (ρ 119)), (1, .int p1), (2, .int p2)]) h hn t_X12_luck_49 (by decide) rfl ?_
      refine g_iconst (v := 0) h t_X12_luck_51 (by decide) ?_
      refine g_istore (L' := [(7, .int 0), (5, .long (1 : Int64)), (3, .long x9), (0, .ref (ρ 119)), (1, .int p1), (2, .int p2)]) h hn t_X12_luck_52 (by decide) rfl ?_
      refine g_loc (L' := [(0, .ref (ρ 119)), (1, .int p1), (3, .long x9), (5, .long (1 : Int64)), (7, .int 0)]) h [3, 4, 2, 1, 0] rfl ?_
      refine Q_X12_luck_54 hρ hn h hR  ?_ _ _ _ _ hD
      · intro x19 w20 hD
        unfold J_X12_luck_x74_1 at hD
        refine g_lload_n h 1 t_X12_luck_74 rfl ?_
        refine g_lload h 2 t_X12_luck_75 rfl ?_
        refine g_callSJ h (As := [.long x9, .long x19]) (st := []) my_X12_common ms_X12_common ml_12_338 rfl rfl (Nat.le_of_ble_eq_true rfl) (by decide) t_X12_luck_77 hD (fun _ _ e => S_X12_common hρ  e) (fun x22 w21 hD => ?_)
        refine g_lstore (L' := [(7, .long x22), (0, .ref (ρ 119)), (3, .long x9), (5, .long x19)]) h hn t_X12_luck_80 (by decide) rfl ?_
        refine g_aload_n h 1 t_X12_luck_82 rfl ?_
        refine g_iconst (v := 0) h t_X12_luck_83 (by decide) ?_
        refine g_putI h 119 6 fl_12_112 fp_12_6 rfl (by decide) rfl t_X12_luck_84 hD (fun w23 hD => ?_)
        refine g_aload_n h 1 t_X12_luck_87 rfl ?_
        refine g_lload_n h 2 t_X12_luck_88 rfl ?_
        refine g_lload h 0 t_X12_luck_89 rfl ?_
        refine g_ldiv h t_X12_luck_91 hD (fun hD => ?_)
        refine g_callVV h 119 (As := [.long (x9 / x22)]) (st := []) my_X12_tell mi_X12_tell ml_12_260 rfl (by decide) rfl rfl rfl (Nat.le_of_ble_eq_true rfl) (by decide) t_X12_luck_92 hD (fun _ e => S_X12_tell hρ  e) (fun w24 hD => ?_)
        refine g_aload_n h 1 t_X12_luck_95 rfl ?_
        refine g_lload h 3 t_X12_luck_96 rfl ?_
        refine g_lload h 0 t_X12_luck_98 rfl ?_
        refine g_ldiv h t_X12_luck_100 hD (fun hD => ?_)
        refine g_callVV h 119 (As := [.long (x19 / x22)]) (st := []) my_X12_tell mi_X12_tell ml_12_260 rfl (by decide) rfl rfl rfl (Nat.le_of_ble_eq_true rfl) (by decide) t_X12_luck_101 hD (fun _ e => S_X12_tell hρ  e) (fun w25 hD => ?_)
        refine g_iconst (v := 0) h t_X12_luck_104 (by decide) ?_
        obtain rfl := Option.some.inj hD
        exact hR _ _ t_X12_luck_105 rfl
    · refine g_iconst (v := (-1)) h t_X12_luck_24 (by decide) ?_
      obtain rfl := Option.some.inj hD
      exact hR _ _ t_X12_luck_25 rfl
def L_X12_when_35 (x7 : Int32) (k8 : Int32 → Wd → Option (Int32 × Wd)) (k9 : Wd → Option (Int32 × Wd)) (k10 : Wd → Option (Int32 × Wd)) : Nat → Int32 → Wd → Option (Int32 × Wd)
  | 0, _, _ => none
  | n11 + 1, x12, w13 =>
    if 60 < x12 then (k10 w13) else (if ib x7 16 then (if (w13.1 129 x7.toNatClampNeg) = 0 then (k8 x12 w13) else (bc (D_X12_goRule 129 w13) fun x15 w14 => if x15 = 0 then (k9 w14) else (bd (x12 + 1) fun x16 => L_X12_when_35 x7 k8 k9 k10 n11 x16 w14))) else none)
def J_X12_when_x50_1  : Int32 → Wd → Option (Int32 × Wd) := fun x17 w18 =>
  bd (wI w18 119 6 0) fun w19 => if ib 12 16 then (bv (D_X12_tell ((w19.1 129 (12 : Int32).toNatClampNeg).toInt64) w19) fun w20 => if ib 13 16 then (bv (D_X12_tell ((w20.1 129 (13 : Int32).toNatClampNeg).toInt64) w20) fun w21 => some (x17, w21)) else none) else none
def J_X12_when_x92_2  : Wd → Option (Int32 × Wd) := fun w22 =>
  some ((-2), w22)
def J_X12_when_x101_3  : Wd → Option (Int32 × Wd) := fun w23 =>
  some ((-2), w23)
def D_X12_when (p1 : Int32) : Wd → Option (Int32 × Wd) := fun w =>
  bd (wI w 119 7 0) fun w1 => bc (D_X12_pits w1) fun x3 w2 => bc (D_X12_in p1 0 (x3 - 1) w2) fun x5 w4 => if x5 = 0 then (some ((-1), w4)) else (bv (D_X12_lay 120 129 0 w4) fun w6 => L_X12_when_35 p1 J_X12_when_x50_1 J_X12_when_x92_2 J_X12_when_x101_3 FU 0 w6)
set_option maxRecDepth 20000 in
theorem Q_X12_when_35 {l0 : Launch} {ρ : Nat → Nat} {cs : Nat → ClassId} {G : va_G} {X : Cx} (hρ : injN ρ) (hn : X.2.2.2.2.2.2.2.2.2.2.1 = 3) (h : Okx l0 ρ cs G X prog_14_method_76_code "SowingBoardsModel" 88) {rr : (Int32 × Wd)} (hR : ∀ pc L, decode prog_14_method_76_code pc = .ok (.ireturn, 1) → narrow .int (.int rr.1) = .int rr.1 → gG ρ cs G X pc L [.int rr.1] rr.2) {x7 : Int32} {k8 : Int32 → Wd → Option (Int32 × Wd)} (hk8 : ∀ (z2 : Int32) (w1 : Wd), k8 z2 w1 = some rr → gG ρ cs G X 50 [(0, .ref (ρ 119)), (2, .int z2)] [] w1) {k9 : Wd → Option (Int32 × Wd)} (hk9 : ∀ (w1 : Wd), k9 w1 = some rr → gG ρ cs G X 92 [] [] w1) {k10 : Wd → Option (Int32 × Wd)} (hk10 : ∀ (w1 : Wd), k10 w1 = some rr → gG ρ cs G X 101 [] [] w1) : ∀ (n : Nat) (x12 : Int32) (w : Wd), L_X12_when_35 x7 k8 k9 k10 n x12 w = some rr → gG ρ cs G X 35 [(0, .ref (ρ 119)), (1, .int x7), (2, .int x12)] [] w := by
  intro n
  induction n with
  | zero =>
    intro x12 w hD
    cases hD
  | succ n11 ih =>
    intro x12 w13 hD
    unfold L_X12_when_35 at hD
    refine g_iload_n h 2 t_X12_when_35 rfl ?_
    refine g_bipush (v := 60) h t_X12_when_36 (by decide) ?_
    refine g_icmp_gt (tgt := 101) h t_X12_when_38 (by decide) hD (fun hD => ?_) (fun hD => ?_)
    · refine g_loc (L' := []) h [] rfl ?_
      exact hk10 _ hD
    · refine g_aload_n h 0 t_X12_when_41 rfl ?_
      refine g_getR h 119 25 129 fl_12_46 rfl (by decide) rfl t_X12_when_42 ?_
      refine g_iload_n h 1 t_X12_when_45 rfl ?_
      refine g_iald h 129 rfl (by decide) t_X12_when_46 hD (fun hD => ?_)
      refine g_if_ne (tgt := 81) h t_X12_when_47 (by decide) hD (fun hD => ?_) (fun hD => ?_)
      · refine g_aload_n h 0 t_X12_when_81 rfl ?_
        refine g_aload_n h 0 t_X12_when_82 rfl ?_
        refine g_getR h 119 25 129 fl_12_46 rfl (by decide) rfl t_X12_when_83 ?_
        refine g_callVI h 119 (As := [.ref (ρ 129)]) (st := []) my_X12_goRule mi_X12_goRule ml_12_289 rfl (by decide) rfl rfl rfl (Nat.le_of_ble_eq_true rfl) (by decide) t_X12_when_86 hD (fun _ _ e => S_X12_goRule hρ (by decide) e) (fun x15 w14 hD => ?_)
        refine g_if_ne (tgt := 95) h t_X12_when_89 (by decide) hD (fun hD => ?_) (fun hD => ?_)
        · obtain ⟨x16, ex16, hD⟩ := bd_ex hD
          refine g_iinc (v := x16) (L' := [(2, .int x16), (0, .ref (ρ 119)), (1, .int x7)]) h hn t_X12_when_95 (k := 2) rfl (by rw [ex16]; rfl) (by decide) rfl ?_
          refine g_goto (tgt := 35) h t_X12_when_98 (by decide) ?_
          refine g_loc (L' := [(0, .ref (ρ 119)), (1, .int x7), (2, .int x16)]) h [1, 2, 0] rfl ?_
          exact ih x16 _ hD
        · refine g_loc (L' := []) h [] rfl ?_
          exact hk9 _ hD
      · refine g_loc (L' := [(0, .ref (ρ 119)), (2, .int x12)]) h [0, 2] rfl ?_
        exact hk8 x12 _ hD
set_option maxRecDepth 20000 in
theorem S_X12_when {l0 : Launch} {ρ : Nat → Nat} {cs : Nat → ClassId} {G : va_G} (hρ : injN ρ) {p1 : Int32} {w : Wd} {rr : (Int32 × Wd)} (hD : D_X12_when p1 w = some rr) : CtI l0 ρ cs G y_X12_when prog_14_method_76_code 3 .int 88 [.ref (ρ 119), .int p1] w rr.1 rr.2 := by
  refine ctI_of hρ (by decide) (Nat.le_of_ble_eq_true rfl) (fun X hn h hR => ?_)
  unfold D_X12_when at hD
  show gG ρ cs G X 0 [(0, .ref (ρ 119)), (1, .int p1)] [] w
  refine g_aload_n h 0 t_X12_when_0 rfl ?_
  refine g_iconst (v := 0) h t_X12_when_1 (by decide) ?_
  refine g_putI h 119 7 fl_12_109 fp_12_7 rfl (by decide) rfl t_X12_when_2 hD (fun w1 hD => ?_)
  refine g_iload_n h 1 t_X12_when_5 rfl ?_
  refine g_iconst (v := 0) h t_X12_when_6 (by decide) ?_
  refine g_aload_n h 0 t_X12_when_7 rfl ?_
  refine g_callVI h 119 (As := []) (st := [.int 0, .int p1]) my_X12_pits mi_X12_pits ml_12_214 rfl (by decide) rfl rfl rfl (Nat.le_of_ble_eq_true rfl) (by decide) t_X12_when_8 hD (fun _ _ e => S_X12_pits hρ  e) (fun x3 w2 hD => ?_)
  refine g_iconst (v := 1) h t_X12_when_11 (by decide) ?_
  refine g_isub h t_X12_when_12 ?_
  refine g_callSI h (As := [.int p1, .int 0, .int (x3 - 1)]) (st := []) my_X12_in ms_X12_in ml_12_118 rfl rfl (Nat.le_of_ble_eq_true rfl) (by decide) t_X12_when_13 hD (fun _ _ e => S_X12_in hρ  e) (fun x5 w4 hD => ?_)
  refine g_if_ne (tgt := 21) h t_X12_when_16 (by decide) hD (fun hD => ?_) (fun hD => ?_)
  · refine g_aload_n h 0 t_X12_when_21 rfl ?_
    refine g_getR h 119 0 120 fl_12_9 rfl (by decide) rfl t_X12_when_22 ?_
    refine g_aload_n h 0 t_X12_when_25 rfl ?_
    refine g_getR h 119 25 129 fl_12_46 rfl (by decide) rfl t_X12_when_26 ?_
    refine g_iconst (v := 0) h t_X12_when_29 (by decide) ?_
    refine g_callSV h (As := [.ref (ρ 120), .ref (ρ 129), .int 0]) (st := []) my_X12_lay ms_X12_lay ml_12_256 rfl rfl (Nat.le_of_ble_eq_true rfl) (by decide) t_X12_when_30 hD (fun _ e => S_X12_lay hρ (by decide) (by decide) e) (fun w6 hD => ?_)
    refine g_iconst (v := 0) h t_X12_when_33 (by decide) ?_
    refine g_istore_n (L' := [(2, .int 0), (0, .ref (ρ 119)), (1, .int p1)]) h hn t_X12_when_34 rfl (by decide) rfl ?_
    refine g_loc (L' := [(0, .ref (ρ 119)), (1, .int p1), (2, .int 0)]) h [1, 2, 0] rfl ?_
    refine Q_X12_when_35 hρ hn h hR  ?_ ?_ ?_ _ _ _ hD
    · intro x17 w18 hD
      unfold J_X12_when_x50_1 at hD
      refine g_aload_n h 0 t_X12_when_50 rfl ?_
      refine g_iconst (v := 0) h t_X12_when_51 (by decide) ?_
      refine g_putI h 119 6 fl_12_112 fp_12_6 rfl (by decide) rfl t_X12_when_52 hD (fun w19 hD => ?_)
      refine g_aload_n h 0 t_X12_when_55 rfl ?_
      refine g_aload_n h 0 t_X12_when_56 rfl ?_
      refine g_getR h 119 25 129 fl_12_46 rfl (by decide) rfl t_X12_when_57 ?_
      refine g_bipush (v := 12) h t_X12_when_60 (by decide) ?_
      refine g_iald h 129 rfl (by decide) t_X12_when_62 hD (fun hD => ?_)
      refine g_i2l h t_X12_when_63 ?_
      refine g_callVV h 119 (As := [.long ((w19.1 129 (12 : Int32).toNatClampNeg).toInt64)]) (st := []) my_X12_tell mi_X12_tell ml_12_260 rfl (by decide) rfl rfl rfl (Nat.le_of_ble_eq_true rfl) (by decide) t_X12_when_64 hD (fun _ e => S_X12_tell hρ  e) (fun w20 hD => ?_)
      refine g_aload_n h 0 t_X12_when_67 rfl ?_
      refine g_aload_n h 0 t_X12_when_68 rfl ?_
      refine g_getR h 119 25 129 fl_12_46 rfl (by decide) rfl t_X12_when_69 ?_
      refine g_bipush (v := 13) h t_X12_when_72 (by decide) ?_
      refine g_iald h 129 rfl (by decide) t_X12_when_74 hD (fun hD => ?_)
      refine g_i2l h t_X12_when_75 ?_
      refine g_callVV h 119 (As := [.long ((w20.1 129 (13 : Int32).toNatClampNeg).toInt64)]) (st := []) my_X12_tell mi_X12_tell ml_12_260 rfl (by decide) rfl rfl rfl (Nat.le_of_ble_eq_true rfl) (by decide) t_X12_when_76 hD (fun _ e => S_X12_tell hρ  e) (fun w21 hD => ?_)
      refine g_iload_n h 1 t_X12_when_79 rfl ?_
      obtain rfl := Option.some.inj hD
      exact hR _ _ t_X12_when_80 rfl
    · intro w22 hD
      unfold J_X12_when_x92_2 at hD
      refine g_bipush (v := (-2)) h t_X12_when_92 (by decide) ?_
      obtain rfl := Option.some.inj hD
      exact hR _ _ t_X12_when_94 rfl
    · intro w23 hD
      unfold J_X12_when_x101_3 at hD
      refine g_bipush (v := (-2)) h t_X12_when_101 (by decide) ?_
      obtain rfl := Option.some.inj hD
      exact hR _ _ t_X12_when_103 rfl
  · refine g_iconst (v := (-1)) h t_X12_when_19 (by decide) ?_
    obtain rfl := Option.some.inj hD
    exact hR _ _ t_X12_when_20 rfl
def L_X12_ends_19 (k3 : Int32 → Wd → Option (Int32 × Wd)) (k4 : Wd → Option (Int32 × Wd)) : Nat → Int32 → Wd → Option (Int32 × Wd)
  | 0, _, _ => none
  | n5 + 1, x6, w7 =>
    if 99 < x6 then (k4 w7) else (bc (D_X12_isOver 129 w7) fun x9 w8 => if x9 = 0 then (bc (D_X12_goRule 129 w8) fun x11 w10 => bd (x6 + 1) fun x12 => L_X12_ends_19 k3 k4 n5 x12 w10) else (k3 x6 w8))
def J_X12_ends_x36_1  : Int32 → Wd → Option (Int32 × Wd) := fun x13 w14 =>
  bd (wI w14 119 6 0) fun w15 => if ib 12 16 then (bc (D_X12_seeds 129 0 (w15.1 119 1) w15) fun x17 w16 => bv (D_X12_tell (((w15.1 129 (12 : Int32).toNatClampNeg) + x17).toInt64) w16) fun w18 => if ib 13 16 then (bc (D_X12_seeds 129 (w18.1 119 1) (w18.1 119 1) w18) fun x20 w19 => bv (D_X12_tell (((w18.1 129 (13 : Int32).toNatClampNeg) + x20).toInt64) w19) fun w21 => some (x13, w21)) else none) else none
def J_X12_ends_x113_2  : Wd → Option (Int32 × Wd) := fun w22 =>
  some ((-2), w22)
def D_X12_ends  : Wd → Option (Int32 × Wd) := fun w =>
  bd (wI w 119 7 0) fun w1 => bv (D_X12_lay 120 129 0 w1) fun w2 => L_X12_ends_19 J_X12_ends_x36_1 J_X12_ends_x113_2 FU 0 w2
set_option maxRecDepth 20000 in
theorem Q_X12_ends_19 {l0 : Launch} {ρ : Nat → Nat} {cs : Nat → ClassId} {G : va_G} {X : Cx} (hρ : injN ρ) (hn : X.2.2.2.2.2.2.2.2.2.2.1 = 2) (h : Okx l0 ρ cs G X prog_14_method_77_code "SowingBoardsModel" 88) {rr : (Int32 × Wd)} (hR : ∀ pc L, decode prog_14_method_77_code pc = .ok (.ireturn, 1) → narrow .int (.int rr.1) = .int rr.1 → gG ρ cs G X pc L [.int rr.1] rr.2)  {k3 : Int32 → Wd → Option (Int32 × Wd)} (hk3 : ∀ (z1 : Int32) (w1 : Wd), k3 z1 w1 = some rr → gG ρ cs G X 36 [(0, .ref (ρ 119)), (1, .int z1)] [] w1) {k4 : Wd → Option (Int32 × Wd)} (hk4 : ∀ (w1 : Wd), k4 w1 = some rr → gG ρ cs G X 113 [] [] w1) : ∀ (n : Nat) (x6 : Int32) (w : Wd), L_X12_ends_19 k3 k4 n x6 w = some rr → gG ρ cs G X 19 [(0, .ref (ρ 119)), (1, .int x6)] [] w := by
  intro n
  induction n with
  | zero =>
    intro x6 w hD
    cases hD
  | succ n5 ih =>
    intro x6 w7 hD
    unfold L_X12_ends_19 at hD
    refine g_iload_n h 1 t_X12_ends_19 rfl ?_
    refine g_bipush (v := 99) h t_X12_ends_20 (by decide) ?_
    refine g_icmp_gt (tgt := 113) h t_X12_ends_22 (by decide) hD (fun hD => ?_) (fun hD => ?_)
    · refine g_loc (L' := []) h [] rfl ?_
      exact hk4 _ hD
    · refine g_aload_n h 0 t_X12_ends_25 rfl ?_
      refine g_aload_n h 0 t_X12_ends_26 rfl ?_
      refine g_getR h 119 25 129 fl_12_46 rfl (by decide) rfl t_X12_ends_27 ?_
      refine g_callVI h 119 (As := [.ref (ρ 129)]) (st := []) my_X12_isOver mi_X12_isOver ml_12_282 rfl (by decide) rfl rfl rfl (Nat.le_of_ble_eq_true rfl) (by decide) t_X12_ends_30 hD (fun _ _ e => S_X12_isOver hρ (by decide) e) (fun x9 w8 hD => ?_)
      refine g_if_eq (tgt := 98) h t_X12_ends_33 (by decide) hD (fun hD => ?_) (fun hD => ?_)
      · refine g_aload_n h 0 t_X12_ends_98 rfl ?_
        refine g_aload_n h 0 t_X12_ends_99 rfl ?_
        refine g_getR h 119 25 129 fl_12_46 rfl (by decide) rfl t_X12_ends_100 ?_
        refine g_callVI h 119 (As := [.ref (ρ 129)]) (st := []) my_X12_goRule mi_X12_goRule ml_12_289 rfl (by decide) rfl rfl rfl (Nat.le_of_ble_eq_true rfl) (by decide) t_X12_ends_103 hD (fun _ _ e => S_X12_goRule hρ (by decide) e) (fun x11 w10 hD => ?_)
        refine g_pop h t_X12_ends_106 rfl ?_
        obtain ⟨x12, ex12, hD⟩ := bd_ex hD
        refine g_iinc (v := x12) (L' := [(1, .int x12), (0, .ref (ρ 119))]) h hn t_X12_ends_107 (k := 1) rfl (by rw [ex12]; rfl) (by decide) rfl ?_
        refine g_goto (tgt := 19) h t_X12_ends_110 (by decide) ?_
        refine g_loc (L' := [(0, .ref (ρ 119)), (1, .int x12)]) h [1, 0] rfl ?_
        exact ih x12 _ hD
      · refine g_loc (L' := [(0, .ref (ρ 119)), (1, .int x6)]) h [0, 1] rfl ?_
        exact hk3 x6 _ hD
set_option maxRecDepth 20000 in
theorem S_X12_ends {l0 : Launch} {ρ : Nat → Nat} {cs : Nat → ClassId} {G : va_G} (hρ : injN ρ)  {w : Wd} {rr : (Int32 × Wd)} (hD : D_X12_ends w = some rr) : CtI l0 ρ cs G y_X12_ends prog_14_method_77_code 2 .int 88 [.ref (ρ 119)] w rr.1 rr.2 := by
  refine ctI_of hρ (by decide) (Nat.le_of_ble_eq_true rfl) (fun X hn h hR => ?_)
  unfold D_X12_ends at hD
  show gG ρ cs G X 0 [(0, .ref (ρ 119))] [] w
  refine g_aload_n h 0 t_X12_ends_0 rfl ?_
  refine g_iconst (v := 0) h t_X12_ends_1 (by decide) ?_
  refine g_putI h 119 7 fl_12_109 fp_12_7 rfl (by decide) rfl t_X12_ends_2 hD (fun w1 hD => ?_)
  refine g_aload_n h 0 t_X12_ends_5 rfl ?_
  refine g_getR h 119 0 120 fl_12_9 rfl (by decide) rfl t_X12_ends_6 ?_
  refine g_aload_n h 0 t_X12_ends_9 rfl ?_
  refine g_getR h 119 25 129 fl_12_46 rfl (by decide) rfl t_X12_ends_10 ?_
  refine g_iconst (v := 0) h t_X12_ends_13 (by decide) ?_
  refine g_callSV h (As := [.ref (ρ 120), .ref (ρ 129), .int 0]) (st := []) my_X12_lay ms_X12_lay ml_12_256 rfl rfl (Nat.le_of_ble_eq_true rfl) (by decide) t_X12_ends_14 hD (fun _ e => S_X12_lay hρ (by decide) (by decide) e) (fun w2 hD => ?_)
  refine g_iconst (v := 0) h t_X12_ends_17 (by decide) ?_
  refine g_istore_n (L' := [(1, .int 0), (0, .ref (ρ 119))]) h hn t_X12_ends_18 rfl (by decide) rfl ?_
  refine g_loc (L' := [(0, .ref (ρ 119)), (1, .int 0)]) h [1, 0] rfl ?_
  refine Q_X12_ends_19 hρ hn h hR  ?_ ?_ _ _ _ hD
  · intro x13 w14 hD
    unfold J_X12_ends_x36_1 at hD
    refine g_aload_n h 0 t_X12_ends_36 rfl ?_
    refine g_iconst (v := 0) h t_X12_ends_37 (by decide) ?_
    refine g_putI h 119 6 fl_12_112 fp_12_6 rfl (by decide) rfl t_X12_ends_38 hD (fun w15 hD => ?_)
    refine g_aload_n h 0 t_X12_ends_41 rfl ?_
    refine g_aload_n h 0 t_X12_ends_42 rfl ?_
    refine g_getR h 119 25 129 fl_12_46 rfl (by decide) rfl t_X12_ends_43 ?_
    refine g_bipush (v := 12) h t_X12_ends_46 (by decide) ?_
    refine g_iald h 129 rfl (by decide) t_X12_ends_48 hD (fun hD => ?_)
    refine g_aload_n h 0 t_X12_ends_49 rfl ?_
    refine g_aload_n h 0 t_X12_ends_50 rfl ?_
    refine g_getR h 119 25 129 fl_12_46 rfl (by decide) rfl t_X12_ends_51 ?_
    refine g_iconst (v := 0) h t_X12_ends_54 (by decide) ?_
    refine g_aload_n h 0 t_X12_ends_55 rfl ?_
    refine g_getI h 119 1 fl_12_13 rfl (by decide) rfl t_X12_ends_56 ?_
    refine g_callVI h 119 (As := [.ref (ρ 129), .int 0, .int (w15.1 119 1)]) (st := [.int (w15.1 129 (12 : Int32).toNatClampNeg), .ref (ρ 119)]) my_X12_seeds mi_X12_seeds ml_12_229 rfl (by decide) rfl rfl rfl (Nat.le_of_ble_eq_true rfl) (by decide) t_X12_ends_59 hD (fun _ _ e => S_X12_seeds hρ (by decide) e) (fun x17 w16 hD => ?_)
    refine g_iadd h t_X12_ends_62 ?_
    refine g_i2l h t_X12_ends_63 ?_
    refine g_callVV h 119 (As := [.long (((w15.1 129 (12 : Int32).toNatClampNeg) + x17).toInt64)]) (st := []) my_X12_tell mi_X12_tell ml_12_260 rfl (by decide) rfl rfl rfl (Nat.le_of_ble_eq_true rfl) (by decide) t_X12_ends_64 hD (fun _ e => S_X12_tell hρ  e) (fun w18 hD => ?_)
    refine g_aload_n h 0 t_X12_ends_67 rfl ?_
    refine g_aload_n h 0 t_X12_ends_68 rfl ?_
    refine g_getR h 119 25 129 fl_12_46 rfl (by decide) rfl t_X12_ends_69 ?_
    refine g_bipush (v := 13) h t_X12_ends_72 (by decide) ?_
    refine g_iald h 129 rfl (by decide) t_X12_ends_74 hD (fun hD => ?_)
    refine g_aload_n h 0 t_X12_ends_75 rfl ?_
    refine g_aload_n h 0 t_X12_ends_76 rfl ?_
    refine g_getR h 119 25 129 fl_12_46 rfl (by decide) rfl t_X12_ends_77 ?_
    refine g_aload_n h 0 t_X12_ends_80 rfl ?_
    refine g_getI h 119 1 fl_12_13 rfl (by decide) rfl t_X12_ends_81 ?_
    refine g_aload_n h 0 t_X12_ends_84 rfl ?_
    refine g_getI h 119 1 fl_12_13 rfl (by decide) rfl t_X12_ends_85 ?_
    refine g_callVI h 119 (As := [.ref (ρ 129), .int (w18.1 119 1), .int (w18.1 119 1)]) (st := [.int (w18.1 129 (13 : Int32).toNatClampNeg), .ref (ρ 119)]) my_X12_seeds mi_X12_seeds ml_12_229 rfl (by decide) rfl rfl rfl (Nat.le_of_ble_eq_true rfl) (by decide) t_X12_ends_88 hD (fun _ _ e => S_X12_seeds hρ (by decide) e) (fun x20 w19 hD => ?_)
    refine g_iadd h t_X12_ends_91 ?_
    refine g_i2l h t_X12_ends_92 ?_
    refine g_callVV h 119 (As := [.long (((w18.1 129 (13 : Int32).toNatClampNeg) + x20).toInt64)]) (st := []) my_X12_tell mi_X12_tell ml_12_260 rfl (by decide) rfl rfl rfl (Nat.le_of_ble_eq_true rfl) (by decide) t_X12_ends_93 hD (fun _ e => S_X12_tell hρ  e) (fun w21 hD => ?_)
    refine g_iload_n h 1 t_X12_ends_96 rfl ?_
    obtain rfl := Option.some.inj hD
    exact hR _ _ t_X12_ends_97 rfl
  · intro w22 hD
    unfold J_X12_ends_x113_2 at hD
    refine g_bipush (v := (-2)) h t_X12_ends_113 (by decide) ?_
    obtain rfl := Option.some.inj hD
    exact hR _ _ t_X12_ends_115 rfl
def L_X12_isGone_2 (x1 : Int32) (x2 : Int32) (k3 : Wd → Option (Int32 × Wd)) (k4 : Wd → Option (Int32 × Wd)) : Nat → Int32 → Wd → Option (Int32 × Wd)
  | 0, _, _ => none
  | n5 + 1, x6, w7 =>
    if 15 ≤ x6 then (k4 w7) else (if ib ((16 * x1) + x6) 976 then (if ib ((16 * x2) + x6) 976 then (if (w7.1 150 ((16 * x1) + x6).toNatClampNeg) = (w7.1 150 ((16 * x2) + x6).toNatClampNeg) then (bd (x6 + 1) fun x8 => L_X12_isGone_2 x1 x2 k3 k4 n5 x8 w7) else (k3 w7)) else none) else none)
def J_X12_isGone_x33_1  : Wd → Option (Int32 × Wd) := fun w9 =>
  some (0, w9)
def J_X12_isGone_x41_2  : Wd → Option (Int32 × Wd) := fun w10 =>
  some (1, w10)
def D_X12_isGone (p1 : Int32) (p2 : Int32) : Wd → Option (Int32 × Wd) := fun w =>
  L_X12_isGone_2 p1 p2 J_X12_isGone_x33_1 J_X12_isGone_x41_2 FU 0 w
set_option maxRecDepth 20000 in
theorem Q_X12_isGone_2 {l0 : Launch} {ρ : Nat → Nat} {cs : Nat → ClassId} {G : va_G} {X : Cx} (hρ : injN ρ) (hn : X.2.2.2.2.2.2.2.2.2.2.1 = 4) (h : Okx l0 ρ cs G X prog_14_method_78_code "SowingBoardsModel" 0) {rr : (Int32 × Wd)} (hR : ∀ pc L, decode prog_14_method_78_code pc = .ok (.ireturn, 1) → narrow .boolean (.int rr.1) = .int rr.1 → gG ρ cs G X pc L [.int rr.1] rr.2) {x1 : Int32} {x2 : Int32} {k3 : Wd → Option (Int32 × Wd)} (hk3 : ∀ (w1 : Wd), k3 w1 = some rr → gG ρ cs G X 33 [] [] w1) {k4 : Wd → Option (Int32 × Wd)} (hk4 : ∀ (w1 : Wd), k4 w1 = some rr → gG ρ cs G X 41 [] [] w1) : ∀ (n : Nat) (x6 : Int32) (w : Wd), L_X12_isGone_2 x1 x2 k3 k4 n x6 w = some rr → gG ρ cs G X 2 [(0, .ref (ρ 119)), (1, .int x1), (2, .int x2), (3, .int x6)] [] w := by
  intro n
  induction n with
  | zero =>
    intro x6 w hD
    cases hD
  | succ n5 ih =>
    intro x6 w7 hD
    unfold L_X12_isGone_2 at hD
    refine g_iload_n h 3 t_X12_isGone_2 rfl ?_
    refine g_bipush (v := 15) h t_X12_isGone_3 (by decide) ?_
    refine g_icmp_ge (tgt := 41) h t_X12_isGone_5 (by decide) hD (fun hD => ?_) (fun hD => ?_)
    · refine g_loc (L' := []) h [] rfl ?_
      exact hk4 _ hD
    · refine g_aload_n h 0 t_X12_isGone_8 rfl ?_
      refine g_getR h 119 39 150 fl_12_75 rfl (by decide) rfl t_X12_isGone_9 ?_
      refine g_bipush (v := 16) h t_X12_isGone_12 (by decide) ?_
      refine g_iload_n h 1 t_X12_isGone_14 rfl ?_
      refine g_imul h t_X12_isGone_15 ?_
      refine g_iload_n h 3 t_X12_isGone_16 rfl ?_
      refine g_iadd h t_X12_isGone_17 ?_
      refine g_iald h 150 rfl (by decide) t_X12_isGone_18 hD (fun hD => ?_)
      refine g_aload_n h 0 t_X12_isGone_19 rfl ?_
      refine g_getR h 119 39 150 fl_12_75 rfl (by decide) rfl t_X12_isGone_20 ?_
      refine g_bipush (v := 16) h t_X12_isGone_23 (by decide) ?_
      refine g_iload_n h 2 t_X12_isGone_25 rfl ?_
      refine g_imul h t_X12_isGone_26 ?_
      refine g_iload_n h 3 t_X12_isGone_27 rfl ?_
      refine g_iadd h t_X12_isGone_28 ?_
      refine g_iald h 150 rfl (by decide) t_X12_isGone_29 hD (fun hD => ?_)
      refine g_icmp_eq (tgt := 35) h t_X12_isGone_30 (by decide) hD (fun hD => ?_) (fun hD => ?_)
      · obtain ⟨x8, ex8, hD⟩ := bd_ex hD
        refine g_iinc (v := x8) (L' := [(3, .int x8), (0, .ref (ρ 119)), (1, .int x1), (2, .int x2)]) h hn t_X12_isGone_35 (k := 3) rfl (by rw [ex8]; rfl) (by decide) rfl ?_
        refine g_goto (tgt := 2) h t_X12_isGone_38 (by decide) ?_
        refine g_loc (L' := [(0, .ref (ρ 119)), (1, .int x1), (2, .int x2), (3, .int x8)]) h [1, 2, 3, 0] rfl ?_
        exact ih x8 _ hD
      · refine g_loc (L' := []) h [] rfl ?_
        exact hk3 _ hD
set_option maxRecDepth 20000 in
theorem S_X12_isGone {l0 : Launch} {ρ : Nat → Nat} {cs : Nat → ClassId} {G : va_G} (hρ : injN ρ) {p1 : Int32} {p2 : Int32} {w : Wd} {rr : (Int32 × Wd)} (hD : D_X12_isGone p1 p2 w = some rr) : CtI l0 ρ cs G y_X12_isGone prog_14_method_78_code 4 .boolean 0 [.ref (ρ 119), .int p1, .int p2] w rr.1 rr.2 := by
  refine ctI_of hρ (by decide) (Nat.le_of_ble_eq_true rfl) (fun X hn h hR => ?_)
  unfold D_X12_isGone at hD
  show gG ρ cs G X 0 [(0, .ref (ρ 119)), (1, .int p1), (2, .int p2)] [] w
  refine g_iconst (v := 0) h t_X12_isGone_0 (by decide) ?_
  refine g_istore_n (L' := [(3, .int 0), (0, .ref (ρ 119)), (1, .int p1), (2, .int p2)]) h hn t_X12_isGone_1 rfl (by decide) rfl ?_
  refine g_loc (L' := [(0, .ref (ρ 119)), (1, .int p1), (2, .int p2), (3, .int 0)]) h [1, 2, 3, 0] rfl ?_
  refine Q_X12_isGone_2 hρ hn h hR  ?_ ?_ _ _ _ hD
  · intro w9 hD
    unfold J_X12_isGone_x33_1 at hD
    refine g_iconst (v := 0) h t_X12_isGone_33 (by decide) ?_
    obtain rfl := Option.some.inj hD
    exact hR _ _ t_X12_isGone_34 (b01_n rfl)
  · intro w10 hD
    unfold J_X12_isGone_x41_2 at hD
    refine g_iconst (v := 1) h t_X12_isGone_41 (by decide) ?_
    obtain rfl := Option.some.inj hD
    exact hR _ _ t_X12_isGone_42 (b01_n rfl)
def L_X12_round_68 (x13 : Int32) (k14 : Int32 → Wd → Option (Int32 × Wd)) (k15 : Wd → Option (Int32 × Wd)) : Nat → Int32 → Wd → Option (Int32 × Wd)
  | 0, _, _ => none
  | n16 + 1, x17, w18 =>
    if x13 ≤ x17 then (k15 w18) else (bc (D_X12_isGone x17 x13 w18) fun x20 w19 => if x20 = 0 then (bd (x17 + 1) fun x21 => L_X12_round_68 x13 k14 k15 n16 x21 w19) else (k14 x17 w19))
def J_X12_round_x85_1 (k5 : Int32 → Int32 → Wd → Option (Int32 × Wd)) (x8 : Int32) : Int32 → Wd → Option (Int32 × Wd) := fun x22 w23 =>
  k5 x8 x22 w23
def J_X12_round_x104_2 (r31 : Int32 → Wd → Option (Int32 × Wd)) (x8 : Int32) : Wd → Option (Int32 × Wd) := fun w24 =>
  bd (x8 + 1) fun x25 => r31 x25 w24
def L_X12_round_31 (k4 : Wd → Option (Int32 × Wd)) (k5 : Int32 → Int32 → Wd → Option (Int32 × Wd)) (k6 : Wd → Option (Int32 × Wd)) : Nat → Int32 → Wd → Option (Int32 × Wd)
  | 0, _, _ => none
  | n7 + 1, x8, w9 =>
    if 60 < x8 then (k6 w9) else (bc (D_X12_goRule 129 w9) fun x11 w10 => if x11 = 0 then (k4 w10) else (bv (D_X12_lay 129 150 (16 * x8) w10) fun w12 => L_X12_round_68 x8 (J_X12_round_x85_1 k5 x8) (J_X12_round_x104_2 (L_X12_round_31 k4 k5 k6 n7) x8) FU 0 w12))
def J_X12_round_x48_3  : Wd → Option (Int32 × Wd) := fun w26 =>
  some ((-2), w26)
def J_X12_round_x85_4  : Int32 → Int32 → Wd → Option (Int32 × Wd) := fun x27 x28 w29 =>
  bd (wI w29 119 6 0) fun w30 => bv (D_X12_tell x28.toInt64 w30) fun w31 => some (x27, w31)
def J_X12_round_x110_5  : Wd → Option (Int32 × Wd) := fun w32 =>
  some ((-2), w32)
def D_X12_round  : Wd → Option (Int32 × Wd) := fun w =>
  bd (wI w 119 7 0) fun w1 => bv (D_X12_lay 120 129 0 w1) fun w2 => bv (D_X12_lay 129 150 0 w2) fun w3 => L_X12_round_31 J_X12_round_x48_3 J_X12_round_x85_4 J_X12_round_x110_5 FU 1 w3
set_option maxRecDepth 20000 in
theorem Q_X12_round_68 {l0 : Launch} {ρ : Nat → Nat} {cs : Nat → ClassId} {G : va_G} {X : Cx} (hρ : injN ρ) (hn : X.2.2.2.2.2.2.2.2.2.2.1 = 3) (h : Okx l0 ρ cs G X prog_14_method_79_code "SowingBoardsModel" 88) {rr : (Int32 × Wd)} (hR : ∀ pc L, decode prog_14_method_79_code pc = .ok (.ireturn, 1) → narrow .int (.int rr.1) = .int rr.1 → gG ρ cs G X pc L [.int rr.1] rr.2) {x13 : Int32} {k14 : Int32 → Wd → Option (Int32 × Wd)} (hk14 : ∀ (z2 : Int32) (w1 : Wd), k14 z2 w1 = some rr → gG ρ cs G X 85 [(0, .ref (ρ 119)), (1, .int x13), (2, .int z2)] [] w1) {k15 : Wd → Option (Int32 × Wd)} (hk15 : ∀ (w1 : Wd), k15 w1 = some rr → gG ρ cs G X 104 [(0, .ref (ρ 119)), (1, .int x13)] [] w1) : ∀ (n : Nat) (x17 : Int32) (w : Wd), L_X12_round_68 x13 k14 k15 n x17 w = some rr → gG ρ cs G X 68 [(0, .ref (ρ 119)), (1, .int x13), (2, .int x17)] [] w := by
  intro n
  induction n with
  | zero =>
    intro x17 w hD
    cases hD
  | succ n16 ih =>
    intro x17 w18 hD
    unfold L_X12_round_68 at hD
    refine g_iload_n h 2 t_X12_round_68 rfl ?_
    refine g_iload_n h 1 t_X12_round_69 rfl ?_
    refine g_icmp_ge (tgt := 104) h t_X12_round_70 (by decide) hD (fun hD => ?_) (fun hD => ?_)
    · refine g_loc (L' := [(0, .ref (ρ 119)), (1, .int x13)]) h [0, 1] rfl ?_
      exact hk15 _ hD
    · refine g_aload_n h 0 t_X12_round_73 rfl ?_
      refine g_iload_n h 2 t_X12_round_74 rfl ?_
      refine g_iload_n h 1 t_X12_round_75 rfl ?_
      refine g_callVI h 119 (As := [.int x17, .int x13]) (st := []) my_X12_isGone mi_X12_isGone ml_12_348 rfl (by decide) rfl rfl rfl (Nat.le_of_ble_eq_true rfl) (by decide) t_X12_round_76 hD (fun _ _ e => S_X12_isGone hρ  e) (fun x20 w19 hD => ?_)
      refine g_if_ne (tgt := 85) h t_X12_round_79 (by decide) hD (fun hD => ?_) (fun hD => ?_)
      · refine g_loc (L' := [(0, .ref (ρ 119)), (1, .int x13), (2, .int x17)]) h [0, 1, 2] rfl ?_
        exact hk14 x17 _ hD
      · refine g_goto (tgt := 98) h t_X12_round_82 (by decide) ?_
        obtain ⟨x21, ex21, hD⟩ := bd_ex hD
        refine g_iinc (v := x21) (L' := [(2, .int x21), (0, .ref (ρ 119)), (1, .int x13)]) h hn t_X12_round_98 (k := 2) rfl (by rw [ex21]; rfl) (by decide) rfl ?_
        refine g_goto (tgt := 68) h t_X12_round_101 (by decide) ?_
        refine g_loc (L' := [(0, .ref (ρ 119)), (1, .int x13), (2, .int x21)]) h [1, 2, 0] rfl ?_
        exact ih x21 _ hD
set_option maxRecDepth 20000 in
theorem Q_X12_round_31 {l0 : Launch} {ρ : Nat → Nat} {cs : Nat → ClassId} {G : va_G} {X : Cx} (hρ : injN ρ) (hn : X.2.2.2.2.2.2.2.2.2.2.1 = 3) (h : Okx l0 ρ cs G X prog_14_method_79_code "SowingBoardsModel" 88) {rr : (Int32 × Wd)} (hR : ∀ pc L, decode prog_14_method_79_code pc = .ok (.ireturn, 1) → narrow .int (.int rr.1) = .int rr.1 → gG ρ cs G X pc L [.int rr.1] rr.2)  {k4 : Wd → Option (Int32 × Wd)} (hk4 : ∀ (w1 : Wd), k4 w1 = some rr → gG ρ cs G X 48 [] [] w1) {k5 : Int32 → Int32 → Wd → Option (Int32 × Wd)} (hk5 : ∀ (z1 : Int32) (z2 : Int32) (w1 : Wd), k5 z1 z2 w1 = some rr → gG ρ cs G X 85 [(0, .ref (ρ 119)), (1, .int z1), (2, .int z2)] [] w1) {k6 : Wd → Option (Int32 × Wd)} (hk6 : ∀ (w1 : Wd), k6 w1 = some rr → gG ρ cs G X 110 [] [] w1) : ∀ (n : Nat) (x8 : Int32) (w : Wd), L_X12_round_31 k4 k5 k6 n x8 w = some rr → gG ρ cs G X 31 [(0, .ref (ρ 119)), (1, .int x8)] [] w := by
  intro n
  induction n with
  | zero =>
    intro x8 w hD
    cases hD
  | succ n7 ih =>
    intro x8 w9 hD
    unfold L_X12_round_31 at hD
    refine g_iload_n h 1 t_X12_round_31 rfl ?_
    refine g_bipush (v := 60) h t_X12_round_32 (by decide) ?_
    refine g_icmp_gt (tgt := 110) h t_X12_round_34 (by decide) hD (fun hD => ?_) (fun hD => ?_)
    · refine g_loc (L' := []) h [] rfl ?_
      exact hk6 _ hD
    · refine g_aload_n h 0 t_X12_round_37 rfl ?_
      refine g_aload_n h 0 t_X12_round_38 rfl ?_
      refine g_getR h 119 25 129 fl_12_46 rfl (by decide) rfl t_X12_round_39 ?_
      refine g_callVI h 119 (As := [.ref (ρ 129)]) (st := []) my_X12_goRule mi_X12_goRule ml_12_289 rfl (by decide) rfl rfl rfl (Nat.le_of_ble_eq_true rfl) (by decide) t_X12_round_42 hD (fun _ _ e => S_X12_goRule hρ (by decide) e) (fun x11 w10 hD => ?_)
      refine g_if_ne (tgt := 51) h t_X12_round_45 (by decide) hD (fun hD => ?_) (fun hD => ?_)
      · refine g_aload_n h 0 t_X12_round_51 rfl ?_
        refine g_getR h 119 25 129 fl_12_46 rfl (by decide) rfl t_X12_round_52 ?_
        refine g_aload_n h 0 t_X12_round_55 rfl ?_
        refine g_getR h 119 39 150 fl_12_75 rfl (by decide) rfl t_X12_round_56 ?_
        refine g_bipush (v := 16) h t_X12_round_59 (by decide) ?_
        refine g_iload_n h 1 t_X12_round_61 rfl ?_
        refine g_imul h t_X12_round_62 ?_
        refine g_callSV h (As := [.ref (ρ 129), .ref (ρ 150), .int (16 * x8)]) (st := []) my_X12_lay ms_X12_lay ml_12_256 rfl rfl (Nat.le_of_ble_eq_true rfl) (by decide) t_X12_round_63 hD (fun _ e => S_X12_lay hρ (by decide) (by decide) e) (fun w12 hD => ?_)
        refine g_iconst (v := 0) h t_X12_round_66 (by decide) ?_
        refine g_istore_n (L' := [(2, .int 0), (0, .ref (ρ 119)), (1, .int x8)]) h hn t_X12_round_67 rfl (by decide) rfl ?_
        refine g_loc (L' := [(0, .ref (ρ 119)), (1, .int x8), (2, .int 0)]) h [1, 2, 0] rfl ?_
        refine Q_X12_round_68 hρ hn h hR  ?_ ?_ _ _ _ hD
        · intro x22 w23 hD
          unfold J_X12_round_x85_1 at hD
          refine g_loc (L' := [(0, .ref (ρ 119)), (1, .int x8), (2, .int x22)]) h [0, 1, 2] rfl ?_
          exact hk5 x8 x22 _ hD
        · intro w24 hD
          unfold J_X12_round_x104_2 at hD
          obtain ⟨x25, ex25, hD⟩ := bd_ex hD
          refine g_iinc (v := x25) (L' := [(1, .int x25), (0, .ref (ρ 119))]) h hn t_X12_round_104 (k := 1) rfl (by rw [ex25]; rfl) (by decide) rfl ?_
          refine g_goto (tgt := 31) h t_X12_round_107 (by decide) ?_
          refine g_loc (L' := [(0, .ref (ρ 119)), (1, .int x25)]) h [1, 0] rfl ?_
          exact ih x25 _ hD
      · refine g_loc (L' := []) h [] rfl ?_
        exact hk4 _ hD
set_option maxRecDepth 20000 in
theorem S_X12_round {l0 : Launch} {ρ : Nat → Nat} {cs : Nat → ClassId} {G : va_G} (hρ : injN ρ)  {w : Wd} {rr : (Int32 × Wd)} (hD : D_X12_round w = some rr) : CtI l0 ρ cs G y_X12_round prog_14_method_79_code 3 .int 88 [.ref (ρ 119)] w rr.1 rr.2 := by
  refine ctI_of hρ (by decide) (Nat.le_of_ble_eq_true rfl) (fun X hn h hR => ?_)
  unfold D_X12_round at hD
  show gG ρ cs G X 0 [(0, .ref (ρ 119))] [] w
  refine g_aload_n h 0 t_X12_round_0 rfl ?_
  refine g_iconst (v := 0) h t_X12_round_1 (by decide) ?_
  refine g_putI h 119 7 fl_12_109 fp_12_7 rfl (by decide) rfl t_X12_round_2 hD (fun w1 hD => ?_)
  refine g_aload_n h 0 t_X12_round_5 rfl ?_
  refine g_getR h 119 0 120 fl_12_9 rfl (by decide) rfl t_X12_round_6 ?_
  refine g_aload_n h 0 t_X12_round_9 rfl ?_
  refine g_getR h 119 25 129 fl_12_46 rfl (by decide) rfl t_X12_round_10 ?_
  refine g_iconst (v := 0) h t_X12_round_13 (by decide) ?_
  refine g_callSV h (As := [.ref (ρ 120), .ref (ρ 129), .int 0]) (st := []) my_X12_lay ms_X12_lay ml_12_256 rfl rfl (Nat.le_of_ble_eq_true rfl) (by decide) t_X12_round_14 hD (fun _ e => S_X12_lay hρ (by decide) (by decide) e) (fun w2 hD => ?_)
  refine g_aload_n h 0 t_X12_round_17 rfl ?_
  refine g_getR h 119 25 129 fl_12_46 rfl (by decide) rfl t_X12_round_18 ?_
  refine g_aload_n h 0 t_X12_round_21 rfl ?_
  refine g_getR h 119 39 150 fl_12_75 rfl (by decide) rfl t_X12_round_22 ?_
  refine g_iconst (v := 0) h t_X12_round_25 (by decide) ?_
  refine g_callSV h (As := [.ref (ρ 129), .ref (ρ 150), .int 0]) (st := []) my_X12_lay ms_X12_lay ml_12_256 rfl rfl (Nat.le_of_ble_eq_true rfl) (by decide) t_X12_round_26 hD (fun _ e => S_X12_lay hρ (by decide) (by decide) e) (fun w3 hD => ?_)
  refine g_iconst (v := 1) h t_X12_round_29 (by decide) ?_
  refine g_istore_n (L' := [(1, .int 1), (0, .ref (ρ 119))]) h hn t_X12_round_30 rfl (by decide) rfl ?_
  refine g_loc (L' := [(0, .ref (ρ 119)), (1, .int 1)]) h [1, 0] rfl ?_
  refine Q_X12_round_31 hρ hn h hR  ?_ ?_ ?_ _ _ _ hD
  · intro w26 hD
    unfold J_X12_round_x48_3 at hD
    refine g_bipush (v := (-2)) h t_X12_round_48 (by decide) ?_
    obtain rfl := Option.some.inj hD
    exact hR _ _ t_X12_round_50 rfl
  · intro x27 x28 w29 hD
    unfold J_X12_round_x85_4 at hD
    refine g_aload_n h 0 t_X12_round_85 rfl ?_
    refine g_iconst (v := 0) h t_X12_round_86 (by decide) ?_
    refine g_putI h 119 6 fl_12_112 fp_12_6 rfl (by decide) rfl t_X12_round_87 hD (fun w30 hD => ?_)
    refine g_aload_n h 0 t_X12_round_90 rfl ?_
    refine g_iload_n h 2 t_X12_round_91 rfl ?_
    refine g_i2l h t_X12_round_92 ?_
    refine g_callVV h 119 (As := [.long x28.toInt64]) (st := []) my_X12_tell mi_X12_tell ml_12_260 rfl (by decide) rfl rfl rfl (Nat.le_of_ble_eq_true rfl) (by decide) t_X12_round_93 hD (fun _ e => S_X12_tell hρ  e) (fun w31 hD => ?_)
    refine g_iload_n h 1 t_X12_round_96 rfl ?_
    obtain rfl := Option.some.inj hD
    exact hR _ _ t_X12_round_97 rfl
  · intro w32 hD
    unfold J_X12_round_x110_5 at hD
    refine g_bipush (v := (-2)) h t_X12_round_110 (by decide) ?_
    obtain rfl := Option.some.inj hD
    exact hR _ _ t_X12_round_112 rfl
def L_X12_fullest_31 (x5 : Int32) (k6 : Wd → Option (Int32 × Wd)) : Nat → Int32 → Wd → Option (Int32 × Wd)
  | 0, _, _ => none
  | n7 + 1, x8, w9 =>
    if x5 ≤ x8 then (k6 w9) else (bc (D_X12_goRule 129 w9) fun x11 w10 => bd (x8 + 1) fun x12 => L_X12_fullest_31 x5 k6 n7 x12 w10)
def J_X12_fullest_j83_1 (r55 : Int32 → Int32 → Wd → Option (Int32 × Wd)) (x17 : Int32) : Int32 → Wd → Option (Int32 × Wd) := fun x21 w22 =>
  bd (x17 + 1) fun x24 => r55 x21 x24 w22
def L_X12_fullest_55 (k14 : Int32 → Wd → Option (Int32 × Wd)) : Nat → Int32 → Int32 → Wd → Option (Int32 × Wd)
  | 0, _, _, _ => none
  | n15 + 1, x16, x17, w18 =>
    bc (D_X12_pits w18) fun x20 w19 => if x20 ≤ x17 then (k14 x16 w19) else (if ib x17 16 then (if ib x16 16 then (bd (J_X12_fullest_j83_1 (L_X12_fullest_55 k14 n15) x17) fun k23 => if (w19.1 129 x17.toNatClampNeg) ≤ (w19.1 129 x16.toNatClampNeg) then (k23 x16 w19) else (k23 x17 w19)) else none) else none)
def J_X12_fullest_x90_2  : Int32 → Wd → Option (Int32 × Wd) := fun x25 w26 =>
  bd (wI w26 119 6 0) fun w27 => if ib x25 16 then (bv (D_X12_tell ((w27.1 129 x25.toNatClampNeg).toInt64) w27) fun w28 => some (x25, w28)) else none
def J_X12_fullest_x51_3  : Wd → Option (Int32 × Wd) := fun w13 =>
  L_X12_fullest_55 J_X12_fullest_x90_2 FU 0 1 w13
def D_X12_fullest (p1 : Int32) : Wd → Option (Int32 × Wd) := fun w =>
  bd (wI w 119 7 0) fun w1 => bc (D_X12_in p1 0 60 w1) fun x3 w2 => if x3 = 0 then (some ((-1), w2)) else (bv (D_X12_lay 120 129 0 w2) fun w4 => L_X12_fullest_31 p1 J_X12_fullest_x51_3 FU 0 w4)
set_option maxRecDepth 20000 in
theorem Q_X12_fullest_31 {l0 : Launch} {ρ : Nat → Nat} {cs : Nat → ClassId} {G : va_G} {X : Cx} (hρ : injN ρ) (hn : X.2.2.2.2.2.2.2.2.2.2.1 = 4) (h : Okx l0 ρ cs G X prog_14_method_80_code "SowingBoardsModel" 88) {rr : (Int32 × Wd)} (hR : ∀ pc L, decode prog_14_method_80_code pc = .ok (.ireturn, 1) → narrow .int (.int rr.1) = .int rr.1 → gG ρ cs G X pc L [.int rr.1] rr.2) {x5 : Int32} {k6 : Wd → Option (Int32 × Wd)} (hk6 : ∀ (w1 : Wd), k6 w1 = some rr → gG ρ cs G X 51 [(0, .ref (ρ 119))] [] w1) : ∀ (n : Nat) (x8 : Int32) (w : Wd), L_X12_fullest_31 x5 k6 n x8 w = some rr → gG ρ cs G X 31 [(0, .ref (ρ 119)), (1, .int x5), (2, .int x8)] [] w := by
  intro n
  induction n with
  | zero =>
    intro x8 w hD
    cases hD
  | succ n7 ih =>
    intro x8 w9 hD
    unfold L_X12_fullest_31 at hD
    refine g_iload_n h 2 t_X12_fullest_31 rfl ?_
    refine g_iload_n h 1 t_X12_fullest_32 rfl ?_
    refine g_icmp_ge (tgt := 51) h t_X12_fullest_33 (by decide) hD (fun hD => ?_) (fun hD => ?_)
    · refine g_loc (L' := [(0, .ref (ρ 119))]) h [0] rfl ?_
      exact hk6 _ hD
    · refine g_aload_n h 0 t_X12_fullest_36 rfl ?_
      refine g_aload_n h 0 t_X12_fullest_37 rfl ?_
      refine g_getR h 119 25 129 fl_12_46 rfl (by decide) rfl t_X12_fullest_38 ?_
      refine g_callVI h 119 (As := [.ref (ρ 129)]) (st := []) my_X12_goRule mi_X12_goRule ml_12_289 rfl (by decide) rfl rfl rfl (Nat.le_of_ble_eq_true rfl) (by decide) t_X12_fullest_41 hD (fun _ _ e => S_X12_goRule hρ (by decide) e) (fun x11 w10 hD => ?_)
      refine g_pop h t_X12_fullest_44 rfl ?_
      obtain ⟨x12, ex12, hD⟩ := bd_ex hD
      refine g_iinc (v := x12) (L' := [(2, .int x12), (0, .ref (ρ 119)), (1, .int x5)]) h hn t_X12_fullest_45 (k := 2) rfl (by rw [ex12]; rfl) (by decide) rfl ?_
      refine g_goto (tgt := 31) h t_X12_fullest_48 (by decide) ?_
      refine g_loc (L' := [(0, .ref (ρ 119)), (1, .int x5), (2, .int x12)]) h [1, 2, 0] rfl ?_
      exact ih x12 _ hD
set_option maxRecDepth 20000 in
theorem Q_X12_fullest_55 {l0 : Launch} {ρ : Nat → Nat} {cs : Nat → ClassId} {G : va_G} {X : Cx} (hρ : injN ρ) (hn : X.2.2.2.2.2.2.2.2.2.2.1 = 4) (h : Okx l0 ρ cs G X prog_14_method_80_code "SowingBoardsModel" 88) {rr : (Int32 × Wd)} (hR : ∀ pc L, decode prog_14_method_80_code pc = .ok (.ireturn, 1) → narrow .int (.int rr.1) = .int rr.1 → gG ρ cs G X pc L [.int rr.1] rr.2)  {k14 : Int32 → Wd → Option (Int32 × Wd)} (hk14 : ∀ (z2 : Int32) (w1 : Wd), k14 z2 w1 = some rr → gG ρ cs G X 90 [(0, .ref (ρ 119)), (2, .int z2)] [] w1) : ∀ (n : Nat) (x16 : Int32) (x17 : Int32) (w : Wd), L_X12_fullest_55 k14 n x16 x17 w = some rr → gG ρ cs G X 55 [(0, .ref (ρ 119)), (2, .int x16), (3, .int x17)] [] w := by
  intro n
  induction n with
  | zero =>
    intro x16 x17 w hD
    cases hD
  | succ n15 ih =>
    intro x16 x17 w18 hD
    unfold L_X12_fullest_55 at hD
    refine g_iload_n h 2 t_X12_fullest_55 rfl ?_
    refine g_aload_n h 0 t_X12_fullest_56 rfl ?_
    refine g_callVI h 119 (As := []) (st := [.int x17]) my_X12_pits mi_X12_pits ml_12_214 rfl (by decide) rfl rfl rfl (Nat.le_of_ble_eq_true rfl) (by decide) t_X12_fullest_57 hD (fun _ _ e => S_X12_pits hρ  e) (fun x20 w19 hD => ?_)
    refine g_icmp_ge (tgt := 90) h t_X12_fullest_60 (by decide) hD (fun hD => ?_) (fun hD => ?_)
    · refine g_loc (L' := [(0, .ref (ρ 119)), (2, .int x16)]) h [0, 1] rfl ?_
      exact hk14 x16 _ hD
    · refine g_aload_n h 0 t_X12_fullest_63 rfl ?_
      refine g_getR h 119 25 129 fl_12_46 rfl (by decide) rfl t_X12_fullest_64 ?_
      refine g_iload_n h 2 t_X12_fullest_67 rfl ?_
      refine g_iald h 129 rfl (by decide) t_X12_fullest_68 hD (fun hD => ?_)
      refine g_aload_n h 0 t_X12_fullest_69 rfl ?_
      refine g_getR h 119 25 129 fl_12_46 rfl (by decide) rfl t_X12_fullest_70 ?_
      refine g_iload_n h 1 t_X12_fullest_73 rfl ?_
      refine g_iald h 129 rfl (by decide) t_X12_fullest_74 hD (fun hD => ?_)
      refine g_join (P := fun k23 => ∀ (x21 : Int32) (w22 : Wd), k23 x21 w22 = some rr → gG ρ cs G X 83 [(0, .ref (ρ 119)), (3, .int x17)] [.int x21] w22) hD ?_ (fun k23 hk23 hD => ?_)
      · intro x21 w22 hD
        unfold J_X12_fullest_j83_1 at hD
        refine g_istore_n (L' := [(2, .int x21), (0, .ref (ρ 119)), (3, .int x17)]) h hn t_X12_fullest_83 rfl (by decide) rfl ?_
        obtain ⟨x24, ex24, hD⟩ := bd_ex hD
        refine g_iinc (v := x24) (L' := [(3, .int x24), (2, .int x21), (0, .ref (ρ 119))]) h hn t_X12_fullest_84 (k := 2) rfl (by rw [ex24]; rfl) (by decide) rfl ?_
        refine g_goto (tgt := 55) h t_X12_fullest_87 (by decide) ?_
        refine g_loc (L' := [(0, .ref (ρ 119)), (2, .int x21), (3, .int x24)]) h [2, 1, 0] rfl ?_
        exact ih x21 x24 _ hD
      · refine g_icmp_le (tgt := 82) h t_X12_fullest_75 (by decide) hD (fun hD => ?_) (fun hD => ?_)
        · refine g_iload_n h 1 t_X12_fullest_82 rfl ?_
          refine g_loc (L' := [(0, .ref (ρ 119)), (3, .int x17)]) h [0, 2] rfl ?_
          exact hk23 x16 _ hD
        · refine g_iload_n h 2 t_X12_fullest_78 rfl ?_
          refine g_goto (tgt := 83) h t_X12_fullest_79 (by decide) ?_
          refine g_loc (L' := [(0, .ref (ρ 119)), (3, .int x17)]) h [0, 2] rfl ?_
          exact hk23 x17 _ hD
set_option maxRecDepth 20000 in
theorem S_X12_fullest {l0 : Launch} {ρ : Nat → Nat} {cs : Nat → ClassId} {G : va_G} (hρ : injN ρ) {p1 : Int32} {w : Wd} {rr : (Int32 × Wd)} (hD : D_X12_fullest p1 w = some rr) : CtI l0 ρ cs G y_X12_fullest prog_14_method_80_code 4 .int 88 [.ref (ρ 119), .int p1] w rr.1 rr.2 := by
  refine ctI_of hρ (by decide) (Nat.le_of_ble_eq_true rfl) (fun X hn h hR => ?_)
  unfold D_X12_fullest at hD
  show gG ρ cs G X 0 [(0, .ref (ρ 119)), (1, .int p1)] [] w
  refine g_aload_n h 0 t_X12_fullest_0 rfl ?_
  refine g_iconst (v := 0) h t_X12_fullest_1 (by decide) ?_
  refine g_putI h 119 7 fl_12_109 fp_12_7 rfl (by decide) rfl t_X12_fullest_2 hD (fun w1 hD => ?_)
  refine g_iload_n h 1 t_X12_fullest_5 rfl ?_
  refine g_iconst (v := 0) h t_X12_fullest_6 (by decide) ?_
  refine g_bipush (v := 60) h t_X12_fullest_7 (by decide) ?_
  refine g_callSI h (As := [.int p1, .int 0, .int 60]) (st := []) my_X12_in ms_X12_in ml_12_118 rfl rfl (Nat.le_of_ble_eq_true rfl) (by decide) t_X12_fullest_9 hD (fun _ _ e => S_X12_in hρ  e) (fun x3 w2 hD => ?_)
  refine g_if_ne (tgt := 17) h t_X12_fullest_12 (by decide) hD (fun hD => ?_) (fun hD => ?_)
  · refine g_aload_n h 0 t_X12_fullest_17 rfl ?_
    refine g_getR h 119 0 120 fl_12_9 rfl (by decide) rfl t_X12_fullest_18 ?_
    refine g_aload_n h 0 t_X12_fullest_21 rfl ?_
    refine g_getR h 119 25 129 fl_12_46 rfl (by decide) rfl t_X12_fullest_22 ?_
    refine g_iconst (v := 0) h t_X12_fullest_25 (by decide) ?_
    refine g_callSV h (As := [.ref (ρ 120), .ref (ρ 129), .int 0]) (st := []) my_X12_lay ms_X12_lay ml_12_256 rfl rfl (Nat.le_of_ble_eq_true rfl) (by decide) t_X12_fullest_26 hD (fun _ e => S_X12_lay hρ (by decide) (by decide) e) (fun w4 hD => ?_)
    refine g_iconst (v := 0) h t_X12_fullest_29 (by decide) ?_
    refine g_istore_n (L' := [(2, .int 0), (0, .ref (ρ 119)), (1, .int p1)]) h hn t_X12_fullest_30 rfl (by decide) rfl ?_
    refine g_loc (L' := [(0, .ref (ρ 119)), (1, .int p1), (2, .int 0)]) h [1, 2, 0] rfl ?_
    refine Q_X12_fullest_31 hρ hn h hR  ?_ _ _ _ hD
    · intro w13 hD
      unfold J_X12_fullest_x51_3 at hD
      refine g_iconst (v := 0) h t_X12_fullest_51 (by decide) ?_
      refine g_istore_n (L' := [(2, .int 0), (0, .ref (ρ 119))]) h hn t_X12_fullest_52 rfl (by decide) rfl ?_
      refine g_iconst (v := 1) h t_X12_fullest_53 (by decide) ?_
      refine g_istore_n (L' := [(3, .int 1), (2, .int 0), (0, .ref (ρ 119))]) h hn t_X12_fullest_54 rfl (by decide) rfl ?_
      refine g_loc (L' := [(0, .ref (ρ 119)), (2, .int 0), (3, .int 1)]) h [2, 1, 0] rfl ?_
      refine Q_X12_fullest_55 hρ hn h hR  ?_ _ _ _ _ hD
      · intro x25 w26 hD
        unfold J_X12_fullest_x90_2 at hD
        refine g_aload_n h 0 t_X12_fullest_90 rfl ?_
        refine g_iconst (v := 0) h t_X12_fullest_91 (by decide) ?_
        refine g_putI h 119 6 fl_12_112 fp_12_6 rfl (by decide) rfl t_X12_fullest_92 hD (fun w27 hD => ?_)
        refine g_aload_n h 0 t_X12_fullest_95 rfl ?_
        refine g_aload_n h 0 t_X12_fullest_96 rfl ?_
        refine g_getR h 119 25 129 fl_12_46 rfl (by decide) rfl t_X12_fullest_97 ?_
        refine g_iload_n h 1 t_X12_fullest_100 rfl ?_
        refine g_iald h 129 rfl (by decide) t_X12_fullest_101 hD (fun hD => ?_)
        refine g_i2l h t_X12_fullest_102 ?_
        refine g_callVV h 119 (As := [.long ((w27.1 129 x25.toNatClampNeg).toInt64)]) (st := []) my_X12_tell mi_X12_tell ml_12_260 rfl (by decide) rfl rfl rfl (Nat.le_of_ble_eq_true rfl) (by decide) t_X12_fullest_103 hD (fun _ e => S_X12_tell hρ  e) (fun w28 hD => ?_)
        refine g_iload_n h 1 t_X12_fullest_106 rfl ?_
        obtain rfl := Option.some.inj hD
        exact hR _ _ t_X12_fullest_107 rfl
  · refine g_iconst (v := (-1)) h t_X12_fullest_15 (by decide) ?_
    obtain rfl := Option.some.inj hD
    exact hR _ _ t_X12_fullest_16 rfl
def L_X12_alone_19 (x4 : Int32) (k5 : Wd → Option (Int32 × Wd)) : Nat → Int32 → Wd → Option (Int32 × Wd)
  | 0, _, _ => none
  | n6 + 1, x7, w8 =>
    if 24 ≤ x7 then (k5 w8) else (if ib x7 24 then bd (wI w8 151 x7.toNatClampNeg 0) (fun w9 => bd (x7 + 1) fun x10 => L_X12_alone_19 x4 k5 n6 x10 w9) else none)
def L_X12_alone_53 (x18 : Int32) (x19 : Int32) (x20 : Int32) (k21 : Int32 → Wd → Option (Int32 × Wd)) : Nat → Int32 → Wd → Option (Int32 × Wd)
  | 0, _, _ => none
  | n22 + 1, x23, w24 =>
    if ib x23 24 then (if (w24.1 151 x23.toNatClampNeg) ≤ 0 then (k21 x23 w24) else (if ib x23 24 then (if ib x23 24 then bd (wI w24 151 x23.toNatClampNeg ((w24.1 151 x23.toNatClampNeg) - 1)) (fun w25 => bd (x23 + 1) fun x26 => L_X12_alone_53 x18 x19 x20 k21 n22 x26 w25) else none) else none)) else none
def J_X12_alone_x80_1 (r45 : Int32 → Int32 → Wd → Option (Int32 × Wd)) (x15 : Int32) (x16 : Int32) : Int32 → Wd → Option (Int32 × Wd) := fun x27 w28 =>
  if ib x27 24 then bd (wI w28 151 x27.toNatClampNeg x27) (fun w29 => bd (imax x15 x27) fun x30 => bd (x16 + 1) fun x31 => r45 x30 x31 w29) else none
def L_X12_alone_45 (x12 : Int32) (k13 : Int32 → Wd → Option (Int32 × Wd)) : Nat → Int32 → Int32 → Wd → Option (Int32 × Wd)
  | 0, _, _, _ => none
  | n14 + 1, x15, x16, w17 =>
    if x12 ≤ x16 then (k13 x15 w17) else (L_X12_alone_53 x12 x15 x16 (J_X12_alone_x80_1 (L_X12_alone_45 x12 k13 n14) x15 x16) FU 1 w17)
def L_X12_alone_109 (x35 : Int32) (k36 : Wd → Option (Int32 × Wd)) : Nat → Int32 → Wd → Option (Int32 × Wd)
  | 0, _, _ => none
  | n37 + 1, x38, w39 =>
    if x35 < x38 then (k36 w39) else (if ib x38 24 then (bv (D_X12_tell ((w39.1 151 x38.toNatClampNeg).toInt64) w39) fun w40 => bd (x38 + 1) fun x41 => L_X12_alone_109 x35 k36 n37 x41 w40) else none)
def J_X12_alone_x131_2 (x32 : Int32) : Wd → Option (Int32 × Wd) := fun w42 =>
  some (x32, w42)
def J_X12_alone_x102_3  : Int32 → Wd → Option (Int32 × Wd) := fun x32 w33 =>
  bd (wI w33 119 6 0) fun w34 => L_X12_alone_109 x32 (J_X12_alone_x131_2 x32) FU 1 w34
def J_X12_alone_x41_4 (p1 : Int32) : Wd → Option (Int32 × Wd) := fun w11 =>
  L_X12_alone_45 p1 J_X12_alone_x102_3 FU 0 0 w11
def D_X12_alone (p1 : Int32) : Wd → Option (Int32 × Wd) := fun w =>
  bd (wI w 119 7 0) fun w1 => bc (D_X12_in p1 0 99 w1) fun x3 w2 => if x3 = 0 then (some ((-1), w2)) else (L_X12_alone_19 p1 (J_X12_alone_x41_4 p1) FU 0 w2)
set_option maxRecDepth 20000 in
theorem Q_X12_alone_19 {l0 : Launch} {ρ : Nat → Nat} {cs : Nat → ClassId} {G : va_G} {X : Cx} (hρ : injN ρ) (hn : X.2.2.2.2.2.2.2.2.2.2.1 = 5) (h : Okx l0 ρ cs G X prog_14_method_81_code "SowingBoardsModel" 1) {rr : (Int32 × Wd)} (hR : ∀ pc L, decode prog_14_method_81_code pc = .ok (.ireturn, 1) → narrow .int (.int rr.1) = .int rr.1 → gG ρ cs G X pc L [.int rr.1] rr.2) {x4 : Int32} {k5 : Wd → Option (Int32 × Wd)} (hk5 : ∀ (w1 : Wd), k5 w1 = some rr → gG ρ cs G X 41 [(0, .ref (ρ 119)), (1, .int x4)] [] w1) : ∀ (n : Nat) (x7 : Int32) (w : Wd), L_X12_alone_19 x4 k5 n x7 w = some rr → gG ρ cs G X 19 [(0, .ref (ρ 119)), (1, .int x4), (2, .int x7)] [] w := by
  intro n
  induction n with
  | zero =>
    intro x7 w hD
    cases hD
  | succ n6 ih =>
    intro x7 w8 hD
    unfold L_X12_alone_19 at hD
    refine g_iload_n h 2 t_X12_alone_19 rfl ?_
    refine g_aload_n h 0 t_X12_alone_20 rfl ?_
    refine g_getR h 119 40 151 fl_12_78 rfl (by decide) rfl t_X12_alone_21 ?_
    refine g_alen (v := 24) h 151 rfl (by decide) (by decide) t_X12_alone_24 ?_
    refine g_icmp_ge (tgt := 41) h t_X12_alone_25 (by decide) hD (fun hD => ?_) (fun hD => ?_)
    · refine g_loc (L' := [(0, .ref (ρ 119)), (1, .int x4)]) h [0, 1] rfl ?_
      exact hk5 _ hD
    · refine g_aload_n h 0 t_X12_alone_28 rfl ?_
      refine g_getR h 119 40 151 fl_12_78 rfl (by decide) rfl t_X12_alone_29 ?_
      refine g_iload_n h 2 t_X12_alone_32 rfl ?_
      refine g_iconst (v := 0) h t_X12_alone_33 (by decide) ?_
      refine g_iast h 151 rfl (by decide) t_X12_alone_34 hD (fun w9 hD => ?_)
      obtain ⟨x10, ex10, hD⟩ := bd_ex hD
      refine g_iinc (v := x10) (L' := [(2, .int x10), (0, .ref (ρ 119)), (1, .int x4)]) h hn t_X12_alone_35 (k := 2) rfl (by rw [ex10]; rfl) (by decide) rfl ?_
      refine g_goto (tgt := 19) h t_X12_alone_38 (by decide) ?_
      refine g_loc (L' := [(0, .ref (ρ 119)), (1, .int x4), (2, .int x10)]) h [1, 2, 0] rfl ?_
      exact ih x10 _ hD
set_option maxRecDepth 20000 in
theorem Q_X12_alone_53 {l0 : Launch} {ρ : Nat → Nat} {cs : Nat → ClassId} {G : va_G} {X : Cx} (hρ : injN ρ) (hn : X.2.2.2.2.2.2.2.2.2.2.1 = 5) (h : Okx l0 ρ cs G X prog_14_method_81_code "SowingBoardsModel" 1) {rr : (Int32 × Wd)} (hR : ∀ pc L, decode prog_14_method_81_code pc = .ok (.ireturn, 1) → narrow .int (.int rr.1) = .int rr.1 → gG ρ cs G X pc L [.int rr.1] rr.2) {x18 : Int32} {x19 : Int32} {x20 : Int32} {k21 : Int32 → Wd → Option (Int32 × Wd)} (hk21 : ∀ (z4 : Int32) (w1 : Wd), k21 z4 w1 = some rr → gG ρ cs G X 80 [(0, .ref (ρ 119)), (1, .int x18), (2, .int x19), (3, .int x20), (4, .int z4)] [] w1) : ∀ (n : Nat) (x23 : Int32) (w : Wd), L_X12_alone_53 x18 x19 x20 k21 n x23 w = some rr → gG ρ cs G X 53 [(0, .ref (ρ 119)), (1, .int x18), (2, .int x19), (3, .int x20), (4, .int x23)] [] w := by
  intro n
  induction n with
  | zero =>
    intro x23 w hD
    cases hD
  | succ n22 ih =>
    intro x23 w24 hD
    unfold L_X12_alone_53 at hD
    refine g_aload_n h 0 t_X12_alone_53 rfl ?_
    refine g_getR h 119 40 151 fl_12_78 rfl (by decide) rfl t_X12_alone_54 ?_
    refine g_iload h 4 t_X12_alone_57 rfl ?_
    refine g_iald h 151 rfl (by decide) t_X12_alone_59 hD (fun hD => ?_)
    refine g_if_le (tgt := 80) h t_X12_alone_60 (by decide) hD (fun hD => ?_) (fun hD => ?_)
    · refine g_loc (L' := [(0, .ref (ρ 119)), (1, .int x18), (2, .int x19), (3, .int x20), (4, .int x23)]) h [0, 1, 2, 3, 4] rfl ?_
      exact hk21 x23 _ hD
    · refine g_aload_n h 0 t_X12_alone_63 rfl ?_
      refine g_getR h 119 40 151 fl_12_78 rfl (by decide) rfl t_X12_alone_64 ?_
      refine g_iload h 4 t_X12_alone_67 rfl ?_
      refine g_dup2 h t_X12_alone_69 rfl rfl ?_
      refine g_iald h 151 rfl (by decide) t_X12_alone_70 hD (fun hD => ?_)
      refine g_iconst (v := 1) h t_X12_alone_71 (by decide) ?_
      refine g_isub h t_X12_alone_72 ?_
      refine g_iast h 151 rfl (by decide) t_X12_alone_73 hD (fun w25 hD => ?_)
      obtain ⟨x26, ex26, hD⟩ := bd_ex hD
      refine g_iinc (v := x26) (L' := [(4, .int x26), (0, .ref (ρ 119)), (1, .int x18), (2, .int x19), (3, .int x20)]) h hn t_X12_alone_74 (k := 4) rfl (by rw [ex26]; rfl) (by decide) rfl ?_
      refine g_goto (tgt := 53) h t_X12_alone_77 (by decide) ?_
      refine g_loc (L' := [(0, .ref (ρ 119)), (1, .int x18), (2, .int x19), (3, .int x20), (4, .int x26)]) h [1, 2, 3, 4, 0] rfl ?_
      exact ih x26 _ hD
set_option maxRecDepth 20000 in
theorem Q_X12_alone_45 {l0 : Launch} {ρ : Nat → Nat} {cs : Nat → ClassId} {G : va_G} {X : Cx} (hρ : injN ρ) (hn : X.2.2.2.2.2.2.2.2.2.2.1 = 5) (h : Okx l0 ρ cs G X prog_14_method_81_code "SowingBoardsModel" 1) {rr : (Int32 × Wd)} (hR : ∀ pc L, decode prog_14_method_81_code pc = .ok (.ireturn, 1) → narrow .int (.int rr.1) = .int rr.1 → gG ρ cs G X pc L [.int rr.1] rr.2) {x12 : Int32} {k13 : Int32 → Wd → Option (Int32 × Wd)} (hk13 : ∀ (z2 : Int32) (w1 : Wd), k13 z2 w1 = some rr → gG ρ cs G X 102 [(0, .ref (ρ 119)), (2, .int z2)] [] w1) : ∀ (n : Nat) (x15 : Int32) (x16 : Int32) (w : Wd), L_X12_alone_45 x12 k13 n x15 x16 w = some rr → gG ρ cs G X 45 [(0, .ref (ρ 119)), (1, .int x12), (2, .int x15), (3, .int x16)] [] w := by
  intro n
  induction n with
  | zero =>
    intro x15 x16 w hD
    cases hD
  | succ n14 ih =>
    intro x15 x16 w17 hD
    unfold L_X12_alone_45 at hD
    refine g_iload_n h 3 t_X12_alone_45 rfl ?_
    refine g_iload_n h 1 t_X12_alone_46 rfl ?_
    refine g_icmp_ge (tgt := 102) h t_X12_alone_47 (by decide) hD (fun hD => ?_) (fun hD => ?_)
    · refine g_loc (L' := [(0, .ref (ρ 119)), (2, .int x15)]) h [0, 2] rfl ?_
      exact hk13 x15 _ hD
    · refine g_iconst (v := 1) h t_X12_alone_50 (by decide) ?_
      refine g_istore (L' := [(4, .int 1), (0, .ref (ρ 119)), (1, .int x12), (2, .int x15), (3, .int x16)]) h hn t_X12_alone_51 (by decide) rfl ?_
      refine g_loc (L' := [(0, .ref (ρ 119)), (1, .int x12), (2, .int x15), (3, .int x16), (4, .int 1)]) h [1, 2, 3, 4, 0] rfl ?_
      refine Q_X12_alone_53 hρ hn h hR  ?_ _ _ _ hD
      · intro x27 w28 hD
        unfold J_X12_alone_x80_1 at hD
        refine g_aload_n h 0 t_X12_alone_80 rfl ?_
        refine g_getR h 119 40 151 fl_12_78 rfl (by decide) rfl t_X12_alone_81 ?_
        refine g_iload h 4 t_X12_alone_84 rfl ?_
        refine g_iload h 4 t_X12_alone_86 rfl ?_
        refine g_iast h 151 rfl (by decide) t_X12_alone_88 hD (fun w29 hD => ?_)
        refine g_iload_n h 2 t_X12_alone_89 rfl ?_
        refine g_iload h 4 t_X12_alone_90 rfl ?_
        refine g_mmax h (st := []) (vtb_at 1619 (by decide +kernel) rfl) (Nat.le_of_ble_eq_true rfl) t_X12_alone_92 ?_
        refine g_bdI hD (fun x30 hD => ?_)
        refine g_istore_n (L' := [(2, .int x30), (0, .ref (ρ 119)), (1, .int x12), (3, .int x16), (4, .int x27)]) h hn t_X12_alone_95 rfl (by decide) rfl ?_
        obtain ⟨x31, ex31, hD⟩ := bd_ex hD
        refine g_iinc (v := x31) (L' := [(3, .int x31), (2, .int x30), (0, .ref (ρ 119)), (1, .int x12), (4, .int x27)]) h hn t_X12_alone_96 (k := 3) rfl (by rw [ex31]; rfl) (by decide) rfl ?_
        refine g_goto (tgt := 45) h t_X12_alone_99 (by decide) ?_
        refine g_loc (L' := [(0, .ref (ρ 119)), (1, .int x12), (2, .int x30), (3, .int x31)]) h [2, 3, 1, 0] rfl ?_
        exact ih x30 x31 _ hD
set_option maxRecDepth 20000 in
theorem Q_X12_alone_109 {l0 : Launch} {ρ : Nat → Nat} {cs : Nat → ClassId} {G : va_G} {X : Cx} (hρ : injN ρ) (hn : X.2.2.2.2.2.2.2.2.2.2.1 = 5) (h : Okx l0 ρ cs G X prog_14_method_81_code "SowingBoardsModel" 1) {rr : (Int32 × Wd)} (hR : ∀ pc L, decode prog_14_method_81_code pc = .ok (.ireturn, 1) → narrow .int (.int rr.1) = .int rr.1 → gG ρ cs G X pc L [.int rr.1] rr.2) {x35 : Int32} {k36 : Wd → Option (Int32 × Wd)} (hk36 : ∀ (w1 : Wd), k36 w1 = some rr → gG ρ cs G X 131 [(2, .int x35)] [] w1) : ∀ (n : Nat) (x38 : Int32) (w : Wd), L_X12_alone_109 x35 k36 n x38 w = some rr → gG ρ cs G X 109 [(0, .ref (ρ 119)), (2, .int x35), (3, .int x38)] [] w := by
  intro n
  induction n with
  | zero =>
    intro x38 w hD
    cases hD
  | succ n37 ih =>
    intro x38 w39 hD
    unfold L_X12_alone_109 at hD
    refine g_iload_n h 2 t_X12_alone_109 rfl ?_
    refine g_iload_n h 1 t_X12_alone_110 rfl ?_
    refine g_icmp_gt (tgt := 131) h t_X12_alone_111 (by decide) hD (fun hD => ?_) (fun hD => ?_)
    · refine g_loc (L' := [(2, .int x35)]) h [1] rfl ?_
      exact hk36 _ hD
    · refine g_aload_n h 0 t_X12_alone_114 rfl ?_
      refine g_aload_n h 0 t_X12_alone_115 rfl ?_
      refine g_getR h 119 40 151 fl_12_78 rfl (by decide) rfl t_X12_alone_116 ?_
      refine g_iload_n h 2 t_X12_alone_119 rfl ?_
      refine g_iald h 151 rfl (by decide) t_X12_alone_120 hD (fun hD => ?_)
      refine g_i2l h t_X12_alone_121 ?_
      refine g_callVV h 119 (As := [.long ((w39.1 151 x38.toNatClampNeg).toInt64)]) (st := []) my_X12_tell mi_X12_tell ml_12_260 rfl (by decide) rfl rfl rfl (Nat.le_of_ble_eq_true rfl) (by decide) t_X12_alone_122 hD (fun _ e => S_X12_tell hρ  e) (fun w40 hD => ?_)
      obtain ⟨x41, ex41, hD⟩ := bd_ex hD
      refine g_iinc (v := x41) (L' := [(3, .int x41), (0, .ref (ρ 119)), (2, .int x35)]) h hn t_X12_alone_125 (k := 2) rfl (by rw [ex41]; rfl) (by decide) rfl ?_
      refine g_goto (tgt := 109) h t_X12_alone_128 (by decide) ?_
      refine g_loc (L' := [(0, .ref (ρ 119)), (2, .int x35), (3, .int x41)]) h [1, 2, 0] rfl ?_
      exact ih x41 _ hD
set_option maxRecDepth 20000 in
theorem S_X12_alone {l0 : Launch} {ρ : Nat → Nat} {cs : Nat → ClassId} {G : va_G} (hρ : injN ρ) {p1 : Int32} {w : Wd} {rr : (Int32 × Wd)} (hD : D_X12_alone p1 w = some rr) : CtI l0 ρ cs G y_X12_alone prog_14_method_81_code 5 .int 1 [.ref (ρ 119), .int p1] w rr.1 rr.2 := by
  refine ctI_of hρ (by decide) (Nat.le_of_ble_eq_true rfl) (fun X hn h hR => ?_)
  unfold D_X12_alone at hD
  show gG ρ cs G X 0 [(0, .ref (ρ 119)), (1, .int p1)] [] w
  refine g_aload_n h 0 t_X12_alone_0 rfl ?_
  refine g_iconst (v := 0) h t_X12_alone_1 (by decide) ?_
  refine g_putI h 119 7 fl_12_109 fp_12_7 rfl (by decide) rfl t_X12_alone_2 hD (fun w1 hD => ?_)
  refine g_iload_n h 1 t_X12_alone_5 rfl ?_
  refine g_iconst (v := 0) h t_X12_alone_6 (by decide) ?_
  refine g_bipush (v := 99) h t_X12_alone_7 (by decide) ?_
  refine g_callSI h (As := [.int p1, .int 0, .int 99]) (st := []) my_X12_in ms_X12_in ml_12_118 rfl rfl (Nat.le_of_ble_eq_true rfl) (by decide) t_X12_alone_9 hD (fun _ _ e => S_X12_in hρ  e) (fun x3 w2 hD => ?_)
  refine g_if_ne (tgt := 17) h t_X12_alone_12 (by decide) hD (fun hD => ?_) (fun hD => ?_)
  · refine g_iconst (v := 0) h t_X12_alone_17 (by decide) ?_
    refine g_istore_n (L' := [(2, .int 0), (0, .ref (ρ 119)), (1, .int p1)]) h hn t_X12_alone_18 rfl (by decide) rfl ?_
    refine g_loc (L' := [(0, .ref (ρ 119)), (1, .int p1), (2, .int 0)]) h [1, 2, 0] rfl ?_
    refine Q_X12_alone_19 hρ hn h hR  ?_ _ _ _ hD
    · intro w11 hD
      unfold J_X12_alone_x41_4 at hD
      refine g_iconst (v := 0) h t_X12_alone_41 (by decide) ?_
      refine g_istore_n (L' := [(2, .int 0), (0, .ref (ρ 119)), (1, .int p1)]) h hn t_X12_alone_42 rfl (by decide) rfl ?_
      refine g_iconst (v := 0) h t_X12_alone_43 (by decide) ?_
      refine g_istore_n (L' := [(3, .int 0), (2, .int 0), (0, .ref (ρ 119)), (1, .int p1)]) h hn t_X12_alone_44 rfl (by decide) rfl ?_
      refine g_loc (L' := [(0, .ref (ρ 119)), (1, .int p1), (2, .int 0), (3, .int 0)]) h [2, 3, 1, 0] rfl ?_
      refine Q_X12_alone_45 hρ hn h hR  ?_ _ _ _ _ hD
      · intro x32 w33 hD
        unfold J_X12_alone_x102_3 at hD
        refine g_aload_n h 0 t_X12_alone_102 rfl ?_
        refine g_iconst (v := 0) h t_X12_alone_103 (by decide) ?_
        refine g_putI h 119 6 fl_12_112 fp_12_6 rfl (by decide) rfl t_X12_alone_104 hD (fun w34 hD => ?_)
        refine g_iconst (v := 1) h t_X12_alone_107 (by decide) ?_
        refine g_istore_n (L' := [(3, .int 1), (0, .ref (ρ 119)), (2, .int x32)]) h hn t_X12_alone_108 rfl (by decide) rfl ?_
        refine g_loc (L' := [(0, .ref (ρ 119)), (2, .int x32), (3, .int 1)]) h [1, 2, 0] rfl ?_
        refine Q_X12_alone_109 hρ hn h hR  ?_ _ _ _ hD
        · intro w42 hD
          unfold J_X12_alone_x131_2 at hD
          refine g_iload_n h 0 t_X12_alone_131 rfl ?_
          obtain rfl := Option.some.inj hD
          exact hR _ _ t_X12_alone_132 rfl
  · refine g_iconst (v := (-1)) h t_X12_alone_15 (by decide) ?_
    obtain rfl := Option.some.inj hD
    exact hR _ _ t_X12_alone_16 rfl
def J_X12_comes_j32_1 (r13 : Int32 → Wd → Option (Int32 × Wd)) (x5 : Int32) : Wd → Option (Int32 × Wd) := fun w9 =>
  bc (D_X12_oneOf 48 10 w9) fun x12 w11 => if ib (x5 + 1) 24 then bd (wI w11 151 (x5 + 1).toNatClampNeg x12) (fun w13 => bd (x5 + 1) fun x14 => r13 x14 w13) else none
def L_X12_comes_13 (k3 : Int32 → Wd → Option (Int32 × Wd)) : Nat → Int32 → Wd → Option (Int32 × Wd)
  | 0, _, _ => none
  | n4 + 1, x5, w6 =>
    bc (D_X12_fine w6) fun x8 w7 => if x8 = 0 then (k3 x5 w7) else (bd (J_X12_comes_j32_1 (L_X12_comes_13 k3 n4) x5) fun k10 => if x5 = 0 then (k10 w7) else (bc (D_X12_here w7) fun x16 w15 => if x16 = (-1) then (k3 x5 w15) else (k10 w15)))
def L_X12_comes_103 (x28 : Int32) (x29 : Int32) (x30 : Int32) (k31 : Wd → Option (Int32 × Wd)) : Nat → Int32 → Wd → Option (Int32 × Wd)
  | 0, _, _ => none
  | n32 + 1, x33, w34 =>
    if x30 ≤ x33 then (k31 w34) else (if ib x33 24 then (if ib x33 24 then bd (wI w34 151 x33.toNatClampNeg ((w34.1 151 x33.toNatClampNeg) + 1)) (fun w35 => bd (x33 + 1) fun x36 => L_X12_comes_103 x28 x29 x30 k31 n32 x36 w35) else none) else none)
def J_X12_comes_x126_2 (r72 : Int32 → Int32 → Wd → Option (Int32 × Wd)) (x24 : Int32) : Wd → Option (Int32 × Wd) := fun w37 =>
  bd (x24 + 1) fun x38 => r72 x38 1 w37
def L_X12_comes_72 (x21 : Int32) (k22 : Int32 → Wd → Option (Int32 × Wd)) : Nat → Int32 → Int32 → Wd → Option (Int32 × Wd)
  | 0, _, _, _ => none
  | n23 + 1, x24, x25, w26 =>
    if x21 < x25 then (k22 x24 w26) else (if ib x25 24 then (if (w26.1 151 x25.toNatClampNeg) = x25 then (if ib x25 24 then bd (wI w26 151 x25.toNatClampNeg 0) (fun w27 => L_X12_comes_103 x21 x24 x25 (J_X12_comes_x126_2 (L_X12_comes_72 x21 k22 n23) x24) FU 1 w27) else none) else (bd (x25 + 1) fun x39 => L_X12_comes_72 x21 k22 n23 x24 x39 w26)) else none)
def L_X12_comes_140 (x42 : Int32) (x43 : Int32) (k44 : Int32 → Wd → Option (Int32 × Wd)) : Nat → Int32 → Int32 → Wd → Option (Int32 × Wd)
  | 0, _, _, _ => none
  | n45 + 1, x46, x47, w48 =>
    if x42 < x47 then (k44 x46 w48) else (if ib x47 24 then (bd (x46 + (w48.1 151 x47.toNatClampNeg)) fun x49 => bd (x47 + 1) fun x50 => L_X12_comes_140 x42 x43 k44 n45 x49 x50 w48) else none)
def J_X12_comes_x164_3 (x40 : Int32) : Int32 → Wd → Option (Int32 × Wd) := fun x51 w52 =>
  bd (wI w52 119 6 0) fun w53 => bv (D_X12_tell x40.toInt64 w53) fun w54 => bv (D_X12_tell x51.toInt64 w54) fun w55 => some (x40, w55)
def J_X12_comes_x134_4 (x17 : Int32) : Int32 → Wd → Option (Int32 × Wd) := fun x40 w41 =>
  L_X12_comes_140 x17 x40 (J_X12_comes_x164_3 x40) FU 0 1 w41
def J_X12_comes_x54_5  : Int32 → Wd → Option (Int32 × Wd) := fun x17 w18 =>
  bc (D_X12_wasRight w18) fun x20 w19 => if x20 = 0 then (some ((-1) - (w19.1 119 12), w19)) else (L_X12_comes_72 x17 (J_X12_comes_x134_4 x17) FU 0 1 w19)
def D_X12_comes  : Wd → Option (Int32 × Wd) := fun w =>
  bd (wI w 119 7 0) fun w1 => bv (D_X12_beginText 20 w1) fun w2 => L_X12_comes_13 J_X12_comes_x54_5 FU 0 w2
set_option maxRecDepth 20000 in
theorem Q_X12_comes_13 {l0 : Launch} {ρ : Nat → Nat} {cs : Nat → ClassId} {G : va_G} {X : Cx} (hρ : injN ρ) (hn : X.2.2.2.2.2.2.2.2.2.2.1 = 6) (h : Okx l0 ρ cs G X prog_14_method_82_code "SowingBoardsModel" 3) {rr : (Int32 × Wd)} (hR : ∀ pc L, decode prog_14_method_82_code pc = .ok (.ireturn, 1) → narrow .int (.int rr.1) = .int rr.1 → gG ρ cs G X pc L [.int rr.1] rr.2)  {k3 : Int32 → Wd → Option (Int32 × Wd)} (hk3 : ∀ (z1 : Int32) (w1 : Wd), k3 z1 w1 = some rr → gG ρ cs G X 54 [(0, .ref (ρ 119)), (1, .int z1)] [] w1) : ∀ (n : Nat) (x5 : Int32) (w : Wd), L_X12_comes_13 k3 n x5 w = some rr → gG ρ cs G X 13 [(0, .ref (ρ 119)), (1, .int x5)] [] w := by
  intro n
  induction n with
  | zero =>
    intro x5 w hD
    cases hD
  | succ n4 ih =>
    intro x5 w6 hD
    unfold L_X12_comes_13 at hD
    refine g_aload_n h 0 t_X12_comes_13 rfl ?_
    refine g_callVI h 119 (As := []) (st := []) my_X12_fine mi_X12_fine ml_12_141 rfl (by decide) rfl rfl rfl (Nat.le_of_ble_eq_true rfl) (by decide) t_X12_comes_14 hD (fun _ _ e => S_X12_fine hρ  e) (fun x8 w7 hD => ?_)
    refine g_if_eq (tgt := 54) h t_X12_comes_17 (by decide) hD (fun hD => ?_) (fun hD => ?_)
    · refine g_loc (L' := [(0, .ref (ρ 119)), (1, .int x5)]) h [0, 1] rfl ?_
      exact hk3 x5 _ hD
    · refine g_iload_n h 1 t_X12_comes_20 rfl ?_
      refine g_join (P := fun k10 => ∀ (w9 : Wd), k10 w9 = some rr → gG ρ cs G X 32 [(0, .ref (ρ 119)), (1, .int x5)] [] w9) hD ?_ (fun k10 hk10 hD => ?_)
      · intro w9 hD
        unfold J_X12_comes_j32_1 at hD
        refine g_aload_n h 0 t_X12_comes_32 rfl ?_
        refine g_getR h 119 40 151 fl_12_78 rfl (by decide) rfl t_X12_comes_33 ?_
        refine g_iload_n h 1 t_X12_comes_36 rfl ?_
        refine g_iconst (v := 1) h t_X12_comes_37 (by decide) ?_
        refine g_iadd h t_X12_comes_38 ?_
        refine g_aload_n h 0 t_X12_comes_39 rfl ?_
        refine g_bipush (v := 48) h t_X12_comes_40 (by decide) ?_
        refine g_bipush (v := 10) h t_X12_comes_42 (by decide) ?_
        refine g_callVI h 119 (As := [.int 48, .int 10]) (st := [.int (x5 + 1), .ref (ρ 151)]) my_X12_oneOf mi_X12_oneOf ml_12_157 rfl (by decide) rfl rfl rfl (Nat.le_of_ble_eq_true rfl) (by decide) t_X12_comes_44 hD (fun _ _ e => S_X12_oneOf hρ  e) (fun x12 w11 hD => ?_)
        refine g_iast h 151 rfl (by decide) t_X12_comes_47 hD (fun w13 hD => ?_)
        obtain ⟨x14, ex14, hD⟩ := bd_ex hD
        refine g_iinc (v := x14) (L' := [(1, .int x14), (0, .ref (ρ 119))]) h hn t_X12_comes_48 (k := 1) rfl (by rw [ex14]; rfl) (by decide) rfl ?_
        refine g_goto (tgt := 13) h t_X12_comes_51 (by decide) ?_
        refine g_loc (L' := [(0, .ref (ρ 119)), (1, .int x14)]) h [1, 0] rfl ?_
        exact ih x14 _ hD
      · refine g_if_eq (tgt := 32) h t_X12_comes_21 (by decide) hD (fun hD => ?_) (fun hD => ?_)
        · refine g_loc (L' := [(0, .ref (ρ 119)), (1, .int x5)]) h [0, 1] rfl ?_
          exact hk10 _ hD
        · refine g_aload_n h 0 t_X12_comes_24 rfl ?_
          refine g_callVI h 119 (As := []) (st := []) my_X12_here mi_X12_here ml_12_145 rfl (by decide) rfl rfl rfl (Nat.le_of_ble_eq_true rfl) (by decide) t_X12_comes_25 hD (fun _ _ e => S_X12_here hρ  e) (fun x16 w15 hD => ?_)
          refine g_iconst (v := (-1)) h t_X12_comes_28 (by decide) ?_
          refine g_icmp_eq (tgt := 54) h t_X12_comes_29 (by decide) hD (fun hD => ?_) (fun hD => ?_)
          · refine g_loc (L' := [(0, .ref (ρ 119)), (1, .int x5)]) h [0, 1] rfl ?_
            exact hk3 x5 _ hD
          · refine g_loc (L' := [(0, .ref (ρ 119)), (1, .int x5)]) h [0, 1] rfl ?_
            exact hk10 _ hD
set_option maxRecDepth 20000 in
theorem Q_X12_comes_103 {l0 : Launch} {ρ : Nat → Nat} {cs : Nat → ClassId} {G : va_G} {X : Cx} (hρ : injN ρ) (hn : X.2.2.2.2.2.2.2.2.2.2.1 = 6) (h : Okx l0 ρ cs G X prog_14_method_82_code "SowingBoardsModel" 3) {rr : (Int32 × Wd)} (hR : ∀ pc L, decode prog_14_method_82_code pc = .ok (.ireturn, 1) → narrow .int (.int rr.1) = .int rr.1 → gG ρ cs G X pc L [.int rr.1] rr.2) {x28 : Int32} {x29 : Int32} {x30 : Int32} {k31 : Wd → Option (Int32 × Wd)} (hk31 : ∀ (w1 : Wd), k31 w1 = some rr → gG ρ cs G X 126 [(0, .ref (ρ 119)), (1, .int x28), (2, .int x29)] [] w1) : ∀ (n : Nat) (x33 : Int32) (w : Wd), L_X12_comes_103 x28 x29 x30 k31 n x33 w = some rr → gG ρ cs G X 103 [(0, .ref (ρ 119)), (1, .int x28), (2, .int x29), (3, .int x30), (4, .int x33)] [] w := by
  intro n
  induction n with
  | zero =>
    intro x33 w hD
    cases hD
  | succ n32 ih =>
    intro x33 w34 hD
    unfold L_X12_comes_103 at hD
    refine g_iload h 4 t_X12_comes_103 rfl ?_
    refine g_iload_n h 3 t_X12_comes_105 rfl ?_
    refine g_icmp_ge (tgt := 126) h t_X12_comes_106 (by decide) hD (fun hD => ?_) (fun hD => ?_)
    · refine g_loc (L' := [(0, .ref (ρ 119)), (1, .int x28), (2, .int x29)]) h [0, 1, 2] rfl ?_
      exact hk31 _ hD
    · refine g_aload_n h 0 t_X12_comes_109 rfl ?_
      refine g_getR h 119 40 151 fl_12_78 rfl (by decide) rfl t_X12_comes_110 ?_
      refine g_iload h 4 t_X12_comes_113 rfl ?_
      refine g_dup2 h t_X12_comes_115 rfl rfl ?_
      refine g_iald h 151 rfl (by decide) t_X12_comes_116 hD (fun hD => ?_)
      refine g_iconst (v := 1) h t_X12_comes_117 (by decide) ?_
      refine g_iadd h t_X12_comes_118 ?_
      refine g_iast h 151 rfl (by decide) t_X12_comes_119 hD (fun w35 hD => ?_)
      obtain ⟨x36, ex36, hD⟩ := bd_ex hD
      refine g_iinc (v := x36) (L' := [(4, .int x36), (0, .ref (ρ 119)), (1, .int x28), (2, .int x29), (3, .int x30)]) h hn t_X12_comes_120 (k := 4) rfl (by rw [ex36]; rfl) (by decide) rfl ?_
      refine g_goto (tgt := 103) h t_X12_comes_123 (by decide) ?_
      refine g_loc (L' := [(0, .ref (ρ 119)), (1, .int x28), (2, .int x29), (3, .int x30), (4, .int x36)]) h [1, 2, 3, 4, 0] rfl ?_
      exact ih x36 _ hD
set_option maxRecDepth 20000 in
theorem Q_X12_comes_72 {l0 : Launch} {ρ : Nat → Nat} {cs : Nat → ClassId} {G : va_G} {X : Cx} (hρ : injN ρ) (hn : X.2.2.2.2.2.2.2.2.2.2.1 = 6) (h : Okx l0 ρ cs G X prog_14_method_82_code "SowingBoardsModel" 3) {rr : (Int32 × Wd)} (hR : ∀ pc L, decode prog_14_method_82_code pc = .ok (.ireturn, 1) → narrow .int (.int rr.1) = .int rr.1 → gG ρ cs G X pc L [.int rr.1] rr.2) {x21 : Int32} {k22 : Int32 → Wd → Option (Int32 × Wd)} (hk22 : ∀ (z2 : Int32) (w1 : Wd), k22 z2 w1 = some rr → gG ρ cs G X 134 [(0, .ref (ρ 119)), (1, .int x21), (2, .int z2)] [] w1) : ∀ (n : Nat) (x24 : Int32) (x25 : Int32) (w : Wd), L_X12_comes_72 x21 k22 n x24 x25 w = some rr → gG ρ cs G X 72 [(0, .ref (ρ 119)), (1, .int x21), (2, .int x24), (3, .int x25)] [] w := by
  intro n
  induction n with
  | zero =>
    intro x24 x25 w hD
    cases hD
  | succ n23 ih =>
    intro x24 x25 w26 hD
    unfold L_X12_comes_72 at hD
    refine g_iload_n h 3 t_X12_comes_72 rfl ?_
    refine g_iload_n h 1 t_X12_comes_73 rfl ?_
    refine g_icmp_gt (tgt := 134) h t_X12_comes_74 (by decide) hD (fun hD => ?_) (fun hD => ?_)
    · refine g_loc (L' := [(0, .ref (ρ 119)), (1, .int x21), (2, .int x24)]) h [0, 1, 2] rfl ?_
      exact hk22 x24 _ hD
    · refine g_aload_n h 0 t_X12_comes_77 rfl ?_
      refine g_getR h 119 40 151 fl_12_78 rfl (by decide) rfl t_X12_comes_78 ?_
      refine g_iload_n h 3 t_X12_comes_81 rfl ?_
      refine g_iald h 151 rfl (by decide) t_X12_comes_82 hD (fun hD => ?_)
      refine g_iload_n h 3 t_X12_comes_83 rfl ?_
      refine g_icmp_eq (tgt := 93) h t_X12_comes_84 (by decide) hD (fun hD => ?_) (fun hD => ?_)
      · refine g_aload_n h 0 t_X12_comes_93 rfl ?_
        refine g_getR h 119 40 151 fl_12_78 rfl (by decide) rfl t_X12_comes_94 ?_
        refine g_iload_n h 3 t_X12_comes_97 rfl ?_
        refine g_iconst (v := 0) h t_X12_comes_98 (by decide) ?_
        refine g_iast h 151 rfl (by decide) t_X12_comes_99 hD (fun w27 hD => ?_)
        refine g_iconst (v := 1) h t_X12_comes_100 (by decide) ?_
        refine g_istore (L' := [(4, .int 1), (0, .ref (ρ 119)), (1, .int x21), (2, .int x24), (3, .int x25)]) h hn t_X12_comes_101 (by decide) rfl ?_
        refine g_loc (L' := [(0, .ref (ρ 119)), (1, .int x21), (2, .int x24), (3, .int x25), (4, .int 1)]) h [1, 2, 3, 4, 0] rfl ?_
        refine Q_X12_comes_103 hρ hn h hR  ?_ _ _ _ hD
        · intro w37 hD
          unfold J_X12_comes_x126_2 at hD
          obtain ⟨x38, ex38, hD⟩ := bd_ex hD
          refine g_iinc (v := x38) (L' := [(2, .int x38), (0, .ref (ρ 119)), (1, .int x21)]) h hn t_X12_comes_126 (k := 2) rfl (by rw [ex38]; rfl) (by decide) rfl ?_
          refine g_iconst (v := 1) h t_X12_comes_129 (by decide) ?_
          refine g_istore_n (L' := [(3, .int 1), (2, .int x38), (0, .ref (ρ 119)), (1, .int x21)]) h hn t_X12_comes_130 rfl (by decide) rfl ?_
          refine g_goto (tgt := 72) h t_X12_comes_131 (by decide) ?_
          refine g_loc (L' := [(0, .ref (ρ 119)), (1, .int x21), (2, .int x38), (3, .int 1)]) h [2, 3, 1, 0] rfl ?_
          exact ih x38 1 _ hD
      · obtain ⟨x39, ex39, hD⟩ := bd_ex hD
        refine g_iinc (v := x39) (L' := [(3, .int x39), (0, .ref (ρ 119)), (1, .int x21), (2, .int x24)]) h hn t_X12_comes_87 (k := 3) rfl (by rw [ex39]; rfl) (by decide) rfl ?_
        refine g_goto (tgt := 72) h t_X12_comes_90 (by decide) ?_
        refine g_loc (L' := [(0, .ref (ρ 119)), (1, .int x21), (2, .int x24), (3, .int x39)]) h [1, 2, 3, 0] rfl ?_
        exact ih x24 x39 _ hD
set_option maxRecDepth 20000 in
theorem Q_X12_comes_140 {l0 : Launch} {ρ : Nat → Nat} {cs : Nat → ClassId} {G : va_G} {X : Cx} (hρ : injN ρ) (hn : X.2.2.2.2.2.2.2.2.2.2.1 = 6) (h : Okx l0 ρ cs G X prog_14_method_82_code "SowingBoardsModel" 3) {rr : (Int32 × Wd)} (hR : ∀ pc L, decode prog_14_method_82_code pc = .ok (.ireturn, 1) → narrow .int (.int rr.1) = .int rr.1 → gG ρ cs G X pc L [.int rr.1] rr.2) {x42 : Int32} {x43 : Int32} {k44 : Int32 → Wd → Option (Int32 × Wd)} (hk44 : ∀ (z4 : Int32) (w1 : Wd), k44 z4 w1 = some rr → gG ρ cs G X 164 [(0, .ref (ρ 119)), (2, .int x43), (4, .int z4)] [] w1) : ∀ (n : Nat) (x46 : Int32) (x47 : Int32) (w : Wd), L_X12_comes_140 x42 x43 k44 n x46 x47 w = some rr → gG ρ cs G X 140 [(0, .ref (ρ 119)), (1, .int x42), (2, .int x43), (4, .int x46), (5, .int x47)] [] w := by
  intro n
  induction n with
  | zero =>
    intro x46 x47 w hD
    cases hD
  | succ n45 ih =>
    intro x46 x47 w48 hD
    unfold L_X12_comes_140 at hD
    refine g_iload h 4 t_X12_comes_140 rfl ?_
    refine g_iload_n h 1 t_X12_comes_142 rfl ?_
    refine g_icmp_gt (tgt := 164) h t_X12_comes_143 (by decide) hD (fun hD => ?_) (fun hD => ?_)
    · refine g_loc (L' := [(0, .ref (ρ 119)), (2, .int x43), (4, .int x46)]) h [0, 2, 3] rfl ?_
      exact hk44 x46 _ hD
    · refine g_iload h 3 t_X12_comes_146 rfl ?_
      refine g_aload_n h 0 t_X12_comes_148 rfl ?_
      refine g_getR h 119 40 151 fl_12_78 rfl (by decide) rfl t_X12_comes_149 ?_
      refine g_iload h 4 t_X12_comes_152 rfl ?_
      refine g_iald h 151 rfl (by decide) t_X12_comes_154 hD (fun hD => ?_)
      refine g_iadd h t_X12_comes_155 ?_
      refine g_bdI hD (fun x49 hD => ?_)
      refine g_istore (L' := [(4, .int x49), (0, .ref (ρ 119)), (1, .int x42), (2, .int x43), (5, .int x47)]) h hn t_X12_comes_156 (by decide) rfl ?_
      obtain ⟨x50, ex50, hD⟩ := bd_ex hD
      refine g_iinc (v := x50) (L' := [(5, .int x50), (4, .int x49), (0, .ref (ρ 119)), (1, .int x42), (2, .int x43)]) h hn t_X12_comes_158 (k := 4) rfl (by rw [ex50]; rfl) (by decide) rfl ?_
      refine g_goto (tgt := 140) h t_X12_comes_161 (by decide) ?_
      refine g_loc (L' := [(0, .ref (ρ 119)), (1, .int x42), (2, .int x43), (4, .int x49), (5, .int x50)]) h [2, 3, 4, 1, 0] rfl ?_
      exact ih x49 x50 _ hD
set_option maxRecDepth 20000 in
theorem S_X12_comes {l0 : Launch} {ρ : Nat → Nat} {cs : Nat → ClassId} {G : va_G} (hρ : injN ρ)  {w : Wd} {rr : (Int32 × Wd)} (hD : D_X12_comes w = some rr) : CtI l0 ρ cs G y_X12_comes prog_14_method_82_code 6 .int 3 [.ref (ρ 119)] w rr.1 rr.2 := by
  refine ctI_of hρ (by decide) (Nat.le_of_ble_eq_true rfl) (fun X hn h hR => ?_)
  unfold D_X12_comes at hD
  show gG ρ cs G X 0 [(0, .ref (ρ 119))] [] w
  refine g_aload_n h 0 t_X12_comes_0 rfl ?_
  refine g_iconst (v := 0) h t_X12_comes_1 (by decide) ?_
  refine g_putI h 119 7 fl_12_109 fp_12_7 rfl (by decide) rfl t_X12_comes_2 hD (fun w1 hD => ?_)
  refine g_aload_n h 0 t_X12_comes_5 rfl ?_
  refine g_bipush (v := 20) h t_X12_comes_6 (by decide) ?_
  refine g_callVV h 119 (As := [.int 20]) (st := []) my_X12_beginText mi_X12_beginText ml_12_161 rfl (by decide) rfl rfl rfl (Nat.le_of_ble_eq_true rfl) (by decide) t_X12_comes_8 hD (fun _ e => S_X12_beginText hρ  e) (fun w2 hD => ?_)
  refine g_iconst (v := 0) h t_X12_comes_11 (by decide) ?_
  refine g_istore_n (L' := [(1, .int 0), (0, .ref (ρ 119))]) h hn t_X12_comes_12 rfl (by decide) rfl ?_
  refine g_loc (L' := [(0, .ref (ρ 119)), (1, .int 0)]) h [1, 0] rfl ?_
  refine Q_X12_comes_13 hρ hn h hR  ?_ _ _ _ hD
  · intro x17 w18 hD
    unfold J_X12_comes_x54_5 at hD
    refine g_aload_n h 0 t_X12_comes_54 rfl ?_
    refine g_callVI h 119 (As := []) (st := []) my_X12_wasRight mi_X12_wasRight ml_12_164 rfl (by decide) rfl rfl rfl (Nat.le_of_ble_eq_true rfl) (by decide) t_X12_comes_55 hD (fun _ _ e => S_X12_wasRight hρ  e) (fun x20 w19 hD => ?_)
    refine g_if_ne (tgt := 68) h t_X12_comes_58 (by decide) hD (fun hD => ?_) (fun hD => ?_)
    · refine g_iconst (v := 0) h t_X12_comes_68 (by decide) ?_
      refine g_istore_n (L' := [(2, .int 0), (0, .ref (ρ 119)), (1, .int x17)]) h hn t_X12_comes_69 rfl (by decide) rfl ?_
      refine g_iconst (v := 1) h t_X12_comes_70 (by decide) ?_
      refine g_istore_n (L' := [(3, .int 1), (2, .int 0), (0, .ref (ρ 119)), (1, .int x17)]) h hn t_X12_comes_71 rfl (by decide) rfl ?_
      refine g_loc (L' := [(0, .ref (ρ 119)), (1, .int x17), (2, .int 0), (3, .int 1)]) h [2, 3, 1, 0] rfl ?_
      refine Q_X12_comes_72 hρ hn h hR  ?_ _ _ _ _ hD
      · intro x40 w41 hD
        unfold J_X12_comes_x134_4 at hD
        refine g_iconst (v := 0) h t_X12_comes_134 (by decide) ?_
        refine g_istore (L' := [(4, .int 0), (0, .ref (ρ 119)), (1, .int x17), (2, .int x40)]) h hn t_X12_comes_135 (by decide) rfl ?_
        refine g_iconst (v := 1) h t_X12_comes_137 (by decide) ?_
        refine g_istore (L' := [(5, .int 1), (4, .int 0), (0, .ref (ρ 119)), (1, .int x17), (2, .int x40)]) h hn t_X12_comes_138 (by decide) rfl ?_
        refine g_loc (L' := [(0, .ref (ρ 119)), (1, .int x17), (2, .int x40), (4, .int 0), (5, .int 1)]) h [2, 3, 4, 1, 0] rfl ?_
        refine Q_X12_comes_140 hρ hn h hR  ?_ _ _ _ _ hD
        · intro x51 w52 hD
          unfold J_X12_comes_x164_3 at hD
          refine g_aload_n h 0 t_X12_comes_164 rfl ?_
          refine g_iconst (v := 0) h t_X12_comes_165 (by decide) ?_
          refine g_putI h 119 6 fl_12_112 fp_12_6 rfl (by decide) rfl t_X12_comes_166 hD (fun w53 hD => ?_)
          refine g_aload_n h 0 t_X12_comes_169 rfl ?_
          refine g_iload_n h 1 t_X12_comes_170 rfl ?_
          refine g_i2l h t_X12_comes_171 ?_
          refine g_callVV h 119 (As := [.long x40.toInt64]) (st := []) my_X12_tell mi_X12_tell ml_12_260 rfl (by decide) rfl rfl rfl (Nat.le_of_ble_eq_true rfl) (by decide) t_X12_comes_172 hD (fun _ e => S_X12_tell hρ  e) (fun w54 hD => ?_)
          refine g_aload_n h 0 t_X12_comes_175 rfl ?_
          refine g_iload h 2 t_X12_comes_176 rfl ?_
          refine g_i2l h t_X12_comes_178 ?_
          refine g_callVV h 119 (As := [.long x51.toInt64]) (st := []) my_X12_tell mi_X12_tell ml_12_260 rfl (by decide) rfl rfl rfl (Nat.le_of_ble_eq_true rfl) (by decide) t_X12_comes_179 hD (fun _ e => S_X12_tell hρ  e) (fun w55 hD => ?_)
          refine g_iload_n h 1 t_X12_comes_182 rfl ?_
          obtain rfl := Option.some.inj hD
          exact hR _ _ t_X12_comes_183 rfl
    · refine g_iconst (v := (-1)) h t_X12_comes_61 (by decide) ?_
      refine g_aload_n h 0 t_X12_comes_62 rfl ?_
      refine g_getI h 119 12 fl_12_134 rfl (by decide) rfl t_X12_comes_63 ?_
      refine g_isub h t_X12_comes_66 ?_
      obtain rfl := Option.some.inj hD
      exact hR _ _ t_X12_comes_67 rfl
def D_X12_highOf (p0 : Int32) : Wd → Option (Int32 × Wd) := fun w =>
  if p0 = 0 then (some (1, w)) else (if p0 = 4 then (some (1, w)) else (if p0 = 3 then (some (5, w)) else (some (9, w))))
set_option maxRecDepth 20000 in
theorem S_X12_highOf {l0 : Launch} {ρ : Nat → Nat} {cs : Nat → ClassId} {G : va_G} (hρ : injN ρ) {p0 : Int32} {w : Wd} {rr : (Int32 × Wd)} (hD : D_X12_highOf p0 w = some rr) : CtI l0 ρ cs G y_X12_highOf prog_14_method_83_code 1 .int 0 [.int p0] w rr.1 rr.2 := by
  refine ctI_of hρ (by decide) (Nat.le_of_ble_eq_true rfl) (fun X hn h hR => ?_)
  unfold D_X12_highOf at hD
  show gG ρ cs G X 0 [(0, .int p0)] [] w
  refine g_iload_n h 0 t_X12_highOf_0 rfl ?_
  refine g_if_eq (tgt := 9) h t_X12_highOf_1 (by decide) hD (fun hD => ?_) (fun hD => ?_)
  · refine g_iconst (v := 1) h t_X12_highOf_9 (by decide) ?_
    refine g_goto (tgt := 24) h t_X12_highOf_10 (by decide) ?_
    obtain rfl := Option.some.inj hD
    exact hR _ _ t_X12_highOf_24 rfl
  · refine g_iload_n h 0 t_X12_highOf_4 rfl ?_
    refine g_iconst (v := 4) h t_X12_highOf_5 (by decide) ?_
    refine g_icmp_ne (tgt := 13) h t_X12_highOf_6 (by decide) hD (fun hD => ?_) (fun hD => ?_)
    · refine g_iload_n h 0 t_X12_highOf_13 rfl ?_
      refine g_iconst (v := 3) h t_X12_highOf_14 (by decide) ?_
      refine g_icmp_ne (tgt := 22) h t_X12_highOf_15 (by decide) hD (fun hD => ?_) (fun hD => ?_)
      · refine g_bipush (v := 9) h t_X12_highOf_22 (by decide) ?_
        obtain rfl := Option.some.inj hD
        exact hR _ _ t_X12_highOf_24 rfl
      · refine g_iconst (v := 5) h t_X12_highOf_18 (by decide) ?_
        refine g_goto (tgt := 24) h t_X12_highOf_19 (by decide) ?_
        obtain rfl := Option.some.inj hD
        exact hR _ _ t_X12_highOf_24 rfl
    · refine g_iconst (v := 1) h t_X12_highOf_9 (by decide) ?_
      refine g_goto (tgt := 24) h t_X12_highOf_10 (by decide) ?_
      obtain rfl := Option.some.inj hD
      exact hR _ _ t_X12_highOf_24 rfl
def D_X12_heard (p1 : Int32) (p2 : Int32) : Wd → Option (Int32 × Wd) := fun w =>
  bd (wI w 119 7 0) fun w1 => bc (D_X12_in p1 0 4 w1) fun x3 w2 => if x3 = 0 then (some ((-1), w2)) else (bc (D_X12_highOf p1 w2) fun x5 w4 => bc (D_X12_in p2 0 x5 w4) fun x7 w6 => if x7 = 0 then (some ((-1), w6)) else (if (w6.1 119 43) = 12 then (some ((-1), w6)) else (if ib (w6.1 119 43) 12 then bd (wI w6 152 (w6.1 119 43).toNatClampNeg p1) (fun w8 => if ib (w8.1 119 43) 12 then bd (wI w8 153 (w8.1 119 43).toNatClampNeg p2) (fun w9 => bd (wI w9 119 43 ((w9.1 119 43) + 1)) fun w10 => some (w10.1 119 43, w10)) else none) else none)))
set_option maxRecDepth 20000 in
theorem S_X12_heard {l0 : Launch} {ρ : Nat → Nat} {cs : Nat → ClassId} {G : va_G} (hρ : injN ρ) {p1 : Int32} {p2 : Int32} {w : Wd} {rr : (Int32 × Wd)} (hD : D_X12_heard p1 p2 w = some rr) : CtI l0 ρ cs G y_X12_heard prog_14_method_84_code 3 .int 1 [.ref (ρ 119), .int p1, .int p2] w rr.1 rr.2 := by
  refine ctI_of hρ (by decide) (Nat.le_of_ble_eq_true rfl) (fun X hn h hR => ?_)
  unfold D_X12_heard at hD
  show gG ρ cs G X 0 [(0, .ref (ρ 119)), (1, .int p1), (2, .int p2)] [] w
  refine g_aload_n h 0 t_X12_heard_0 rfl ?_
  refine g_iconst (v := 0) h t_X12_heard_1 (by decide) ?_
  refine g_putI h 119 7 fl_12_109 fp_12_7 rfl (by decide) rfl t_X12_heard_2 hD (fun w1 hD => ?_)
  refine g_iload_n h 1 t_X12_heard_5 rfl ?_
  refine g_iconst (v := 0) h t_X12_heard_6 (by decide) ?_
  refine g_iconst (v := 4) h t_X12_heard_7 (by decide) ?_
  refine g_callSI h (As := [.int p1, .int 0, .int 4]) (st := []) my_X12_in ms_X12_in ml_12_118 rfl rfl (Nat.le_of_ble_eq_true rfl) (by decide) t_X12_heard_8 hD (fun _ _ e => S_X12_in hρ  e) (fun x3 w2 hD => ?_)
  refine g_if_eq (tgt := 35) h t_X12_heard_11 (by decide) hD (fun hD => ?_) (fun hD => ?_)
  · refine g_iconst (v := (-1)) h t_X12_heard_35 (by decide) ?_
    obtain rfl := Option.some.inj hD
    exact hR _ _ t_X12_heard_36 rfl
  · refine g_iload_n h 2 t_X12_heard_14 rfl ?_
    refine g_iconst (v := 0) h t_X12_heard_15 (by decide) ?_
    refine g_iload_n h 1 t_X12_heard_16 rfl ?_
    refine g_callSI h (As := [.int p1]) (st := [.int 0, .int p2]) my_X12_highOf ms_X12_highOf ml_12_351 rfl rfl (Nat.le_of_ble_eq_true rfl) (by decide) t_X12_heard_17 hD (fun _ _ e => S_X12_highOf hρ  e) (fun x5 w4 hD => ?_)
    refine g_callSI h (As := [.int p2, .int 0, .int x5]) (st := []) my_X12_in ms_X12_in ml_12_118 rfl rfl (Nat.le_of_ble_eq_true rfl) (by decide) t_X12_heard_20 hD (fun _ _ e => S_X12_in hρ  e) (fun x7 w6 hD => ?_)
    refine g_if_eq (tgt := 35) h t_X12_heard_23 (by decide) hD (fun hD => ?_) (fun hD => ?_)
    · refine g_iconst (v := (-1)) h t_X12_heard_35 (by decide) ?_
      obtain rfl := Option.some.inj hD
      exact hR _ _ t_X12_heard_36 rfl
    · refine g_aload_n h 0 t_X12_heard_26 rfl ?_
      refine g_getI h 119 43 fl_12_354 rfl (by decide) rfl t_X12_heard_27 ?_
      refine g_bipush (v := 12) h t_X12_heard_30 (by decide) ?_
      refine g_icmp_ne (tgt := 37) h t_X12_heard_32 (by decide) hD (fun hD => ?_) (fun hD => ?_)
      · refine g_aload_n h 0 t_X12_heard_37 rfl ?_
        refine g_getR h 119 41 152 fl_12_81 rfl (by decide) rfl t_X12_heard_38 ?_
        refine g_aload_n h 0 t_X12_heard_41 rfl ?_
        refine g_getI h 119 43 fl_12_354 rfl (by decide) rfl t_X12_heard_42 ?_
        refine g_iload_n h 1 t_X12_heard_45 rfl ?_
        refine g_iast h 152 rfl (by decide) t_X12_heard_46 hD (fun w8 hD => ?_)
        refine g_aload_n h 0 t_X12_heard_47 rfl ?_
        refine g_getR h 119 42 153 fl_12_84 rfl (by decide) rfl t_X12_heard_48 ?_
        refine g_aload_n h 0 t_X12_heard_51 rfl ?_
        refine g_getI h 119 43 fl_12_354 rfl (by decide) rfl t_X12_heard_52 ?_
        refine g_iload_n h 2 t_X12_heard_55 rfl ?_
        refine g_iast h 153 rfl (by decide) t_X12_heard_56 hD (fun w9 hD => ?_)
        refine g_aload_n h 0 t_X12_heard_57 rfl ?_
        refine g_dup h t_X12_heard_58 rfl ?_
        refine g_getI h 119 43 fl_12_354 rfl (by decide) rfl t_X12_heard_59 ?_
        refine g_iconst (v := 1) h t_X12_heard_62 (by decide) ?_
        refine g_iadd h t_X12_heard_63 ?_
        refine g_putI h 119 43 fl_12_354 fp_12_43 rfl (by decide) rfl t_X12_heard_64 hD (fun w10 hD => ?_)
        refine g_aload_n h 0 t_X12_heard_67 rfl ?_
        refine g_getI h 119 43 fl_12_354 rfl (by decide) rfl t_X12_heard_68 ?_
        obtain rfl := Option.some.inj hD
        exact hR _ _ t_X12_heard_71 rfl
      · refine g_iconst (v := (-1)) h t_X12_heard_35 (by decide) ?_
        obtain rfl := Option.some.inj hD
        exact hR _ _ t_X12_heard_36 rfl
def D_X12_forget  : Wd → Option (Int32 × Wd) := fun w =>
  bd (wI w 119 7 0) fun w1 => bd (w1.1 119 43) fun x2 => bd (wI w1 119 43 0) fun w3 => some (x2, w3)
set_option maxRecDepth 20000 in
theorem S_X12_forget {l0 : Launch} {ρ : Nat → Nat} {cs : Nat → ClassId} {G : va_G} (hρ : injN ρ)  {w : Wd} {rr : (Int32 × Wd)} (hD : D_X12_forget w = some rr) : CtI l0 ρ cs G y_X12_forget prog_14_method_85_code 2 .int 0 [.ref (ρ 119)] w rr.1 rr.2 := by
  refine ctI_of hρ (by decide) (Nat.le_of_ble_eq_true rfl) (fun X hn h hR => ?_)
  unfold D_X12_forget at hD
  show gG ρ cs G X 0 [(0, .ref (ρ 119))] [] w
  refine g_aload_n h 0 t_X12_forget_0 rfl ?_
  refine g_iconst (v := 0) h t_X12_forget_1 (by decide) ?_
  refine g_putI h 119 7 fl_12_109 fp_12_7 rfl (by decide) rfl t_X12_forget_2 hD (fun w1 hD => ?_)
  refine g_aload_n h 0 t_X12_forget_5 rfl ?_
  refine g_getI h 119 43 fl_12_354 rfl (by decide) rfl t_X12_forget_6 ?_
  refine g_bdI hD (fun x2 hD => ?_)
  refine g_istore_n (L' := [(1, .int x2), (0, .ref (ρ 119))]) h hn t_X12_forget_9 rfl (by decide) rfl ?_
  refine g_aload_n h 1 t_X12_forget_10 rfl ?_
  refine g_iconst (v := 0) h t_X12_forget_11 (by decide) ?_
  refine g_putI h 119 43 fl_12_354 fp_12_43 rfl (by decide) rfl t_X12_forget_12 hD (fun w3 hD => ?_)
  refine g_iload_n h 0 t_X12_forget_15 rfl ?_
  obtain rfl := Option.some.inj hD
  exact hR _ _ t_X12_forget_16 rfl
