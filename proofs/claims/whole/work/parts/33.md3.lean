def y_X12_goReach : MethodName := ⟨"SowingBoardsModel", "goReach", "(II)V"⟩
theorem t_X12_goReach_0 : decode prog_14_method_71_code 0 = .ok (.iload_n 1, 1) := by decide +kernel
theorem t_X12_goReach_1 : decode prog_14_method_71_code 1 = .ok (.iload_n 2, 1) := by decide +kernel
theorem t_X12_goReach_2 : decode prog_14_method_71_code 2 = .ok (.if_icmp .ne 65, 3) := by decide +kernel
theorem t_X12_goReach_5 : decode prog_14_method_71_code 5 = .ok (.iconst 0, 1) := by decide +kernel
theorem t_X12_goReach_6 : decode prog_14_method_71_code 6 = .ok (.istore_n 3, 1) := by decide +kernel
theorem t_X12_goReach_7 : decode prog_14_method_71_code 7 = .ok (.iload_n 3, 1) := by decide +kernel
theorem t_X12_goReach_8 : decode prog_14_method_71_code 8 = .ok (.aload_n 0, 1) := by decide +kernel
theorem t_X12_goReach_9 : decode prog_14_method_71_code 9 = .ok (.getfield 326, 3) := by decide +kernel
theorem t_X12_goReach_12 : decode prog_14_method_71_code 12 = .ok (.if_icmp .ge 24, 3) := by decide +kernel
theorem t_X12_goReach_15 : decode prog_14_method_71_code 15 = .ok (.aload_n 0, 1) := by decide +kernel
theorem t_X12_goReach_16 : decode prog_14_method_71_code 16 = .ok (.aload_n 0, 1) := by decide +kernel
theorem t_X12_goReach_17 : decode prog_14_method_71_code 17 = .ok (.getfield 57, 3) := by decide +kernel
theorem t_X12_goReach_20 : decode prog_14_method_71_code 20 = .ok (.iload_n 1, 1) := by decide +kernel
theorem t_X12_goReach_21 : decode prog_14_method_71_code 21 = .ok (.aaload, 1) := by decide +kernel
theorem t_X12_goReach_22 : decode prog_14_method_71_code 22 = .ok (.iload_n 3, 1) := by decide +kernel
theorem t_X12_goReach_23 : decode prog_14_method_71_code 23 = .ok (.invokevirtual 329, 3) := by decide +kernel
theorem t_X12_goReach_26 : decode prog_14_method_71_code 26 = .ok (.ifCond .eq 4, 3) := by decide +kernel
theorem t_X12_goReach_29 : decode prog_14_method_71_code 29 = .ok (.return_, 1) := by decide +kernel
theorem t_X12_goReach_30 : decode prog_14_method_71_code 30 = .ok (.iinc 3 1, 3) := by decide +kernel
theorem t_X12_goReach_33 : decode prog_14_method_71_code 33 = .ok (.goto (-26), 3) := by decide +kernel
theorem t_X12_goReach_36 : decode prog_14_method_71_code 36 = .ok (.aload_n 0, 1) := by decide +kernel
theorem t_X12_goReach_37 : decode prog_14_method_71_code 37 = .ok (.getfield 57, 3) := by decide +kernel
theorem t_X12_goReach_40 : decode prog_14_method_71_code 40 = .ok (.iload_n 1, 1) := by decide +kernel
theorem t_X12_goReach_41 : decode prog_14_method_71_code 41 = .ok (.aaload, 1) := by decide +kernel
theorem t_X12_goReach_42 : decode prog_14_method_71_code 42 = .ok (.aload_n 0, 1) := by decide +kernel
theorem t_X12_goReach_43 : decode prog_14_method_71_code 43 = .ok (.getfield 72, 3) := by decide +kernel
theorem t_X12_goReach_46 : decode prog_14_method_71_code 46 = .ok (.bipush 16, 2) := by decide +kernel
theorem t_X12_goReach_48 : decode prog_14_method_71_code 48 = .ok (.aload_n 0, 1) := by decide +kernel
theorem t_X12_goReach_49 : decode prog_14_method_71_code 49 = .ok (.getfield 326, 3) := by decide +kernel
theorem t_X12_goReach_52 : decode prog_14_method_71_code 52 = .ok (.imul, 1) := by decide +kernel
theorem t_X12_goReach_53 : decode prog_14_method_71_code 53 = .ok (.invokestatic 256, 3) := by decide +kernel
theorem t_X12_goReach_56 : decode prog_14_method_71_code 56 = .ok (.aload_n 0, 1) := by decide +kernel
theorem t_X12_goReach_57 : decode prog_14_method_71_code 57 = .ok (.dup, 1) := by decide +kernel
theorem t_X12_goReach_58 : decode prog_14_method_71_code 58 = .ok (.getfield 326, 3) := by decide +kernel
theorem t_X12_goReach_61 : decode prog_14_method_71_code 61 = .ok (.iconst 1, 1) := by decide +kernel
theorem t_X12_goReach_62 : decode prog_14_method_71_code 62 = .ok (.iadd, 1) := by decide +kernel
theorem t_X12_goReach_63 : decode prog_14_method_71_code 63 = .ok (.putfield 326, 3) := by decide +kernel
theorem t_X12_goReach_66 : decode prog_14_method_71_code 66 = .ok (.return_, 1) := by decide +kernel
theorem t_X12_goReach_67 : decode prog_14_method_71_code 67 = .ok (.iconst 0, 1) := by decide +kernel
theorem t_X12_goReach_68 : decode prog_14_method_71_code 68 = .ok (.istore_n 3, 1) := by decide +kernel
theorem t_X12_goReach_69 : decode prog_14_method_71_code 69 = .ok (.iload_n 3, 1) := by decide +kernel
theorem t_X12_goReach_70 : decode prog_14_method_71_code 70 = .ok (.aload_n 0, 1) := by decide +kernel
theorem t_X12_goReach_71 : decode prog_14_method_71_code 71 = .ok (.getfield 13, 3) := by decide +kernel
theorem t_X12_goReach_74 : decode prog_14_method_71_code 74 = .ok (.if_icmp .ge 65, 3) := by decide +kernel
theorem t_X12_goReach_77 : decode prog_14_method_71_code 77 = .ok (.aload_n 0, 1) := by decide +kernel
theorem t_X12_goReach_78 : decode prog_14_method_71_code 78 = .ok (.aload_n 0, 1) := by decide +kernel
theorem t_X12_goReach_79 : decode prog_14_method_71_code 79 = .ok (.getfield 57, 3) := by decide +kernel
theorem t_X12_goReach_82 : decode prog_14_method_71_code 82 = .ok (.iload_n 1, 1) := by decide +kernel
theorem t_X12_goReach_83 : decode prog_14_method_71_code 83 = .ok (.aaload, 1) := by decide +kernel
theorem t_X12_goReach_84 : decode prog_14_method_71_code 84 = .ok (.iload_n 3, 1) := by decide +kernel
theorem t_X12_goReach_85 : decode prog_14_method_71_code 85 = .ok (.invokevirtual 264, 3) := by decide +kernel
theorem t_X12_goReach_88 : decode prog_14_method_71_code 88 = .ok (.ifCond .ge 6, 3) := by decide +kernel
theorem t_X12_goReach_91 : decode prog_14_method_71_code 91 = .ok (.goto 42, 3) := by decide +kernel
theorem t_X12_goReach_94 : decode prog_14_method_71_code 94 = .ok (.aload_n 0, 1) := by decide +kernel
theorem t_X12_goReach_95 : decode prog_14_method_71_code 95 = .ok (.getfield 57, 3) := by decide +kernel
theorem t_X12_goReach_98 : decode prog_14_method_71_code 98 = .ok (.iload_n 1, 1) := by decide +kernel
theorem t_X12_goReach_99 : decode prog_14_method_71_code 99 = .ok (.aaload, 1) := by decide +kernel
theorem t_X12_goReach_100 : decode prog_14_method_71_code 100 = .ok (.aload_n 0, 1) := by decide +kernel
theorem t_X12_goReach_101 : decode prog_14_method_71_code 101 = .ok (.getfield 57, 3) := by decide +kernel
theorem t_X12_goReach_104 : decode prog_14_method_71_code 104 = .ok (.iload_n 1, 1) := by decide +kernel
theorem t_X12_goReach_105 : decode prog_14_method_71_code 105 = .ok (.iconst 1, 1) := by decide +kernel
theorem t_X12_goReach_106 : decode prog_14_method_71_code 106 = .ok (.iadd, 1) := by decide +kernel
theorem t_X12_goReach_107 : decode prog_14_method_71_code 107 = .ok (.aaload, 1) := by decide +kernel
theorem t_X12_goReach_108 : decode prog_14_method_71_code 108 = .ok (.iconst 0, 1) := by decide +kernel
theorem t_X12_goReach_109 : decode prog_14_method_71_code 109 = .ok (.invokestatic 256, 3) := by decide +kernel
theorem t_X12_goReach_112 : decode prog_14_method_71_code 112 = .ok (.aload_n 0, 1) := by decide +kernel
theorem t_X12_goReach_113 : decode prog_14_method_71_code 113 = .ok (.aload_n 0, 1) := by decide +kernel
theorem t_X12_goReach_114 : decode prog_14_method_71_code 114 = .ok (.getfield 57, 3) := by decide +kernel
theorem t_X12_goReach_117 : decode prog_14_method_71_code 117 = .ok (.iload_n 1, 1) := by decide +kernel
theorem t_X12_goReach_118 : decode prog_14_method_71_code 118 = .ok (.iconst 1, 1) := by decide +kernel
theorem t_X12_goReach_119 : decode prog_14_method_71_code 119 = .ok (.iadd, 1) := by decide +kernel
theorem t_X12_goReach_120 : decode prog_14_method_71_code 120 = .ok (.aaload, 1) := by decide +kernel
theorem t_X12_goReach_121 : decode prog_14_method_71_code 121 = .ok (.iload_n 3, 1) := by decide +kernel
theorem t_X12_goReach_122 : decode prog_14_method_71_code 122 = .ok (.invokevirtual 272, 3) := by decide +kernel
theorem t_X12_goReach_125 : decode prog_14_method_71_code 125 = .ok (.aload_n 0, 1) := by decide +kernel
theorem t_X12_goReach_126 : decode prog_14_method_71_code 126 = .ok (.iload_n 1, 1) := by decide +kernel
theorem t_X12_goReach_127 : decode prog_14_method_71_code 127 = .ok (.iconst 1, 1) := by decide +kernel
theorem t_X12_goReach_128 : decode prog_14_method_71_code 128 = .ok (.iadd, 1) := by decide +kernel
theorem t_X12_goReach_129 : decode prog_14_method_71_code 129 = .ok (.iload_n 2, 1) := by decide +kernel
theorem t_X12_goReach_130 : decode prog_14_method_71_code 130 = .ok (.invokevirtual 333, 3) := by decide +kernel
theorem t_X12_goReach_133 : decode prog_14_method_71_code 133 = .ok (.iinc 3 1, 3) := by decide +kernel
theorem t_X12_goReach_136 : decode prog_14_method_71_code 136 = .ok (.goto (-67), 3) := by decide +kernel
theorem t_X12_goReach_139 : decode prog_14_method_71_code 139 = .ok (.return_, 1) := by decide +kernel
def y_X12_reach : MethodName := ⟨"SowingBoardsModel", "reach", "(I)I"⟩
theorem t_X12_reach_0 : decode prog_14_method_72_code 0 = .ok (.aload_n 0, 1) := by decide +kernel
theorem t_X12_reach_1 : decode prog_14_method_72_code 1 = .ok (.iconst 0, 1) := by decide +kernel
theorem t_X12_reach_2 : decode prog_14_method_72_code 2 = .ok (.putfield 109, 3) := by decide +kernel
theorem t_X12_reach_5 : decode prog_14_method_72_code 5 = .ok (.iload_n 1, 1) := by decide +kernel
theorem t_X12_reach_6 : decode prog_14_method_72_code 6 = .ok (.iconst 0, 1) := by decide +kernel
theorem t_X12_reach_7 : decode prog_14_method_72_code 7 = .ok (.iconst 3, 1) := by decide +kernel
theorem t_X12_reach_8 : decode prog_14_method_72_code 8 = .ok (.invokestatic 118, 3) := by decide +kernel
theorem t_X12_reach_11 : decode prog_14_method_72_code 11 = .ok (.ifCond .ne 5, 3) := by decide +kernel
theorem t_X12_reach_14 : decode prog_14_method_72_code 14 = .ok (.iconst (-1), 1) := by decide +kernel
theorem t_X12_reach_15 : decode prog_14_method_72_code 15 = .ok (.ireturn, 1) := by decide +kernel
theorem t_X12_reach_16 : decode prog_14_method_72_code 16 = .ok (.aload_n 0, 1) := by decide +kernel
theorem t_X12_reach_17 : decode prog_14_method_72_code 17 = .ok (.iconst 0, 1) := by decide +kernel
theorem t_X12_reach_18 : decode prog_14_method_72_code 18 = .ok (.putfield 326, 3) := by decide +kernel
theorem t_X12_reach_21 : decode prog_14_method_72_code 21 = .ok (.aload_n 0, 1) := by decide +kernel
theorem t_X12_reach_22 : decode prog_14_method_72_code 22 = .ok (.getfield 9, 3) := by decide +kernel
theorem t_X12_reach_25 : decode prog_14_method_72_code 25 = .ok (.aload_n 0, 1) := by decide +kernel
theorem t_X12_reach_26 : decode prog_14_method_72_code 26 = .ok (.getfield 57, 3) := by decide +kernel
theorem t_X12_reach_29 : decode prog_14_method_72_code 29 = .ok (.iconst 0, 1) := by decide +kernel
theorem t_X12_reach_30 : decode prog_14_method_72_code 30 = .ok (.aaload, 1) := by decide +kernel
theorem t_X12_reach_31 : decode prog_14_method_72_code 31 = .ok (.iconst 0, 1) := by decide +kernel
theorem t_X12_reach_32 : decode prog_14_method_72_code 32 = .ok (.invokestatic 256, 3) := by decide +kernel
theorem t_X12_reach_35 : decode prog_14_method_72_code 35 = .ok (.aload_n 0, 1) := by decide +kernel
theorem t_X12_reach_36 : decode prog_14_method_72_code 36 = .ok (.iconst 0, 1) := by decide +kernel
theorem t_X12_reach_37 : decode prog_14_method_72_code 37 = .ok (.iload_n 1, 1) := by decide +kernel
theorem t_X12_reach_38 : decode prog_14_method_72_code 38 = .ok (.invokevirtual 333, 3) := by decide +kernel
theorem t_X12_reach_41 : decode prog_14_method_72_code 41 = .ok (.ldc_w 337, 3) := by decide +kernel
theorem t_X12_reach_44 : decode prog_14_method_72_code 44 = .ok (.istore_n 2, 1) := by decide +kernel
theorem t_X12_reach_45 : decode prog_14_method_72_code 45 = .ok (.iconst (-1), 1) := by decide +kernel
theorem t_X12_reach_46 : decode prog_14_method_72_code 46 = .ok (.istore_n 3, 1) := by decide +kernel
theorem t_X12_reach_47 : decode prog_14_method_72_code 47 = .ok (.iconst 0, 1) := by decide +kernel
theorem t_X12_reach_48 : decode prog_14_method_72_code 48 = .ok (.istore 4, 2) := by decide +kernel
theorem t_X12_reach_50 : decode prog_14_method_72_code 50 = .ok (.iload 4, 2) := by decide +kernel
theorem t_X12_reach_52 : decode prog_14_method_72_code 52 = .ok (.aload_n 0, 1) := by decide +kernel
theorem t_X12_reach_53 : decode prog_14_method_72_code 53 = .ok (.getfield 326, 3) := by decide +kernel
theorem t_X12_reach_56 : decode prog_14_method_72_code 56 = .ok (.if_icmp .ge 46, 3) := by decide +kernel
theorem t_X12_reach_59 : decode prog_14_method_72_code 59 = .ok (.aload_n 0, 1) := by decide +kernel
theorem t_X12_reach_60 : decode prog_14_method_72_code 60 = .ok (.getfield 72, 3) := by decide +kernel
theorem t_X12_reach_63 : decode prog_14_method_72_code 63 = .ok (.bipush 16, 2) := by decide +kernel
theorem t_X12_reach_65 : decode prog_14_method_72_code 65 = .ok (.iload 4, 2) := by decide +kernel
theorem t_X12_reach_67 : decode prog_14_method_72_code 67 = .ok (.imul, 1) := by decide +kernel
theorem t_X12_reach_68 : decode prog_14_method_72_code 68 = .ok (.bipush 12, 2) := by decide +kernel
theorem t_X12_reach_70 : decode prog_14_method_72_code 70 = .ok (.iadd, 1) := by decide +kernel
theorem t_X12_reach_71 : decode prog_14_method_72_code 71 = .ok (.aload_n 0, 1) := by decide +kernel
theorem t_X12_reach_72 : decode prog_14_method_72_code 72 = .ok (.getfield 9, 3) := by decide +kernel
theorem t_X12_reach_75 : decode prog_14_method_72_code 75 = .ok (.bipush 14, 2) := by decide +kernel
theorem t_X12_reach_77 : decode prog_14_method_72_code 77 = .ok (.iaload, 1) := by decide +kernel
theorem t_X12_reach_78 : decode prog_14_method_72_code 78 = .ok (.iadd, 1) := by decide +kernel
theorem t_X12_reach_79 : decode prog_14_method_72_code 79 = .ok (.iaload, 1) := by decide +kernel
theorem t_X12_reach_80 : decode prog_14_method_72_code 80 = .ok (.istore 5, 2) := by decide +kernel
theorem t_X12_reach_82 : decode prog_14_method_72_code 82 = .ok (.iload_n 2, 1) := by decide +kernel
theorem t_X12_reach_83 : decode prog_14_method_72_code 83 = .ok (.iload 5, 2) := by decide +kernel
theorem t_X12_reach_85 : decode prog_14_method_72_code 85 = .ok (.invokestatic 220, 3) := by decide +kernel
theorem t_X12_reach_88 : decode prog_14_method_72_code 88 = .ok (.istore_n 2, 1) := by decide +kernel
theorem t_X12_reach_89 : decode prog_14_method_72_code 89 = .ok (.iload_n 3, 1) := by decide +kernel
theorem t_X12_reach_90 : decode prog_14_method_72_code 90 = .ok (.iload 5, 2) := by decide +kernel
theorem t_X12_reach_92 : decode prog_14_method_72_code 92 = .ok (.invokestatic 226, 3) := by decide +kernel
theorem t_X12_reach_95 : decode prog_14_method_72_code 95 = .ok (.istore_n 3, 1) := by decide +kernel
theorem t_X12_reach_96 : decode prog_14_method_72_code 96 = .ok (.iinc 4 1, 3) := by decide +kernel
theorem t_X12_reach_99 : decode prog_14_method_72_code 99 = .ok (.goto (-49), 3) := by decide +kernel
theorem t_X12_reach_102 : decode prog_14_method_72_code 102 = .ok (.aload_n 0, 1) := by decide +kernel
theorem t_X12_reach_103 : decode prog_14_method_72_code 103 = .ok (.iconst 0, 1) := by decide +kernel
theorem t_X12_reach_104 : decode prog_14_method_72_code 104 = .ok (.putfield 112, 3) := by decide +kernel
theorem t_X12_reach_107 : decode prog_14_method_72_code 107 = .ok (.aload_n 0, 1) := by decide +kernel
theorem t_X12_reach_108 : decode prog_14_method_72_code 108 = .ok (.getfield 326, 3) := by decide +kernel
theorem t_X12_reach_111 : decode prog_14_method_72_code 111 = .ok (.ifCond .le 15, 3) := by decide +kernel
theorem t_X12_reach_114 : decode prog_14_method_72_code 114 = .ok (.aload_n 0, 1) := by decide +kernel
theorem t_X12_reach_115 : decode prog_14_method_72_code 115 = .ok (.iload_n 2, 1) := by decide +kernel
theorem t_X12_reach_116 : decode prog_14_method_72_code 116 = .ok (.i2l, 1) := by decide +kernel
theorem t_X12_reach_117 : decode prog_14_method_72_code 117 = .ok (.invokevirtual 260, 3) := by decide +kernel
theorem t_X12_reach_120 : decode prog_14_method_72_code 120 = .ok (.aload_n 0, 1) := by decide +kernel
theorem t_X12_reach_121 : decode prog_14_method_72_code 121 = .ok (.iload_n 3, 1) := by decide +kernel
theorem t_X12_reach_122 : decode prog_14_method_72_code 122 = .ok (.i2l, 1) := by decide +kernel
theorem t_X12_reach_123 : decode prog_14_method_72_code 123 = .ok (.invokevirtual 260, 3) := by decide +kernel
theorem t_X12_reach_126 : decode prog_14_method_72_code 126 = .ok (.aload_n 0, 1) := by decide +kernel
theorem t_X12_reach_127 : decode prog_14_method_72_code 127 = .ok (.getfield 326, 3) := by decide +kernel
theorem t_X12_reach_130 : decode prog_14_method_72_code 130 = .ok (.ireturn, 1) := by decide +kernel
def y_X12_common : MethodName := ⟨"SowingBoardsModel", "common", "(JJ)J"⟩
theorem t_X12_common_0 : decode prog_14_method_73_code 0 = .ok (.lload_n 2, 1) := by decide +kernel
theorem t_X12_common_1 : decode prog_14_method_73_code 1 = .ok (.lconst 0, 1) := by decide +kernel
theorem t_X12_common_2 : decode prog_14_method_73_code 2 = .ok (.lcmp, 1) := by decide +kernel
theorem t_X12_common_3 : decode prog_14_method_73_code 3 = .ok (.ifCond .ne 7, 3) := by decide +kernel
theorem t_X12_common_6 : decode prog_14_method_73_code 6 = .ok (.lload_n 0, 1) := by decide +kernel
theorem t_X12_common_7 : decode prog_14_method_73_code 7 = .ok (.goto 10, 3) := by decide +kernel
theorem t_X12_common_10 : decode prog_14_method_73_code 10 = .ok (.lload_n 2, 1) := by decide +kernel
theorem t_X12_common_11 : decode prog_14_method_73_code 11 = .ok (.lload_n 0, 1) := by decide +kernel
theorem t_X12_common_12 : decode prog_14_method_73_code 12 = .ok (.lload_n 2, 1) := by decide +kernel
theorem t_X12_common_13 : decode prog_14_method_73_code 13 = .ok (.lrem, 1) := by decide +kernel
theorem t_X12_common_14 : decode prog_14_method_73_code 14 = .ok (.invokestatic 338, 3) := by decide +kernel
theorem t_X12_common_17 : decode prog_14_method_73_code 17 = .ok (.lreturn, 1) := by decide +kernel
def y_X12_luckOf : MethodName := ⟨"SowingBoardsModel", "luckOf", "(III)J"⟩
theorem t_X12_luckOf_0 : decode prog_14_method_74_code 0 = .ok (.aload_n 0, 1) := by decide +kernel
theorem t_X12_luckOf_1 : decode prog_14_method_74_code 1 = .ok (.getfield 57, 3) := by decide +kernel
theorem t_X12_luckOf_4 : decode prog_14_method_74_code 4 = .ok (.iload_n 1, 1) := by decide +kernel
theorem t_X12_luckOf_5 : decode prog_14_method_74_code 5 = .ok (.aaload, 1) := by decide +kernel
theorem t_X12_luckOf_6 : decode prog_14_method_74_code 6 = .ok (.astore 4, 2) := by decide +kernel
theorem t_X12_luckOf_8 : decode prog_14_method_74_code 8 = .ok (.lconst 1, 1) := by decide +kernel
theorem t_X12_luckOf_9 : decode prog_14_method_74_code 9 = .ok (.lstore 5, 2) := by decide +kernel
theorem t_X12_luckOf_11 : decode prog_14_method_74_code 11 = .ok (.iload_n 1, 1) := by decide +kernel
theorem t_X12_luckOf_12 : decode prog_14_method_74_code 12 = .ok (.istore 7, 2) := by decide +kernel
theorem t_X12_luckOf_14 : decode prog_14_method_74_code 14 = .ok (.iload 7, 2) := by decide +kernel
theorem t_X12_luckOf_16 : decode prog_14_method_74_code 16 = .ok (.iload_n 2, 1) := by decide +kernel
theorem t_X12_luckOf_17 : decode prog_14_method_74_code 17 = .ok (.if_icmp .ge 17, 3) := by decide +kernel
theorem t_X12_luckOf_20 : decode prog_14_method_74_code 20 = .ok (.lload 5, 2) := by decide +kernel
theorem t_X12_luckOf_22 : decode prog_14_method_74_code 22 = .ok (.ldc2_w 342, 3) := by decide +kernel
theorem t_X12_luckOf_25 : decode prog_14_method_74_code 25 = .ok (.lmul, 1) := by decide +kernel
theorem t_X12_luckOf_26 : decode prog_14_method_74_code 26 = .ok (.lstore 5, 2) := by decide +kernel
theorem t_X12_luckOf_28 : decode prog_14_method_74_code 28 = .ok (.iinc 7 1, 3) := by decide +kernel
theorem t_X12_luckOf_31 : decode prog_14_method_74_code 31 = .ok (.goto (-17), 3) := by decide +kernel
theorem t_X12_luckOf_34 : decode prog_14_method_74_code 34 = .ok (.iload_n 1, 1) := by decide +kernel
theorem t_X12_luckOf_35 : decode prog_14_method_74_code 35 = .ok (.iload_n 2, 1) := by decide +kernel
theorem t_X12_luckOf_36 : decode prog_14_method_74_code 36 = .ok (.if_icmp .eq 12, 3) := by decide +kernel
theorem t_X12_luckOf_39 : decode prog_14_method_74_code 39 = .ok (.aload_n 0, 1) := by decide +kernel
theorem t_X12_luckOf_40 : decode prog_14_method_74_code 40 = .ok (.aload 4, 2) := by decide +kernel
theorem t_X12_luckOf_42 : decode prog_14_method_74_code 42 = .ok (.invokevirtual 282, 3) := by decide +kernel
theorem t_X12_luckOf_45 : decode prog_14_method_74_code 45 = .ok (.ifCond .eq 19, 3) := by decide +kernel
theorem t_X12_luckOf_48 : decode prog_14_method_74_code 48 = .ok (.aload 4, 2) := by decide +kernel
theorem t_X12_luckOf_50 : decode prog_14_method_74_code 50 = .ok (.bipush 12, 2) := by decide +kernel
theorem t_X12_luckOf_52 : decode prog_14_method_74_code 52 = .ok (.iaload, 1) := by decide +kernel
theorem t_X12_luckOf_53 : decode prog_14_method_74_code 53 = .ok (.iload_n 3, 1) := by decide +kernel
theorem t_X12_luckOf_54 : decode prog_14_method_74_code 54 = .ok (.if_icmp .lt 8, 3) := by decide +kernel
theorem t_X12_luckOf_57 : decode prog_14_method_74_code 57 = .ok (.lload 5, 2) := by decide +kernel
theorem t_X12_luckOf_59 : decode prog_14_method_74_code 59 = .ok (.goto 4, 3) := by decide +kernel
theorem t_X12_luckOf_62 : decode prog_14_method_74_code 62 = .ok (.lconst 0, 1) := by decide +kernel
theorem t_X12_luckOf_63 : decode prog_14_method_74_code 63 = .ok (.lreturn, 1) := by decide +kernel
theorem t_X12_luckOf_64 : decode prog_14_method_74_code 64 = .ok (.iconst 0, 1) := by decide +kernel
theorem t_X12_luckOf_65 : decode prog_14_method_74_code 65 = .ok (.istore 7, 2) := by decide +kernel
theorem t_X12_luckOf_67 : decode prog_14_method_74_code 67 = .ok (.iconst 0, 1) := by decide +kernel
theorem t_X12_luckOf_68 : decode prog_14_method_74_code 68 = .ok (.istore 8, 2) := by decide +kernel
theorem t_X12_luckOf_70 : decode prog_14_method_74_code 70 = .ok (.iload 8, 2) := by decide +kernel
theorem t_X12_luckOf_72 : decode prog_14_method_74_code 72 = .ok (.aload_n 0, 1) := by decide +kernel
theorem t_X12_luckOf_73 : decode prog_14_method_74_code 73 = .ok (.getfield 13, 3) := by decide +kernel
theorem t_X12_luckOf_76 : decode prog_14_method_74_code 76 = .ok (.if_icmp .ge 30, 3) := by decide +kernel
theorem t_X12_luckOf_79 : decode prog_14_method_74_code 79 = .ok (.iload 7, 2) := by decide +kernel
theorem t_X12_luckOf_81 : decode prog_14_method_74_code 81 = .ok (.aload_n 0, 1) := by decide +kernel
theorem t_X12_luckOf_82 : decode prog_14_method_74_code 82 = .ok (.aload 4, 2) := by decide +kernel
theorem t_X12_luckOf_84 : decode prog_14_method_74_code 84 = .ok (.iload 8, 2) := by decide +kernel
theorem t_X12_luckOf_86 : decode prog_14_method_74_code 86 = .ok (.invokevirtual 264, 3) := by decide +kernel
theorem t_X12_luckOf_89 : decode prog_14_method_74_code 89 = .ok (.ifCond .ne 7, 3) := by decide +kernel
theorem t_X12_luckOf_92 : decode prog_14_method_74_code 92 = .ok (.iconst 1, 1) := by decide +kernel
theorem t_X12_luckOf_93 : decode prog_14_method_74_code 93 = .ok (.goto 4, 3) := by decide +kernel
theorem t_X12_luckOf_96 : decode prog_14_method_74_code 96 = .ok (.iconst 0, 1) := by decide +kernel
theorem t_X12_luckOf_97 : decode prog_14_method_74_code 97 = .ok (.iadd, 1) := by decide +kernel
theorem t_X12_luckOf_98 : decode prog_14_method_74_code 98 = .ok (.istore 7, 2) := by decide +kernel
theorem t_X12_luckOf_100 : decode prog_14_method_74_code 100 = .ok (.iinc 8 1, 3) := by decide +kernel
theorem t_X12_luckOf_103 : decode prog_14_method_74_code 103 = .ok (.goto (-33), 3) := by decide +kernel
theorem t_X12_luckOf_106 : decode prog_14_method_74_code 106 = .ok (.lconst 0, 1) := by decide +kernel
theorem t_X12_luckOf_107 : decode prog_14_method_74_code 107 = .ok (.lstore 8, 2) := by decide +kernel
theorem t_X12_luckOf_109 : decode prog_14_method_74_code 109 = .ok (.iconst 0, 1) := by decide +kernel
theorem t_X12_luckOf_110 : decode prog_14_method_74_code 110 = .ok (.istore 10, 2) := by decide +kernel
theorem t_X12_luckOf_112 : decode prog_14_method_74_code 112 = .ok (.iload 10, 2) := by decide +kernel
theorem t_X12_luckOf_114 : decode prog_14_method_74_code 114 = .ok (.aload_n 0, 1) := by decide +kernel
theorem t_X12_luckOf_115 : decode prog_14_method_74_code 115 = .ok (.getfield 13, 3) := by decide +kernel
theorem t_X12_luckOf_118 : decode prog_14_method_74_code 118 = .ok (.if_icmp .ge 73, 3) := by decide +kernel
theorem t_X12_luckOf_121 : decode prog_14_method_74_code 121 = .ok (.aload_n 0, 1) := by decide +kernel
theorem t_X12_luckOf_122 : decode prog_14_method_74_code 122 = .ok (.aload 4, 2) := by decide +kernel
theorem t_X12_luckOf_124 : decode prog_14_method_74_code 124 = .ok (.iload 10, 2) := by decide +kernel
theorem t_X12_luckOf_126 : decode prog_14_method_74_code 126 = .ok (.invokevirtual 264, 3) := by decide +kernel
theorem t_X12_luckOf_129 : decode prog_14_method_74_code 129 = .ok (.ifCond .ge 6, 3) := by decide +kernel
theorem t_X12_luckOf_132 : decode prog_14_method_74_code 132 = .ok (.goto 53, 3) := by decide +kernel
theorem t_X12_luckOf_135 : decode prog_14_method_74_code 135 = .ok (.aload 4, 2) := by decide +kernel
theorem t_X12_luckOf_137 : decode prog_14_method_74_code 137 = .ok (.aload_n 0, 1) := by decide +kernel
theorem t_X12_luckOf_138 : decode prog_14_method_74_code 138 = .ok (.getfield 57, 3) := by decide +kernel
theorem t_X12_luckOf_141 : decode prog_14_method_74_code 141 = .ok (.iload_n 1, 1) := by decide +kernel
theorem t_X12_luckOf_142 : decode prog_14_method_74_code 142 = .ok (.iconst 1, 1) := by decide +kernel
theorem t_X12_luckOf_143 : decode prog_14_method_74_code 143 = .ok (.iadd, 1) := by decide +kernel
theorem t_X12_luckOf_144 : decode prog_14_method_74_code 144 = .ok (.aaload, 1) := by decide +kernel
theorem t_X12_luckOf_145 : decode prog_14_method_74_code 145 = .ok (.iconst 0, 1) := by decide +kernel
theorem t_X12_luckOf_146 : decode prog_14_method_74_code 146 = .ok (.invokestatic 256, 3) := by decide +kernel
theorem t_X12_luckOf_149 : decode prog_14_method_74_code 149 = .ok (.aload_n 0, 1) := by decide +kernel
theorem t_X12_luckOf_150 : decode prog_14_method_74_code 150 = .ok (.aload_n 0, 1) := by decide +kernel
theorem t_X12_luckOf_151 : decode prog_14_method_74_code 151 = .ok (.getfield 57, 3) := by decide +kernel
theorem t_X12_luckOf_154 : decode prog_14_method_74_code 154 = .ok (.iload_n 1, 1) := by decide +kernel
theorem t_X12_luckOf_155 : decode prog_14_method_74_code 155 = .ok (.iconst 1, 1) := by decide +kernel
theorem t_X12_luckOf_156 : decode prog_14_method_74_code 156 = .ok (.iadd, 1) := by decide +kernel
theorem t_X12_luckOf_157 : decode prog_14_method_74_code 157 = .ok (.aaload, 1) := by decide +kernel
theorem t_X12_luckOf_158 : decode prog_14_method_74_code 158 = .ok (.iload 10, 2) := by decide +kernel
theorem t_X12_luckOf_160 : decode prog_14_method_74_code 160 = .ok (.invokevirtual 272, 3) := by decide +kernel
theorem t_X12_luckOf_163 : decode prog_14_method_74_code 163 = .ok (.lload 8, 2) := by decide +kernel
theorem t_X12_luckOf_165 : decode prog_14_method_74_code 165 = .ok (.ldc2_w 342, 3) := by decide +kernel
theorem t_X12_luckOf_168 : decode prog_14_method_74_code 168 = .ok (.iload 7, 2) := by decide +kernel
theorem t_X12_luckOf_170 : decode prog_14_method_74_code 170 = .ok (.i2l, 1) := by decide +kernel
theorem t_X12_luckOf_171 : decode prog_14_method_74_code 171 = .ok (.ldiv, 1) := by decide +kernel
theorem t_X12_luckOf_172 : decode prog_14_method_74_code 172 = .ok (.aload_n 0, 1) := by decide +kernel
theorem t_X12_luckOf_173 : decode prog_14_method_74_code 173 = .ok (.iload_n 1, 1) := by decide +kernel
theorem t_X12_luckOf_174 : decode prog_14_method_74_code 174 = .ok (.iconst 1, 1) := by decide +kernel
theorem t_X12_luckOf_175 : decode prog_14_method_74_code 175 = .ok (.iadd, 1) := by decide +kernel
theorem t_X12_luckOf_176 : decode prog_14_method_74_code 176 = .ok (.iload_n 2, 1) := by decide +kernel
theorem t_X12_luckOf_177 : decode prog_14_method_74_code 177 = .ok (.iload_n 3, 1) := by decide +kernel
theorem t_X12_luckOf_178 : decode prog_14_method_74_code 178 = .ok (.invokevirtual 344, 3) := by decide +kernel
theorem t_X12_luckOf_181 : decode prog_14_method_74_code 181 = .ok (.lmul, 1) := by decide +kernel
theorem t_X12_luckOf_182 : decode prog_14_method_74_code 182 = .ok (.ladd, 1) := by decide +kernel
theorem t_X12_luckOf_183 : decode prog_14_method_74_code 183 = .ok (.lstore 8, 2) := by decide +kernel
theorem t_X12_luckOf_185 : decode prog_14_method_74_code 185 = .ok (.iinc 10 1, 3) := by decide +kernel
theorem t_X12_luckOf_188 : decode prog_14_method_74_code 188 = .ok (.goto (-76), 3) := by decide +kernel
theorem t_X12_luckOf_191 : decode prog_14_method_74_code 191 = .ok (.lload 8, 2) := by decide +kernel
theorem t_X12_luckOf_193 : decode prog_14_method_74_code 193 = .ok (.lreturn, 1) := by decide +kernel
def y_X12_luck : MethodName := ⟨"SowingBoardsModel", "luck", "(II)I"⟩
theorem t_X12_luck_0 : decode prog_14_method_75_code 0 = .ok (.aload_n 0, 1) := by decide +kernel
theorem t_X12_luck_1 : decode prog_14_method_75_code 1 = .ok (.iconst 0, 1) := by decide +kernel
theorem t_X12_luck_2 : decode prog_14_method_75_code 2 = .ok (.putfield 109, 3) := by decide +kernel
theorem t_X12_luck_5 : decode prog_14_method_75_code 5 = .ok (.iload_n 1, 1) := by decide +kernel
theorem t_X12_luck_6 : decode prog_14_method_75_code 6 = .ok (.iconst 0, 1) := by decide +kernel
theorem t_X12_luck_7 : decode prog_14_method_75_code 7 = .ok (.iconst 4, 1) := by decide +kernel
theorem t_X12_luck_8 : decode prog_14_method_75_code 8 = .ok (.invokestatic 118, 3) := by decide +kernel
theorem t_X12_luck_11 : decode prog_14_method_75_code 11 = .ok (.ifCond .eq 13, 3) := by decide +kernel
theorem t_X12_luck_14 : decode prog_14_method_75_code 14 = .ok (.iload_n 2, 1) := by decide +kernel
theorem t_X12_luck_15 : decode prog_14_method_75_code 15 = .ok (.iconst 0, 1) := by decide +kernel
theorem t_X12_luck_16 : decode prog_14_method_75_code 16 = .ok (.bipush 108, 2) := by decide +kernel
theorem t_X12_luck_18 : decode prog_14_method_75_code 18 = .ok (.invokestatic 118, 3) := by decide +kernel
theorem t_X12_luck_21 : decode prog_14_method_75_code 21 = .ok (.ifCond .ne 5, 3) := by decide +kernel
theorem t_X12_luck_24 : decode prog_14_method_75_code 24 = .ok (.iconst (-1), 1) := by decide +kernel
theorem t_X12_luck_25 : decode prog_14_method_75_code 25 = .ok (.ireturn, 1) := by decide +kernel
theorem t_X12_luck_26 : decode prog_14_method_75_code 26 = .ok (.aload_n 0, 1) := by decide +kernel
theorem t_X12_luck_27 : decode prog_14_method_75_code 27 = .ok (.getfield 9, 3) := by decide +kernel
theorem t_X12_luck_30 : decode prog_14_method_75_code 30 = .ok (.aload_n 0, 1) := by decide +kernel
theorem t_X12_luck_31 : decode prog_14_method_75_code 31 = .ok (.getfield 57, 3) := by decide +kernel
theorem t_X12_luck_34 : decode prog_14_method_75_code 34 = .ok (.iconst 0, 1) := by decide +kernel
theorem t_X12_luck_35 : decode prog_14_method_75_code 35 = .ok (.aaload, 1) := by decide +kernel
theorem t_X12_luck_36 : decode prog_14_method_75_code 36 = .ok (.iconst 0, 1) := by decide +kernel
theorem t_X12_luck_37 : decode prog_14_method_75_code 37 = .ok (.invokestatic 256, 3) := by decide +kernel
theorem t_X12_luck_40 : decode prog_14_method_75_code 40 = .ok (.aload_n 0, 1) := by decide +kernel
theorem t_X12_luck_41 : decode prog_14_method_75_code 41 = .ok (.iconst 0, 1) := by decide +kernel
theorem t_X12_luck_42 : decode prog_14_method_75_code 42 = .ok (.iload_n 1, 1) := by decide +kernel
theorem t_X12_luck_43 : decode prog_14_method_75_code 43 = .ok (.iload_n 2, 1) := by decide +kernel
theorem t_X12_luck_44 : decode prog_14_method_75_code 44 = .ok (.invokevirtual 344, 3) := by decide +kernel
theorem t_X12_luck_47 : decode prog_14_method_75_code 47 = .ok (.lstore_n 3, 1) := by decide +kernel
theorem t_X12_luck_48 : decode prog_14_method_75_code 48 = .ok (.lconst 1, 1) := by decide +kernel
theorem t_X12_luck_49 : decode prog_14_method_75_code 49 = .ok (.lstore 5, 2) := by decide +kernel
theorem t_X12_luck_51 : decode prog_14_method_75_code 51 = .ok (.iconst 0, 1) := by decide +kernel
theorem t_X12_luck_52 : decode prog_14_method_75_code 52 = .ok (.istore 7, 2) := by decide +kernel
theorem t_X12_luck_54 : decode prog_14_method_75_code 54 = .ok (.iload 7, 2) := by decide +kernel
theorem t_X12_luck_56 : decode prog_14_method_75_code 56 = .ok (.iload_n 1, 1) := by decide +kernel
theorem t_X12_luck_57 : decode prog_14_method_75_code 57 = .ok (.if_icmp .ge 17, 3) := by decide +kernel
theorem t_X12_luck_60 : decode prog_14_method_75_code 60 = .ok (.lload 5, 2) := by decide +kernel
theorem t_X12_luck_62 : decode prog_14_method_75_code 62 = .ok (.ldc2_w 342, 3) := by decide +kernel
theorem t_X12_luck_65 : decode prog_14_method_75_code 65 = .ok (.lmul, 1) := by decide +kernel
theorem t_X12_luck_66 : decode prog_14_method_75_code 66 = .ok (.lstore 5, 2) := by decide +kernel
theorem t_X12_luck_68 : decode prog_14_method_75_code 68 = .ok (.iinc 7 1, 3) := by decide +kernel
theorem t_X12_luck_71 : decode prog_14_method_75_code 71 = .ok (.goto (-17), 3) := by decide +kernel
theorem t_X12_luck_74 : decode prog_14_method_75_code 74 = .ok (.lload_n 3, 1) := by decide +kernel
theorem t_X12_luck_75 : decode prog_14_method_75_code 75 = .ok (.lload 5, 2) := by decide +kernel
theorem t_X12_luck_77 : decode prog_14_method_75_code 77 = .ok (.invokestatic 338, 3) := by decide +kernel
theorem t_X12_luck_80 : decode prog_14_method_75_code 80 = .ok (.lstore 7, 2) := by decide +kernel
theorem t_X12_luck_82 : decode prog_14_method_75_code 82 = .ok (.aload_n 0, 1) := by decide +kernel
theorem t_X12_luck_83 : decode prog_14_method_75_code 83 = .ok (.iconst 0, 1) := by decide +kernel
theorem t_X12_luck_84 : decode prog_14_method_75_code 84 = .ok (.putfield 112, 3) := by decide +kernel
theorem t_X12_luck_87 : decode prog_14_method_75_code 87 = .ok (.aload_n 0, 1) := by decide +kernel
theorem t_X12_luck_88 : decode prog_14_method_75_code 88 = .ok (.lload_n 3, 1) := by decide +kernel
theorem t_X12_luck_89 : decode prog_14_method_75_code 89 = .ok (.lload 7, 2) := by decide +kernel
theorem t_X12_luck_91 : decode prog_14_method_75_code 91 = .ok (.ldiv, 1) := by decide +kernel
theorem t_X12_luck_92 : decode prog_14_method_75_code 92 = .ok (.invokevirtual 260, 3) := by decide +kernel
theorem t_X12_luck_95 : decode prog_14_method_75_code 95 = .ok (.aload_n 0, 1) := by decide +kernel
theorem t_X12_luck_96 : decode prog_14_method_75_code 96 = .ok (.lload 5, 2) := by decide +kernel
theorem t_X12_luck_98 : decode prog_14_method_75_code 98 = .ok (.lload 7, 2) := by decide +kernel
theorem t_X12_luck_100 : decode prog_14_method_75_code 100 = .ok (.ldiv, 1) := by decide +kernel
theorem t_X12_luck_101 : decode prog_14_method_75_code 101 = .ok (.invokevirtual 260, 3) := by decide +kernel
theorem t_X12_luck_104 : decode prog_14_method_75_code 104 = .ok (.iconst 0, 1) := by decide +kernel
theorem t_X12_luck_105 : decode prog_14_method_75_code 105 = .ok (.ireturn, 1) := by decide +kernel
def y_X12_when : MethodName := ⟨"SowingBoardsModel", "when", "(I)I"⟩
theorem t_X12_when_0 : decode prog_14_method_76_code 0 = .ok (.aload_n 0, 1) := by decide +kernel
theorem t_X12_when_1 : decode prog_14_method_76_code 1 = .ok (.iconst 0, 1) := by decide +kernel
theorem t_X12_when_2 : decode prog_14_method_76_code 2 = .ok (.putfield 109, 3) := by decide +kernel
theorem t_X12_when_5 : decode prog_14_method_76_code 5 = .ok (.iload_n 1, 1) := by decide +kernel
theorem t_X12_when_6 : decode prog_14_method_76_code 6 = .ok (.iconst 0, 1) := by decide +kernel
theorem t_X12_when_7 : decode prog_14_method_76_code 7 = .ok (.aload_n 0, 1) := by decide +kernel
theorem t_X12_when_8 : decode prog_14_method_76_code 8 = .ok (.invokevirtual 214, 3) := by decide +kernel
theorem t_X12_when_11 : decode prog_14_method_76_code 11 = .ok (.iconst 1, 1) := by decide +kernel
theorem t_X12_when_12 : decode prog_14_method_76_code 12 = .ok (.isub, 1) := by decide +kernel
theorem t_X12_when_13 : decode prog_14_method_76_code 13 = .ok (.invokestatic 118, 3) := by decide +kernel
theorem t_X12_when_16 : decode prog_14_method_76_code 16 = .ok (.ifCond .ne 5, 3) := by decide +kernel
theorem t_X12_when_19 : decode prog_14_method_76_code 19 = .ok (.iconst (-1), 1) := by decide +kernel
theorem t_X12_when_20 : decode prog_14_method_76_code 20 = .ok (.ireturn, 1) := by decide +kernel
theorem t_X12_when_21 : decode prog_14_method_76_code 21 = .ok (.aload_n 0, 1) := by decide +kernel
theorem t_X12_when_22 : decode prog_14_method_76_code 22 = .ok (.getfield 9, 3) := by decide +kernel
theorem t_X12_when_25 : decode prog_14_method_76_code 25 = .ok (.aload_n 0, 1) := by decide +kernel
theorem t_X12_when_26 : decode prog_14_method_76_code 26 = .ok (.getfield 46, 3) := by decide +kernel
theorem t_X12_when_29 : decode prog_14_method_76_code 29 = .ok (.iconst 0, 1) := by decide +kernel
theorem t_X12_when_30 : decode prog_14_method_76_code 30 = .ok (.invokestatic 256, 3) := by decide +kernel
theorem t_X12_when_33 : decode prog_14_method_76_code 33 = .ok (.iconst 0, 1) := by decide +kernel
theorem t_X12_when_34 : decode prog_14_method_76_code 34 = .ok (.istore_n 2, 1) := by decide +kernel
theorem t_X12_when_35 : decode prog_14_method_76_code 35 = .ok (.iload_n 2, 1) := by decide +kernel
theorem t_X12_when_36 : decode prog_14_method_76_code 36 = .ok (.bipush 60, 2) := by decide +kernel
theorem t_X12_when_38 : decode prog_14_method_76_code 38 = .ok (.if_icmp .gt 63, 3) := by decide +kernel
theorem t_X12_when_41 : decode prog_14_method_76_code 41 = .ok (.aload_n 0, 1) := by decide +kernel
theorem t_X12_when_42 : decode prog_14_method_76_code 42 = .ok (.getfield 46, 3) := by decide +kernel
theorem t_X12_when_45 : decode prog_14_method_76_code 45 = .ok (.iload_n 1, 1) := by decide +kernel
theorem t_X12_when_46 : decode prog_14_method_76_code 46 = .ok (.iaload, 1) := by decide +kernel
theorem t_X12_when_47 : decode prog_14_method_76_code 47 = .ok (.ifCond .ne 34, 3) := by decide +kernel
theorem t_X12_when_50 : decode prog_14_method_76_code 50 = .ok (.aload_n 0, 1) := by decide +kernel
theorem t_X12_when_51 : decode prog_14_method_76_code 51 = .ok (.iconst 0, 1) := by decide +kernel
theorem t_X12_when_52 : decode prog_14_method_76_code 52 = .ok (.putfield 112, 3) := by decide +kernel
theorem t_X12_when_55 : decode prog_14_method_76_code 55 = .ok (.aload_n 0, 1) := by decide +kernel
theorem t_X12_when_56 : decode prog_14_method_76_code 56 = .ok (.aload_n 0, 1) := by decide +kernel
theorem t_X12_when_57 : decode prog_14_method_76_code 57 = .ok (.getfield 46, 3) := by decide +kernel
theorem t_X12_when_60 : decode prog_14_method_76_code 60 = .ok (.bipush 12, 2) := by decide +kernel
theorem t_X12_when_62 : decode prog_14_method_76_code 62 = .ok (.iaload, 1) := by decide +kernel
theorem t_X12_when_63 : decode prog_14_method_76_code 63 = .ok (.i2l, 1) := by decide +kernel
theorem t_X12_when_64 : decode prog_14_method_76_code 64 = .ok (.invokevirtual 260, 3) := by decide +kernel
theorem t_X12_when_67 : decode prog_14_method_76_code 67 = .ok (.aload_n 0, 1) := by decide +kernel
theorem t_X12_when_68 : decode prog_14_method_76_code 68 = .ok (.aload_n 0, 1) := by decide +kernel
theorem t_X12_when_69 : decode prog_14_method_76_code 69 = .ok (.getfield 46, 3) := by decide +kernel
theorem t_X12_when_72 : decode prog_14_method_76_code 72 = .ok (.bipush 13, 2) := by decide +kernel
theorem t_X12_when_74 : decode prog_14_method_76_code 74 = .ok (.iaload, 1) := by decide +kernel
theorem t_X12_when_75 : decode prog_14_method_76_code 75 = .ok (.i2l, 1) := by decide +kernel
theorem t_X12_when_76 : decode prog_14_method_76_code 76 = .ok (.invokevirtual 260, 3) := by decide +kernel
theorem t_X12_when_79 : decode prog_14_method_76_code 79 = .ok (.iload_n 2, 1) := by decide +kernel
theorem t_X12_when_80 : decode prog_14_method_76_code 80 = .ok (.ireturn, 1) := by decide +kernel
theorem t_X12_when_81 : decode prog_14_method_76_code 81 = .ok (.aload_n 0, 1) := by decide +kernel
theorem t_X12_when_82 : decode prog_14_method_76_code 82 = .ok (.aload_n 0, 1) := by decide +kernel
theorem t_X12_when_83 : decode prog_14_method_76_code 83 = .ok (.getfield 46, 3) := by decide +kernel
theorem t_X12_when_86 : decode prog_14_method_76_code 86 = .ok (.invokevirtual 289, 3) := by decide +kernel
theorem t_X12_when_89 : decode prog_14_method_76_code 89 = .ok (.ifCond .ne 6, 3) := by decide +kernel
theorem t_X12_when_92 : decode prog_14_method_76_code 92 = .ok (.bipush (-2), 2) := by decide +kernel
theorem t_X12_when_94 : decode prog_14_method_76_code 94 = .ok (.ireturn, 1) := by decide +kernel
theorem t_X12_when_95 : decode prog_14_method_76_code 95 = .ok (.iinc 2 1, 3) := by decide +kernel
theorem t_X12_when_98 : decode prog_14_method_76_code 98 = .ok (.goto (-63), 3) := by decide +kernel
theorem t_X12_when_101 : decode prog_14_method_76_code 101 = .ok (.bipush (-2), 2) := by decide +kernel
theorem t_X12_when_103 : decode prog_14_method_76_code 103 = .ok (.ireturn, 1) := by decide +kernel
def y_X12_ends : MethodName := ⟨"SowingBoardsModel", "ends", "()I"⟩
theorem t_X12_ends_0 : decode prog_14_method_77_code 0 = .ok (.aload_n 0, 1) := by decide +kernel
theorem t_X12_ends_1 : decode prog_14_method_77_code 1 = .ok (.iconst 0, 1) := by decide +kernel
theorem t_X12_ends_2 : decode prog_14_method_77_code 2 = .ok (.putfield 109, 3) := by decide +kernel
theorem t_X12_ends_5 : decode prog_14_method_77_code 5 = .ok (.aload_n 0, 1) := by decide +kernel
theorem t_X12_ends_6 : decode prog_14_method_77_code 6 = .ok (.getfield 9, 3) := by decide +kernel
theorem t_X12_ends_9 : decode prog_14_method_77_code 9 = .ok (.aload_n 0, 1) := by decide +kernel
theorem t_X12_ends_10 : decode prog_14_method_77_code 10 = .ok (.getfield 46, 3) := by decide +kernel
theorem t_X12_ends_13 : decode prog_14_method_77_code 13 = .ok (.iconst 0, 1) := by decide +kernel
theorem t_X12_ends_14 : decode prog_14_method_77_code 14 = .ok (.invokestatic 256, 3) := by decide +kernel
theorem t_X12_ends_17 : decode prog_14_method_77_code 17 = .ok (.iconst 0, 1) := by decide +kernel
theorem t_X12_ends_18 : decode prog_14_method_77_code 18 = .ok (.istore_n 1, 1) := by decide +kernel
theorem t_X12_ends_19 : decode prog_14_method_77_code 19 = .ok (.iload_n 1, 1) := by decide +kernel
theorem t_X12_ends_20 : decode prog_14_method_77_code 20 = .ok (.bipush 99, 2) := by decide +kernel
theorem t_X12_ends_22 : decode prog_14_method_77_code 22 = .ok (.if_icmp .gt 91, 3) := by decide +kernel
theorem t_X12_ends_25 : decode prog_14_method_77_code 25 = .ok (.aload_n 0, 1) := by decide +kernel
theorem t_X12_ends_26 : decode prog_14_method_77_code 26 = .ok (.aload_n 0, 1) := by decide +kernel
theorem t_X12_ends_27 : decode prog_14_method_77_code 27 = .ok (.getfield 46, 3) := by decide +kernel
theorem t_X12_ends_30 : decode prog_14_method_77_code 30 = .ok (.invokevirtual 282, 3) := by decide +kernel
theorem t_X12_ends_33 : decode prog_14_method_77_code 33 = .ok (.ifCond .eq 65, 3) := by decide +kernel
theorem t_X12_ends_36 : decode prog_14_method_77_code 36 = .ok (.aload_n 0, 1) := by decide +kernel
theorem t_X12_ends_37 : decode prog_14_method_77_code 37 = .ok (.iconst 0, 1) := by decide +kernel
theorem t_X12_ends_38 : decode prog_14_method_77_code 38 = .ok (.putfield 112, 3) := by decide +kernel
theorem t_X12_ends_41 : decode prog_14_method_77_code 41 = .ok (.aload_n 0, 1) := by decide +kernel
theorem t_X12_ends_42 : decode prog_14_method_77_code 42 = .ok (.aload_n 0, 1) := by decide +kernel
theorem t_X12_ends_43 : decode prog_14_method_77_code 43 = .ok (.getfield 46, 3) := by decide +kernel
theorem t_X12_ends_46 : decode prog_14_method_77_code 46 = .ok (.bipush 12, 2) := by decide +kernel
theorem t_X12_ends_48 : decode prog_14_method_77_code 48 = .ok (.iaload, 1) := by decide +kernel
theorem t_X12_ends_49 : decode prog_14_method_77_code 49 = .ok (.aload_n 0, 1) := by decide +kernel
theorem t_X12_ends_50 : decode prog_14_method_77_code 50 = .ok (.aload_n 0, 1) := by decide +kernel
theorem t_X12_ends_51 : decode prog_14_method_77_code 51 = .ok (.getfield 46, 3) := by decide +kernel
theorem t_X12_ends_54 : decode prog_14_method_77_code 54 = .ok (.iconst 0, 1) := by decide +kernel
theorem t_X12_ends_55 : decode prog_14_method_77_code 55 = .ok (.aload_n 0, 1) := by decide +kernel
theorem t_X12_ends_56 : decode prog_14_method_77_code 56 = .ok (.getfield 13, 3) := by decide +kernel
theorem t_X12_ends_59 : decode prog_14_method_77_code 59 = .ok (.invokevirtual 229, 3) := by decide +kernel
theorem t_X12_ends_62 : decode prog_14_method_77_code 62 = .ok (.iadd, 1) := by decide +kernel
theorem t_X12_ends_63 : decode prog_14_method_77_code 63 = .ok (.i2l, 1) := by decide +kernel
theorem t_X12_ends_64 : decode prog_14_method_77_code 64 = .ok (.invokevirtual 260, 3) := by decide +kernel
theorem t_X12_ends_67 : decode prog_14_method_77_code 67 = .ok (.aload_n 0, 1) := by decide +kernel
theorem t_X12_ends_68 : decode prog_14_method_77_code 68 = .ok (.aload_n 0, 1) := by decide +kernel
theorem t_X12_ends_69 : decode prog_14_method_77_code 69 = .ok (.getfield 46, 3) := by decide +kernel
theorem t_X12_ends_72 : decode prog_14_method_77_code 72 = .ok (.bipush 13, 2) := by decide +kernel
theorem t_X12_ends_74 : decode prog_14_method_77_code 74 = .ok (.iaload, 1) := by decide +kernel
theorem t_X12_ends_75 : decode prog_14_method_77_code 75 = .ok (.aload_n 0, 1) := by decide +kernel
theorem t_X12_ends_76 : decode prog_14_method_77_code 76 = .ok (.aload_n 0, 1) := by decide +kernel
theorem t_X12_ends_77 : decode prog_14_method_77_code 77 = .ok (.getfield 46, 3) := by decide +kernel
theorem t_X12_ends_80 : decode prog_14_method_77_code 80 = .ok (.aload_n 0, 1) := by decide +kernel
theorem t_X12_ends_81 : decode prog_14_method_77_code 81 = .ok (.getfield 13, 3) := by decide +kernel
theorem t_X12_ends_84 : decode prog_14_method_77_code 84 = .ok (.aload_n 0, 1) := by decide +kernel
theorem t_X12_ends_85 : decode prog_14_method_77_code 85 = .ok (.getfield 13, 3) := by decide +kernel
theorem t_X12_ends_88 : decode prog_14_method_77_code 88 = .ok (.invokevirtual 229, 3) := by decide +kernel
theorem t_X12_ends_91 : decode prog_14_method_77_code 91 = .ok (.iadd, 1) := by decide +kernel
theorem t_X12_ends_92 : decode prog_14_method_77_code 92 = .ok (.i2l, 1) := by decide +kernel
theorem t_X12_ends_93 : decode prog_14_method_77_code 93 = .ok (.invokevirtual 260, 3) := by decide +kernel
theorem t_X12_ends_96 : decode prog_14_method_77_code 96 = .ok (.iload_n 1, 1) := by decide +kernel
theorem t_X12_ends_97 : decode prog_14_method_77_code 97 = .ok (.ireturn, 1) := by decide +kernel
theorem t_X12_ends_98 : decode prog_14_method_77_code 98 = .ok (.aload_n 0, 1) := by decide +kernel
theorem t_X12_ends_99 : decode prog_14_method_77_code 99 = .ok (.aload_n 0, 1) := by decide +kernel
theorem t_X12_ends_100 : decode prog_14_method_77_code 100 = .ok (.getfield 46, 3) := by decide +kernel
theorem t_X12_ends_103 : decode prog_14_method_77_code 103 = .ok (.invokevirtual 289, 3) := by decide +kernel
theorem t_X12_ends_106 : decode prog_14_method_77_code 106 = .ok (.pop, 1) := by decide +kernel
theorem t_X12_ends_107 : decode prog_14_method_77_code 107 = .ok (.iinc 1 1, 3) := by decide +kernel
theorem t_X12_ends_110 : decode prog_14_method_77_code 110 = .ok (.goto (-91), 3) := by decide +kernel
theorem t_X12_ends_113 : decode prog_14_method_77_code 113 = .ok (.bipush (-2), 2) := by decide +kernel
theorem t_X12_ends_115 : decode prog_14_method_77_code 115 = .ok (.ireturn, 1) := by decide +kernel
def y_X12_isGone : MethodName := ⟨"SowingBoardsModel", "isGone", "(II)Z"⟩
theorem t_X12_isGone_0 : decode prog_14_method_78_code 0 = .ok (.iconst 0, 1) := by decide +kernel
theorem t_X12_isGone_1 : decode prog_14_method_78_code 1 = .ok (.istore_n 3, 1) := by decide +kernel
theorem t_X12_isGone_2 : decode prog_14_method_78_code 2 = .ok (.iload_n 3, 1) := by decide +kernel
theorem t_X12_isGone_3 : decode prog_14_method_78_code 3 = .ok (.bipush 15, 2) := by decide +kernel
theorem t_X12_isGone_5 : decode prog_14_method_78_code 5 = .ok (.if_icmp .ge 36, 3) := by decide +kernel
theorem t_X12_isGone_8 : decode prog_14_method_78_code 8 = .ok (.aload_n 0, 1) := by decide +kernel
theorem t_X12_isGone_9 : decode prog_14_method_78_code 9 = .ok (.getfield 75, 3) := by decide +kernel
theorem t_X12_isGone_12 : decode prog_14_method_78_code 12 = .ok (.bipush 16, 2) := by decide +kernel
theorem t_X12_isGone_14 : decode prog_14_method_78_code 14 = .ok (.iload_n 1, 1) := by decide +kernel
theorem t_X12_isGone_15 : decode prog_14_method_78_code 15 = .ok (.imul, 1) := by decide +kernel
theorem t_X12_isGone_16 : decode prog_14_method_78_code 16 = .ok (.iload_n 3, 1) := by decide +kernel
theorem t_X12_isGone_17 : decode prog_14_method_78_code 17 = .ok (.iadd, 1) := by decide +kernel
theorem t_X12_isGone_18 : decode prog_14_method_78_code 18 = .ok (.iaload, 1) := by decide +kernel
theorem t_X12_isGone_19 : decode prog_14_method_78_code 19 = .ok (.aload_n 0, 1) := by decide +kernel
theorem t_X12_isGone_20 : decode prog_14_method_78_code 20 = .ok (.getfield 75, 3) := by decide +kernel
theorem t_X12_isGone_23 : decode prog_14_method_78_code 23 = .ok (.bipush 16, 2) := by decide +kernel
theorem t_X12_isGone_25 : decode prog_14_method_78_code 25 = .ok (.iload_n 2, 1) := by decide +kernel
theorem t_X12_isGone_26 : decode prog_14_method_78_code 26 = .ok (.imul, 1) := by decide +kernel
theorem t_X12_isGone_27 : decode prog_14_method_78_code 27 = .ok (.iload_n 3, 1) := by decide +kernel
theorem t_X12_isGone_28 : decode prog_14_method_78_code 28 = .ok (.iadd, 1) := by decide +kernel
theorem t_X12_isGone_29 : decode prog_14_method_78_code 29 = .ok (.iaload, 1) := by decide +kernel
theorem t_X12_isGone_30 : decode prog_14_method_78_code 30 = .ok (.if_icmp .eq 5, 3) := by decide +kernel
theorem t_X12_isGone_33 : decode prog_14_method_78_code 33 = .ok (.iconst 0, 1) := by decide +kernel
theorem t_X12_isGone_34 : decode prog_14_method_78_code 34 = .ok (.ireturn, 1) := by decide +kernel
theorem t_X12_isGone_35 : decode prog_14_method_78_code 35 = .ok (.iinc 3 1, 3) := by decide +kernel
theorem t_X12_isGone_38 : decode prog_14_method_78_code 38 = .ok (.goto (-36), 3) := by decide +kernel
theorem t_X12_isGone_41 : decode prog_14_method_78_code 41 = .ok (.iconst 1, 1) := by decide +kernel
theorem t_X12_isGone_42 : decode prog_14_method_78_code 42 = .ok (.ireturn, 1) := by decide +kernel
def y_X12_round : MethodName := ⟨"SowingBoardsModel", "round", "()I"⟩
theorem t_X12_round_0 : decode prog_14_method_79_code 0 = .ok (.aload_n 0, 1) := by decide +kernel
theorem t_X12_round_1 : decode prog_14_method_79_code 1 = .ok (.iconst 0, 1) := by decide +kernel
theorem t_X12_round_2 : decode prog_14_method_79_code 2 = .ok (.putfield 109, 3) := by decide +kernel
theorem t_X12_round_5 : decode prog_14_method_79_code 5 = .ok (.aload_n 0, 1) := by decide +kernel
theorem t_X12_round_6 : decode prog_14_method_79_code 6 = .ok (.getfield 9, 3) := by decide +kernel
theorem t_X12_round_9 : decode prog_14_method_79_code 9 = .ok (.aload_n 0, 1) := by decide +kernel
theorem t_X12_round_10 : decode prog_14_method_79_code 10 = .ok (.getfield 46, 3) := by decide +kernel
theorem t_X12_round_13 : decode prog_14_method_79_code 13 = .ok (.iconst 0, 1) := by decide +kernel
theorem t_X12_round_14 : decode prog_14_method_79_code 14 = .ok (.invokestatic 256, 3) := by decide +kernel
theorem t_X12_round_17 : decode prog_14_method_79_code 17 = .ok (.aload_n 0, 1) := by decide +kernel
theorem t_X12_round_18 : decode prog_14_method_79_code 18 = .ok (.getfield 46, 3) := by decide +kernel
theorem t_X12_round_21 : decode prog_14_method_79_code 21 = .ok (.aload_n 0, 1) := by decide +kernel
theorem t_X12_round_22 : decode prog_14_method_79_code 22 = .ok (.getfield 75, 3) := by decide +kernel
theorem t_X12_round_25 : decode prog_14_method_79_code 25 = .ok (.iconst 0, 1) := by decide +kernel
theorem t_X12_round_26 : decode prog_14_method_79_code 26 = .ok (.invokestatic 256, 3) := by decide +kernel
theorem t_X12_round_29 : decode prog_14_method_79_code 29 = .ok (.iconst 1, 1) := by decide +kernel
theorem t_X12_round_30 : decode prog_14_method_79_code 30 = .ok (.istore_n 1, 1) := by decide +kernel
theorem t_X12_round_31 : decode prog_14_method_79_code 31 = .ok (.iload_n 1, 1) := by decide +kernel
theorem t_X12_round_32 : decode prog_14_method_79_code 32 = .ok (.bipush 60, 2) := by decide +kernel
theorem t_X12_round_34 : decode prog_14_method_79_code 34 = .ok (.if_icmp .gt 76, 3) := by decide +kernel
theorem t_X12_round_37 : decode prog_14_method_79_code 37 = .ok (.aload_n 0, 1) := by decide +kernel
theorem t_X12_round_38 : decode prog_14_method_79_code 38 = .ok (.aload_n 0, 1) := by decide +kernel
theorem t_X12_round_39 : decode prog_14_method_79_code 39 = .ok (.getfield 46, 3) := by decide +kernel
theorem t_X12_round_42 : decode prog_14_method_79_code 42 = .ok (.invokevirtual 289, 3) := by decide +kernel
theorem t_X12_round_45 : decode prog_14_method_79_code 45 = .ok (.ifCond .ne 6, 3) := by decide +kernel
theorem t_X12_round_48 : decode prog_14_method_79_code 48 = .ok (.bipush (-2), 2) := by decide +kernel
theorem t_X12_round_50 : decode prog_14_method_79_code 50 = .ok (.ireturn, 1) := by decide +kernel
theorem t_X12_round_51 : decode prog_14_method_79_code 51 = .ok (.aload_n 0, 1) := by decide +kernel
theorem t_X12_round_52 : decode prog_14_method_79_code 52 = .ok (.getfield 46, 3) := by decide +kernel
theorem t_X12_round_55 : decode prog_14_method_79_code 55 = .ok (.aload_n 0, 1) := by decide +kernel
theorem t_X12_round_56 : decode prog_14_method_79_code 56 = .ok (.getfield 75, 3) := by decide +kernel
theorem t_X12_round_59 : decode prog_14_method_79_code 59 = .ok (.bipush 16, 2) := by decide +kernel
theorem t_X12_round_61 : decode prog_14_method_79_code 61 = .ok (.iload_n 1, 1) := by decide +kernel
theorem t_X12_round_62 : decode prog_14_method_79_code 62 = .ok (.imul, 1) := by decide +kernel
theorem t_X12_round_63 : decode prog_14_method_79_code 63 = .ok (.invokestatic 256, 3) := by decide +kernel
theorem t_X12_round_66 : decode prog_14_method_79_code 66 = .ok (.iconst 0, 1) := by decide +kernel
theorem t_X12_round_67 : decode prog_14_method_79_code 67 = .ok (.istore_n 2, 1) := by decide +kernel
theorem t_X12_round_68 : decode prog_14_method_79_code 68 = .ok (.iload_n 2, 1) := by decide +kernel
theorem t_X12_round_69 : decode prog_14_method_79_code 69 = .ok (.iload_n 1, 1) := by decide +kernel
theorem t_X12_round_70 : decode prog_14_method_79_code 70 = .ok (.if_icmp .ge 34, 3) := by decide +kernel
theorem t_X12_round_73 : decode prog_14_method_79_code 73 = .ok (.aload_n 0, 1) := by decide +kernel
theorem t_X12_round_74 : decode prog_14_method_79_code 74 = .ok (.iload_n 2, 1) := by decide +kernel
theorem t_X12_round_75 : decode prog_14_method_79_code 75 = .ok (.iload_n 1, 1) := by decide +kernel
theorem t_X12_round_76 : decode prog_14_method_79_code 76 = .ok (.invokevirtual 348, 3) := by decide +kernel
theorem t_X12_round_79 : decode prog_14_method_79_code 79 = .ok (.ifCond .ne 6, 3) := by decide +kernel
theorem t_X12_round_82 : decode prog_14_method_79_code 82 = .ok (.goto 16, 3) := by decide +kernel
theorem t_X12_round_85 : decode prog_14_method_79_code 85 = .ok (.aload_n 0, 1) := by decide +kernel
theorem t_X12_round_86 : decode prog_14_method_79_code 86 = .ok (.iconst 0, 1) := by decide +kernel
theorem t_X12_round_87 : decode prog_14_method_79_code 87 = .ok (.putfield 112, 3) := by decide +kernel
theorem t_X12_round_90 : decode prog_14_method_79_code 90 = .ok (.aload_n 0, 1) := by decide +kernel
theorem t_X12_round_91 : decode prog_14_method_79_code 91 = .ok (.iload_n 2, 1) := by decide +kernel
theorem t_X12_round_92 : decode prog_14_method_79_code 92 = .ok (.i2l, 1) := by decide +kernel
theorem t_X12_round_93 : decode prog_14_method_79_code 93 = .ok (.invokevirtual 260, 3) := by decide +kernel
theorem t_X12_round_96 : decode prog_14_method_79_code 96 = .ok (.iload_n 1, 1) := by decide +kernel
theorem t_X12_round_97 : decode prog_14_method_79_code 97 = .ok (.ireturn, 1) := by decide +kernel
theorem t_X12_round_98 : decode prog_14_method_79_code 98 = .ok (.iinc 2 1, 3) := by decide +kernel
theorem t_X12_round_101 : decode prog_14_method_79_code 101 = .ok (.goto (-33), 3) := by decide +kernel
theorem t_X12_round_104 : decode prog_14_method_79_code 104 = .ok (.iinc 1 1, 3) := by decide +kernel
theorem t_X12_round_107 : decode prog_14_method_79_code 107 = .ok (.goto (-76), 3) := by decide +kernel
theorem t_X12_round_110 : decode prog_14_method_79_code 110 = .ok (.bipush (-2), 2) := by decide +kernel
theorem t_X12_round_112 : decode prog_14_method_79_code 112 = .ok (.ireturn, 1) := by decide +kernel
def y_X12_fullest : MethodName := ⟨"SowingBoardsModel", "fullest", "(I)I"⟩
theorem t_X12_fullest_0 : decode prog_14_method_80_code 0 = .ok (.aload_n 0, 1) := by decide +kernel
theorem t_X12_fullest_1 : decode prog_14_method_80_code 1 = .ok (.iconst 0, 1) := by decide +kernel
theorem t_X12_fullest_2 : decode prog_14_method_80_code 2 = .ok (.putfield 109, 3) := by decide +kernel
theorem t_X12_fullest_5 : decode prog_14_method_80_code 5 = .ok (.iload_n 1, 1) := by decide +kernel
theorem t_X12_fullest_6 : decode prog_14_method_80_code 6 = .ok (.iconst 0, 1) := by decide +kernel
theorem t_X12_fullest_7 : decode prog_14_method_80_code 7 = .ok (.bipush 60, 2) := by decide +kernel
theorem t_X12_fullest_9 : decode prog_14_method_80_code 9 = .ok (.invokestatic 118, 3) := by decide +kernel
theorem t_X12_fullest_12 : decode prog_14_method_80_code 12 = .ok (.ifCond .ne 5, 3) := by decide +kernel
theorem t_X12_fullest_15 : decode prog_14_method_80_code 15 = .ok (.iconst (-1), 1) := by decide +kernel
theorem t_X12_fullest_16 : decode prog_14_method_80_code 16 = .ok (.ireturn, 1) := by decide +kernel
theorem t_X12_fullest_17 : decode prog_14_method_80_code 17 = .ok (.aload_n 0, 1) := by decide +kernel
theorem t_X12_fullest_18 : decode prog_14_method_80_code 18 = .ok (.getfield 9, 3) := by decide +kernel
theorem t_X12_fullest_21 : decode prog_14_method_80_code 21 = .ok (.aload_n 0, 1) := by decide +kernel
theorem t_X12_fullest_22 : decode prog_14_method_80_code 22 = .ok (.getfield 46, 3) := by decide +kernel
theorem t_X12_fullest_25 : decode prog_14_method_80_code 25 = .ok (.iconst 0, 1) := by decide +kernel
theorem t_X12_fullest_26 : decode prog_14_method_80_code 26 = .ok (.invokestatic 256, 3) := by decide +kernel
theorem t_X12_fullest_29 : decode prog_14_method_80_code 29 = .ok (.iconst 0, 1) := by decide +kernel
theorem t_X12_fullest_30 : decode prog_14_method_80_code 30 = .ok (.istore_n 2, 1) := by decide +kernel
theorem t_X12_fullest_31 : decode prog_14_method_80_code 31 = .ok (.iload_n 2, 1) := by decide +kernel
theorem t_X12_fullest_32 : decode prog_14_method_80_code 32 = .ok (.iload_n 1, 1) := by decide +kernel
theorem t_X12_fullest_33 : decode prog_14_method_80_code 33 = .ok (.if_icmp .ge 18, 3) := by decide +kernel
theorem t_X12_fullest_36 : decode prog_14_method_80_code 36 = .ok (.aload_n 0, 1) := by decide +kernel
theorem t_X12_fullest_37 : decode prog_14_method_80_code 37 = .ok (.aload_n 0, 1) := by decide +kernel
theorem t_X12_fullest_38 : decode prog_14_method_80_code 38 = .ok (.getfield 46, 3) := by decide +kernel
theorem t_X12_fullest_41 : decode prog_14_method_80_code 41 = .ok (.invokevirtual 289, 3) := by decide +kernel
theorem t_X12_fullest_44 : decode prog_14_method_80_code 44 = .ok (.pop, 1) := by decide +kernel
theorem t_X12_fullest_45 : decode prog_14_method_80_code 45 = .ok (.iinc 2 1, 3) := by decide +kernel
theorem t_X12_fullest_48 : decode prog_14_method_80_code 48 = .ok (.goto (-17), 3) := by decide +kernel
theorem t_X12_fullest_51 : decode prog_14_method_80_code 51 = .ok (.iconst 0, 1) := by decide +kernel
theorem t_X12_fullest_52 : decode prog_14_method_80_code 52 = .ok (.istore_n 2, 1) := by decide +kernel
theorem t_X12_fullest_53 : decode prog_14_method_80_code 53 = .ok (.iconst 1, 1) := by decide +kernel
theorem t_X12_fullest_54 : decode prog_14_method_80_code 54 = .ok (.istore_n 3, 1) := by decide +kernel
theorem t_X12_fullest_55 : decode prog_14_method_80_code 55 = .ok (.iload_n 3, 1) := by decide +kernel
theorem t_X12_fullest_56 : decode prog_14_method_80_code 56 = .ok (.aload_n 0, 1) := by decide +kernel
theorem t_X12_fullest_57 : decode prog_14_method_80_code 57 = .ok (.invokevirtual 214, 3) := by decide +kernel
theorem t_X12_fullest_60 : decode prog_14_method_80_code 60 = .ok (.if_icmp .ge 30, 3) := by decide +kernel
theorem t_X12_fullest_63 : decode prog_14_method_80_code 63 = .ok (.aload_n 0, 1) := by decide +kernel
theorem t_X12_fullest_64 : decode prog_14_method_80_code 64 = .ok (.getfield 46, 3) := by decide +kernel
theorem t_X12_fullest_67 : decode prog_14_method_80_code 67 = .ok (.iload_n 3, 1) := by decide +kernel
theorem t_X12_fullest_68 : decode prog_14_method_80_code 68 = .ok (.iaload, 1) := by decide +kernel
theorem t_X12_fullest_69 : decode prog_14_method_80_code 69 = .ok (.aload_n 0, 1) := by decide +kernel
theorem t_X12_fullest_70 : decode prog_14_method_80_code 70 = .ok (.getfield 46, 3) := by decide +kernel
theorem t_X12_fullest_73 : decode prog_14_method_80_code 73 = .ok (.iload_n 2, 1) := by decide +kernel
theorem t_X12_fullest_74 : decode prog_14_method_80_code 74 = .ok (.iaload, 1) := by decide +kernel
theorem t_X12_fullest_75 : decode prog_14_method_80_code 75 = .ok (.if_icmp .le 7, 3) := by decide +kernel
theorem t_X12_fullest_78 : decode prog_14_method_80_code 78 = .ok (.iload_n 3, 1) := by decide +kernel
theorem t_X12_fullest_79 : decode prog_14_method_80_code 79 = .ok (.goto 4, 3) := by decide +kernel
theorem t_X12_fullest_82 : decode prog_14_method_80_code 82 = .ok (.iload_n 2, 1) := by decide +kernel
theorem t_X12_fullest_83 : decode prog_14_method_80_code 83 = .ok (.istore_n 2, 1) := by decide +kernel
theorem t_X12_fullest_84 : decode prog_14_method_80_code 84 = .ok (.iinc 3 1, 3) := by decide +kernel
theorem t_X12_fullest_87 : decode prog_14_method_80_code 87 = .ok (.goto (-32), 3) := by decide +kernel
theorem t_X12_fullest_90 : decode prog_14_method_80_code 90 = .ok (.aload_n 0, 1) := by decide +kernel
theorem t_X12_fullest_91 : decode prog_14_method_80_code 91 = .ok (.iconst 0, 1) := by decide +kernel
theorem t_X12_fullest_92 : decode prog_14_method_80_code 92 = .ok (.putfield 112, 3) := by decide +kernel
theorem t_X12_fullest_95 : decode prog_14_method_80_code 95 = .ok (.aload_n 0, 1) := by decide +kernel
theorem t_X12_fullest_96 : decode prog_14_method_80_code 96 = .ok (.aload_n 0, 1) := by decide +kernel
theorem t_X12_fullest_97 : decode prog_14_method_80_code 97 = .ok (.getfield 46, 3) := by decide +kernel
theorem t_X12_fullest_100 : decode prog_14_method_80_code 100 = .ok (.iload_n 2, 1) := by decide +kernel
theorem t_X12_fullest_101 : decode prog_14_method_80_code 101 = .ok (.iaload, 1) := by decide +kernel
theorem t_X12_fullest_102 : decode prog_14_method_80_code 102 = .ok (.i2l, 1) := by decide +kernel
theorem t_X12_fullest_103 : decode prog_14_method_80_code 103 = .ok (.invokevirtual 260, 3) := by decide +kernel
theorem t_X12_fullest_106 : decode prog_14_method_80_code 106 = .ok (.iload_n 2, 1) := by decide +kernel
theorem t_X12_fullest_107 : decode prog_14_method_80_code 107 = .ok (.ireturn, 1) := by decide +kernel
def y_X12_alone : MethodName := ⟨"SowingBoardsModel", "alone", "(I)I"⟩
theorem t_X12_alone_0 : decode prog_14_method_81_code 0 = .ok (.aload_n 0, 1) := by decide +kernel
theorem t_X12_alone_1 : decode prog_14_method_81_code 1 = .ok (.iconst 0, 1) := by decide +kernel
theorem t_X12_alone_2 : decode prog_14_method_81_code 2 = .ok (.putfield 109, 3) := by decide +kernel
theorem t_X12_alone_5 : decode prog_14_method_81_code 5 = .ok (.iload_n 1, 1) := by decide +kernel
theorem t_X12_alone_6 : decode prog_14_method_81_code 6 = .ok (.iconst 0, 1) := by decide +kernel
theorem t_X12_alone_7 : decode prog_14_method_81_code 7 = .ok (.bipush 99, 2) := by decide +kernel
theorem t_X12_alone_9 : decode prog_14_method_81_code 9 = .ok (.invokestatic 118, 3) := by decide +kernel
theorem t_X12_alone_12 : decode prog_14_method_81_code 12 = .ok (.ifCond .ne 5, 3) := by decide +kernel
theorem t_X12_alone_15 : decode prog_14_method_81_code 15 = .ok (.iconst (-1), 1) := by decide +kernel
theorem t_X12_alone_16 : decode prog_14_method_81_code 16 = .ok (.ireturn, 1) := by decide +kernel
theorem t_X12_alone_17 : decode prog_14_method_81_code 17 = .ok (.iconst 0, 1) := by decide +kernel
theorem t_X12_alone_18 : decode prog_14_method_81_code 18 = .ok (.istore_n 2, 1) := by decide +kernel
theorem t_X12_alone_19 : decode prog_14_method_81_code 19 = .ok (.iload_n 2, 1) := by decide +kernel
theorem t_X12_alone_20 : decode prog_14_method_81_code 20 = .ok (.aload_n 0, 1) := by decide +kernel
theorem t_X12_alone_21 : decode prog_14_method_81_code 21 = .ok (.getfield 78, 3) := by decide +kernel
theorem t_X12_alone_24 : decode prog_14_method_81_code 24 = .ok (.arraylength, 1) := by decide +kernel
theorem t_X12_alone_25 : decode prog_14_method_81_code 25 = .ok (.if_icmp .ge 16, 3) := by decide +kernel
theorem t_X12_alone_28 : decode prog_14_method_81_code 28 = .ok (.aload_n 0, 1) := by decide +kernel
theorem t_X12_alone_29 : decode prog_14_method_81_code 29 = .ok (.getfield 78, 3) := by decide +kernel
theorem t_X12_alone_32 : decode prog_14_method_81_code 32 = .ok (.iload_n 2, 1) := by decide +kernel
theorem t_X12_alone_33 : decode prog_14_method_81_code 33 = .ok (.iconst 0, 1) := by decide +kernel
theorem t_X12_alone_34 : decode prog_14_method_81_code 34 = .ok (.iastore, 1) := by decide +kernel
theorem t_X12_alone_35 : decode prog_14_method_81_code 35 = .ok (.iinc 2 1, 3) := by decide +kernel
theorem t_X12_alone_38 : decode prog_14_method_81_code 38 = .ok (.goto (-19), 3) := by decide +kernel
theorem t_X12_alone_41 : decode prog_14_method_81_code 41 = .ok (.iconst 0, 1) := by decide +kernel
theorem t_X12_alone_42 : decode prog_14_method_81_code 42 = .ok (.istore_n 2, 1) := by decide +kernel
theorem t_X12_alone_43 : decode prog_14_method_81_code 43 = .ok (.iconst 0, 1) := by decide +kernel
theorem t_X12_alone_44 : decode prog_14_method_81_code 44 = .ok (.istore_n 3, 1) := by decide +kernel
theorem t_X12_alone_45 : decode prog_14_method_81_code 45 = .ok (.iload_n 3, 1) := by decide +kernel
theorem t_X12_alone_46 : decode prog_14_method_81_code 46 = .ok (.iload_n 1, 1) := by decide +kernel
theorem t_X12_alone_47 : decode prog_14_method_81_code 47 = .ok (.if_icmp .ge 55, 3) := by decide +kernel
theorem t_X12_alone_50 : decode prog_14_method_81_code 50 = .ok (.iconst 1, 1) := by decide +kernel
theorem t_X12_alone_51 : decode prog_14_method_81_code 51 = .ok (.istore 4, 2) := by decide +kernel
theorem t_X12_alone_53 : decode prog_14_method_81_code 53 = .ok (.aload_n 0, 1) := by decide +kernel
theorem t_X12_alone_54 : decode prog_14_method_81_code 54 = .ok (.getfield 78, 3) := by decide +kernel
theorem t_X12_alone_57 : decode prog_14_method_81_code 57 = .ok (.iload 4, 2) := by decide +kernel
theorem t_X12_alone_59 : decode prog_14_method_81_code 59 = .ok (.iaload, 1) := by decide +kernel
theorem t_X12_alone_60 : decode prog_14_method_81_code 60 = .ok (.ifCond .le 20, 3) := by decide +kernel
theorem t_X12_alone_63 : decode prog_14_method_81_code 63 = .ok (.aload_n 0, 1) := by decide +kernel
theorem t_X12_alone_64 : decode prog_14_method_81_code 64 = .ok (.getfield 78, 3) := by decide +kernel
theorem t_X12_alone_67 : decode prog_14_method_81_code 67 = .ok (.iload 4, 2) := by decide +kernel
theorem t_X12_alone_69 : decode prog_14_method_81_code 69 = .ok (.dup2, 1) := by decide +kernel
theorem t_X12_alone_70 : decode prog_14_method_81_code 70 = .ok (.iaload, 1) := by decide +kernel
theorem t_X12_alone_71 : decode prog_14_method_81_code 71 = .ok (.iconst 1, 1) := by decide +kernel
theorem t_X12_alone_72 : decode prog_14_method_81_code 72 = .ok (.isub, 1) := by decide +kernel
theorem t_X12_alone_73 : decode prog_14_method_81_code 73 = .ok (.iastore, 1) := by decide +kernel
theorem t_X12_alone_74 : decode prog_14_method_81_code 74 = .ok (.iinc 4 1, 3) := by decide +kernel
theorem t_X12_alone_77 : decode prog_14_method_81_code 77 = .ok (.goto (-24), 3) := by decide +kernel
theorem t_X12_alone_80 : decode prog_14_method_81_code 80 = .ok (.aload_n 0, 1) := by decide +kernel
theorem t_X12_alone_81 : decode prog_14_method_81_code 81 = .ok (.getfield 78, 3) := by decide +kernel
theorem t_X12_alone_84 : decode prog_14_method_81_code 84 = .ok (.iload 4, 2) := by decide +kernel
theorem t_X12_alone_86 : decode prog_14_method_81_code 86 = .ok (.iload 4, 2) := by decide +kernel
theorem t_X12_alone_88 : decode prog_14_method_81_code 88 = .ok (.iastore, 1) := by decide +kernel
theorem t_X12_alone_89 : decode prog_14_method_81_code 89 = .ok (.iload_n 2, 1) := by decide +kernel
theorem t_X12_alone_90 : decode prog_14_method_81_code 90 = .ok (.iload 4, 2) := by decide +kernel
theorem t_X12_alone_92 : decode prog_14_method_81_code 92 = .ok (.invokestatic 226, 3) := by decide +kernel
theorem t_X12_alone_95 : decode prog_14_method_81_code 95 = .ok (.istore_n 2, 1) := by decide +kernel
theorem t_X12_alone_96 : decode prog_14_method_81_code 96 = .ok (.iinc 3 1, 3) := by decide +kernel
theorem t_X12_alone_99 : decode prog_14_method_81_code 99 = .ok (.goto (-54), 3) := by decide +kernel
theorem t_X12_alone_102 : decode prog_14_method_81_code 102 = .ok (.aload_n 0, 1) := by decide +kernel
theorem t_X12_alone_103 : decode prog_14_method_81_code 103 = .ok (.iconst 0, 1) := by decide +kernel
theorem t_X12_alone_104 : decode prog_14_method_81_code 104 = .ok (.putfield 112, 3) := by decide +kernel
theorem t_X12_alone_107 : decode prog_14_method_81_code 107 = .ok (.iconst 1, 1) := by decide +kernel
theorem t_X12_alone_108 : decode prog_14_method_81_code 108 = .ok (.istore_n 3, 1) := by decide +kernel
theorem t_X12_alone_109 : decode prog_14_method_81_code 109 = .ok (.iload_n 3, 1) := by decide +kernel
theorem t_X12_alone_110 : decode prog_14_method_81_code 110 = .ok (.iload_n 2, 1) := by decide +kernel
theorem t_X12_alone_111 : decode prog_14_method_81_code 111 = .ok (.if_icmp .gt 20, 3) := by decide +kernel
theorem t_X12_alone_114 : decode prog_14_method_81_code 114 = .ok (.aload_n 0, 1) := by decide +kernel
theorem t_X12_alone_115 : decode prog_14_method_81_code 115 = .ok (.aload_n 0, 1) := by decide +kernel
theorem t_X12_alone_116 : decode prog_14_method_81_code 116 = .ok (.getfield 78, 3) := by decide +kernel
theorem t_X12_alone_119 : decode prog_14_method_81_code 119 = .ok (.iload_n 3, 1) := by decide +kernel
theorem t_X12_alone_120 : decode prog_14_method_81_code 120 = .ok (.iaload, 1) := by decide +kernel
theorem t_X12_alone_121 : decode prog_14_method_81_code 121 = .ok (.i2l, 1) := by decide +kernel
theorem t_X12_alone_122 : decode prog_14_method_81_code 122 = .ok (.invokevirtual 260, 3) := by decide +kernel
theorem t_X12_alone_125 : decode prog_14_method_81_code 125 = .ok (.iinc 3 1, 3) := by decide +kernel
theorem t_X12_alone_128 : decode prog_14_method_81_code 128 = .ok (.goto (-19), 3) := by decide +kernel
theorem t_X12_alone_131 : decode prog_14_method_81_code 131 = .ok (.iload_n 2, 1) := by decide +kernel
theorem t_X12_alone_132 : decode prog_14_method_81_code 132 = .ok (.ireturn, 1) := by decide +kernel
def y_X12_comes : MethodName := ⟨"SowingBoardsModel", "comes", "()I"⟩
theorem t_X12_comes_0 : decode prog_14_method_82_code 0 = .ok (.aload_n 0, 1) := by decide +kernel
theorem t_X12_comes_1 : decode prog_14_method_82_code 1 = .ok (.iconst 0, 1) := by decide +kernel
theorem t_X12_comes_2 : decode prog_14_method_82_code 2 = .ok (.putfield 109, 3) := by decide +kernel
theorem t_X12_comes_5 : decode prog_14_method_82_code 5 = .ok (.aload_n 0, 1) := by decide +kernel
theorem t_X12_comes_6 : decode prog_14_method_82_code 6 = .ok (.bipush 20, 2) := by decide +kernel
theorem t_X12_comes_8 : decode prog_14_method_82_code 8 = .ok (.invokevirtual 161, 3) := by decide +kernel
theorem t_X12_comes_11 : decode prog_14_method_82_code 11 = .ok (.iconst 0, 1) := by decide +kernel
theorem t_X12_comes_12 : decode prog_14_method_82_code 12 = .ok (.istore_n 1, 1) := by decide +kernel
theorem t_X12_comes_13 : decode prog_14_method_82_code 13 = .ok (.aload_n 0, 1) := by decide +kernel
theorem t_X12_comes_14 : decode prog_14_method_82_code 14 = .ok (.invokevirtual 141, 3) := by decide +kernel
theorem t_X12_comes_17 : decode prog_14_method_82_code 17 = .ok (.ifCond .eq 37, 3) := by decide +kernel
theorem t_X12_comes_20 : decode prog_14_method_82_code 20 = .ok (.iload_n 1, 1) := by decide +kernel
theorem t_X12_comes_21 : decode prog_14_method_82_code 21 = .ok (.ifCond .eq 11, 3) := by decide +kernel
theorem t_X12_comes_24 : decode prog_14_method_82_code 24 = .ok (.aload_n 0, 1) := by decide +kernel
theorem t_X12_comes_25 : decode prog_14_method_82_code 25 = .ok (.invokevirtual 145, 3) := by decide +kernel
theorem t_X12_comes_28 : decode prog_14_method_82_code 28 = .ok (.iconst (-1), 1) := by decide +kernel
theorem t_X12_comes_29 : decode prog_14_method_82_code 29 = .ok (.if_icmp .eq 25, 3) := by decide +kernel
theorem t_X12_comes_32 : decode prog_14_method_82_code 32 = .ok (.aload_n 0, 1) := by decide +kernel
theorem t_X12_comes_33 : decode prog_14_method_82_code 33 = .ok (.getfield 78, 3) := by decide +kernel
theorem t_X12_comes_36 : decode prog_14_method_82_code 36 = .ok (.iload_n 1, 1) := by decide +kernel
theorem t_X12_comes_37 : decode prog_14_method_82_code 37 = .ok (.iconst 1, 1) := by decide +kernel
theorem t_X12_comes_38 : decode prog_14_method_82_code 38 = .ok (.iadd, 1) := by decide +kernel
theorem t_X12_comes_39 : decode prog_14_method_82_code 39 = .ok (.aload_n 0, 1) := by decide +kernel
theorem t_X12_comes_40 : decode prog_14_method_82_code 40 = .ok (.bipush 48, 2) := by decide +kernel
theorem t_X12_comes_42 : decode prog_14_method_82_code 42 = .ok (.bipush 10, 2) := by decide +kernel
theorem t_X12_comes_44 : decode prog_14_method_82_code 44 = .ok (.invokevirtual 157, 3) := by decide +kernel
theorem t_X12_comes_47 : decode prog_14_method_82_code 47 = .ok (.iastore, 1) := by decide +kernel
theorem t_X12_comes_48 : decode prog_14_method_82_code 48 = .ok (.iinc 1 1, 3) := by decide +kernel
theorem t_X12_comes_51 : decode prog_14_method_82_code 51 = .ok (.goto (-38), 3) := by decide +kernel
theorem t_X12_comes_54 : decode prog_14_method_82_code 54 = .ok (.aload_n 0, 1) := by decide +kernel
theorem t_X12_comes_55 : decode prog_14_method_82_code 55 = .ok (.invokevirtual 164, 3) := by decide +kernel
theorem t_X12_comes_58 : decode prog_14_method_82_code 58 = .ok (.ifCond .ne 10, 3) := by decide +kernel
theorem t_X12_comes_61 : decode prog_14_method_82_code 61 = .ok (.iconst (-1), 1) := by decide +kernel
theorem t_X12_comes_62 : decode prog_14_method_82_code 62 = .ok (.aload_n 0, 1) := by decide +kernel
theorem t_X12_comes_63 : decode prog_14_method_82_code 63 = .ok (.getfield 134, 3) := by decide +kernel
theorem t_X12_comes_66 : decode prog_14_method_82_code 66 = .ok (.isub, 1) := by decide +kernel
theorem t_X12_comes_67 : decode prog_14_method_82_code 67 = .ok (.ireturn, 1) := by decide +kernel
theorem t_X12_comes_68 : decode prog_14_method_82_code 68 = .ok (.iconst 0, 1) := by decide +kernel
theorem t_X12_comes_69 : decode prog_14_method_82_code 69 = .ok (.istore_n 2, 1) := by decide +kernel
theorem t_X12_comes_70 : decode prog_14_method_82_code 70 = .ok (.iconst 1, 1) := by decide +kernel
theorem t_X12_comes_71 : decode prog_14_method_82_code 71 = .ok (.istore_n 3, 1) := by decide +kernel
theorem t_X12_comes_72 : decode prog_14_method_82_code 72 = .ok (.iload_n 3, 1) := by decide +kernel
theorem t_X12_comes_73 : decode prog_14_method_82_code 73 = .ok (.iload_n 1, 1) := by decide +kernel
theorem t_X12_comes_74 : decode prog_14_method_82_code 74 = .ok (.if_icmp .gt 60, 3) := by decide +kernel
theorem t_X12_comes_77 : decode prog_14_method_82_code 77 = .ok (.aload_n 0, 1) := by decide +kernel
theorem t_X12_comes_78 : decode prog_14_method_82_code 78 = .ok (.getfield 78, 3) := by decide +kernel
theorem t_X12_comes_81 : decode prog_14_method_82_code 81 = .ok (.iload_n 3, 1) := by decide +kernel
theorem t_X12_comes_82 : decode prog_14_method_82_code 82 = .ok (.iaload, 1) := by decide +kernel
theorem t_X12_comes_83 : decode prog_14_method_82_code 83 = .ok (.iload_n 3, 1) := by decide +kernel
theorem t_X12_comes_84 : decode prog_14_method_82_code 84 = .ok (.if_icmp .eq 9, 3) := by decide +kernel
theorem t_X12_comes_87 : decode prog_14_method_82_code 87 = .ok (.iinc 3 1, 3) := by decide +kernel
theorem t_X12_comes_90 : decode prog_14_method_82_code 90 = .ok (.goto (-18), 3) := by decide +kernel
theorem t_X12_comes_93 : decode prog_14_method_82_code 93 = .ok (.aload_n 0, 1) := by decide +kernel
theorem t_X12_comes_94 : decode prog_14_method_82_code 94 = .ok (.getfield 78, 3) := by decide +kernel
theorem t_X12_comes_97 : decode prog_14_method_82_code 97 = .ok (.iload_n 3, 1) := by decide +kernel
theorem t_X12_comes_98 : decode prog_14_method_82_code 98 = .ok (.iconst 0, 1) := by decide +kernel
theorem t_X12_comes_99 : decode prog_14_method_82_code 99 = .ok (.iastore, 1) := by decide +kernel
theorem t_X12_comes_100 : decode prog_14_method_82_code 100 = .ok (.iconst 1, 1) := by decide +kernel
theorem t_X12_comes_101 : decode prog_14_method_82_code 101 = .ok (.istore 4, 2) := by decide +kernel
theorem t_X12_comes_103 : decode prog_14_method_82_code 103 = .ok (.iload 4, 2) := by decide +kernel
theorem t_X12_comes_105 : decode prog_14_method_82_code 105 = .ok (.iload_n 3, 1) := by decide +kernel
theorem t_X12_comes_106 : decode prog_14_method_82_code 106 = .ok (.if_icmp .ge 20, 3) := by decide +kernel
theorem t_X12_comes_109 : decode prog_14_method_82_code 109 = .ok (.aload_n 0, 1) := by decide +kernel
theorem t_X12_comes_110 : decode prog_14_method_82_code 110 = .ok (.getfield 78, 3) := by decide +kernel
theorem t_X12_comes_113 : decode prog_14_method_82_code 113 = .ok (.iload 4, 2) := by decide +kernel
theorem t_X12_comes_115 : decode prog_14_method_82_code 115 = .ok (.dup2, 1) := by decide +kernel
theorem t_X12_comes_116 : decode prog_14_method_82_code 116 = .ok (.iaload, 1) := by decide +kernel
theorem t_X12_comes_117 : decode prog_14_method_82_code 117 = .ok (.iconst 1, 1) := by decide +kernel
theorem t_X12_comes_118 : decode prog_14_method_82_code 118 = .ok (.iadd, 1) := by decide +kernel
theorem t_X12_comes_119 : decode prog_14_method_82_code 119 = .ok (.iastore, 1) := by decide +kernel
theorem t_X12_comes_120 : decode prog_14_method_82_code 120 = .ok (.iinc 4 1, 3) := by decide +kernel
theorem t_X12_comes_123 : decode prog_14_method_82_code 123 = .ok (.goto (-20), 3) := by decide +kernel
theorem t_X12_comes_126 : decode prog_14_method_82_code 126 = .ok (.iinc 2 1, 3) := by decide +kernel
theorem t_X12_comes_129 : decode prog_14_method_82_code 129 = .ok (.iconst 1, 1) := by decide +kernel
theorem t_X12_comes_130 : decode prog_14_method_82_code 130 = .ok (.istore_n 3, 1) := by decide +kernel
theorem t_X12_comes_131 : decode prog_14_method_82_code 131 = .ok (.goto (-59), 3) := by decide +kernel
theorem t_X12_comes_134 : decode prog_14_method_82_code 134 = .ok (.iconst 0, 1) := by decide +kernel
theorem t_X12_comes_135 : decode prog_14_method_82_code 135 = .ok (.istore 4, 2) := by decide +kernel
theorem t_X12_comes_137 : decode prog_14_method_82_code 137 = .ok (.iconst 1, 1) := by decide +kernel
theorem t_X12_comes_138 : decode prog_14_method_82_code 138 = .ok (.istore 5, 2) := by decide +kernel
theorem t_X12_comes_140 : decode prog_14_method_82_code 140 = .ok (.iload 5, 2) := by decide +kernel
theorem t_X12_comes_142 : decode prog_14_method_82_code 142 = .ok (.iload_n 1, 1) := by decide +kernel
theorem t_X12_comes_143 : decode prog_14_method_82_code 143 = .ok (.if_icmp .gt 21, 3) := by decide +kernel
theorem t_X12_comes_146 : decode prog_14_method_82_code 146 = .ok (.iload 4, 2) := by decide +kernel
theorem t_X12_comes_148 : decode prog_14_method_82_code 148 = .ok (.aload_n 0, 1) := by decide +kernel
theorem t_X12_comes_149 : decode prog_14_method_82_code 149 = .ok (.getfield 78, 3) := by decide +kernel
theorem t_X12_comes_152 : decode prog_14_method_82_code 152 = .ok (.iload 5, 2) := by decide +kernel
theorem t_X12_comes_154 : decode prog_14_method_82_code 154 = .ok (.iaload, 1) := by decide +kernel
theorem t_X12_comes_155 : decode prog_14_method_82_code 155 = .ok (.iadd, 1) := by decide +kernel
theorem t_X12_comes_156 : decode prog_14_method_82_code 156 = .ok (.istore 4, 2) := by decide +kernel
theorem t_X12_comes_158 : decode prog_14_method_82_code 158 = .ok (.iinc 5 1, 3) := by decide +kernel
theorem t_X12_comes_161 : decode prog_14_method_82_code 161 = .ok (.goto (-21), 3) := by decide +kernel
theorem t_X12_comes_164 : decode prog_14_method_82_code 164 = .ok (.aload_n 0, 1) := by decide +kernel
theorem t_X12_comes_165 : decode prog_14_method_82_code 165 = .ok (.iconst 0, 1) := by decide +kernel
theorem t_X12_comes_166 : decode prog_14_method_82_code 166 = .ok (.putfield 112, 3) := by decide +kernel
theorem t_X12_comes_169 : decode prog_14_method_82_code 169 = .ok (.aload_n 0, 1) := by decide +kernel
theorem t_X12_comes_170 : decode prog_14_method_82_code 170 = .ok (.iload_n 2, 1) := by decide +kernel
theorem t_X12_comes_171 : decode prog_14_method_82_code 171 = .ok (.i2l, 1) := by decide +kernel
theorem t_X12_comes_172 : decode prog_14_method_82_code 172 = .ok (.invokevirtual 260, 3) := by decide +kernel
theorem t_X12_comes_175 : decode prog_14_method_82_code 175 = .ok (.aload_n 0, 1) := by decide +kernel
theorem t_X12_comes_176 : decode prog_14_method_82_code 176 = .ok (.iload 4, 2) := by decide +kernel
theorem t_X12_comes_178 : decode prog_14_method_82_code 178 = .ok (.i2l, 1) := by decide +kernel
theorem t_X12_comes_179 : decode prog_14_method_82_code 179 = .ok (.invokevirtual 260, 3) := by decide +kernel
theorem t_X12_comes_182 : decode prog_14_method_82_code 182 = .ok (.iload_n 2, 1) := by decide +kernel
theorem t_X12_comes_183 : decode prog_14_method_82_code 183 = .ok (.ireturn, 1) := by decide +kernel
def y_X12_highOf : MethodName := ⟨"SowingBoardsModel", "highOf", "(I)I"⟩
theorem t_X12_highOf_0 : decode prog_14_method_83_code 0 = .ok (.iload_n 0, 1) := by decide +kernel
theorem t_X12_highOf_1 : decode prog_14_method_83_code 1 = .ok (.ifCond .eq 8, 3) := by decide +kernel
theorem t_X12_highOf_4 : decode prog_14_method_83_code 4 = .ok (.iload_n 0, 1) := by decide +kernel
theorem t_X12_highOf_5 : decode prog_14_method_83_code 5 = .ok (.iconst 4, 1) := by decide +kernel
theorem t_X12_highOf_6 : decode prog_14_method_83_code 6 = .ok (.if_icmp .ne 7, 3) := by decide +kernel
theorem t_X12_highOf_9 : decode prog_14_method_83_code 9 = .ok (.iconst 1, 1) := by decide +kernel
theorem t_X12_highOf_10 : decode prog_14_method_83_code 10 = .ok (.goto 14, 3) := by decide +kernel
theorem t_X12_highOf_13 : decode prog_14_method_83_code 13 = .ok (.iload_n 0, 1) := by decide +kernel
theorem t_X12_highOf_14 : decode prog_14_method_83_code 14 = .ok (.iconst 3, 1) := by decide +kernel
theorem t_X12_highOf_15 : decode prog_14_method_83_code 15 = .ok (.if_icmp .ne 7, 3) := by decide +kernel
theorem t_X12_highOf_18 : decode prog_14_method_83_code 18 = .ok (.iconst 5, 1) := by decide +kernel
theorem t_X12_highOf_19 : decode prog_14_method_83_code 19 = .ok (.goto 5, 3) := by decide +kernel
theorem t_X12_highOf_22 : decode prog_14_method_83_code 22 = .ok (.bipush 9, 2) := by decide +kernel
theorem t_X12_highOf_24 : decode prog_14_method_83_code 24 = .ok (.ireturn, 1) := by decide +kernel
def y_X12_heard : MethodName := ⟨"SowingBoardsModel", "heard", "(II)I"⟩
theorem t_X12_heard_0 : decode prog_14_method_84_code 0 = .ok (.aload_n 0, 1) := by decide +kernel
theorem t_X12_heard_1 : decode prog_14_method_84_code 1 = .ok (.iconst 0, 1) := by decide +kernel
theorem t_X12_heard_2 : decode prog_14_method_84_code 2 = .ok (.putfield 109, 3) := by decide +kernel
theorem t_X12_heard_5 : decode prog_14_method_84_code 5 = .ok (.iload_n 1, 1) := by decide +kernel
theorem t_X12_heard_6 : decode prog_14_method_84_code 6 = .ok (.iconst 0, 1) := by decide +kernel
theorem t_X12_heard_7 : decode prog_14_method_84_code 7 = .ok (.iconst 4, 1) := by decide +kernel
theorem t_X12_heard_8 : decode prog_14_method_84_code 8 = .ok (.invokestatic 118, 3) := by decide +kernel
theorem t_X12_heard_11 : decode prog_14_method_84_code 11 = .ok (.ifCond .eq 24, 3) := by decide +kernel
theorem t_X12_heard_14 : decode prog_14_method_84_code 14 = .ok (.iload_n 2, 1) := by decide +kernel
theorem t_X12_heard_15 : decode prog_14_method_84_code 15 = .ok (.iconst 0, 1) := by decide +kernel
theorem t_X12_heard_16 : decode prog_14_method_84_code 16 = .ok (.iload_n 1, 1) := by decide +kernel
theorem t_X12_heard_17 : decode prog_14_method_84_code 17 = .ok (.invokestatic 351, 3) := by decide +kernel
theorem t_X12_heard_20 : decode prog_14_method_84_code 20 = .ok (.invokestatic 118, 3) := by decide +kernel
theorem t_X12_heard_23 : decode prog_14_method_84_code 23 = .ok (.ifCond .eq 12, 3) := by decide +kernel
theorem t_X12_heard_26 : decode prog_14_method_84_code 26 = .ok (.aload_n 0, 1) := by decide +kernel
theorem t_X12_heard_27 : decode prog_14_method_84_code 27 = .ok (.getfield 354, 3) := by decide +kernel
theorem t_X12_heard_30 : decode prog_14_method_84_code 30 = .ok (.bipush 12, 2) := by decide +kernel
theorem t_X12_heard_32 : decode prog_14_method_84_code 32 = .ok (.if_icmp .ne 5, 3) := by decide +kernel
theorem t_X12_heard_35 : decode prog_14_method_84_code 35 = .ok (.iconst (-1), 1) := by decide +kernel
theorem t_X12_heard_36 : decode prog_14_method_84_code 36 = .ok (.ireturn, 1) := by decide +kernel
theorem t_X12_heard_37 : decode prog_14_method_84_code 37 = .ok (.aload_n 0, 1) := by decide +kernel
theorem t_X12_heard_38 : decode prog_14_method_84_code 38 = .ok (.getfield 81, 3) := by decide +kernel
theorem t_X12_heard_41 : decode prog_14_method_84_code 41 = .ok (.aload_n 0, 1) := by decide +kernel
theorem t_X12_heard_42 : decode prog_14_method_84_code 42 = .ok (.getfield 354, 3) := by decide +kernel
theorem t_X12_heard_45 : decode prog_14_method_84_code 45 = .ok (.iload_n 1, 1) := by decide +kernel
theorem t_X12_heard_46 : decode prog_14_method_84_code 46 = .ok (.iastore, 1) := by decide +kernel
theorem t_X12_heard_47 : decode prog_14_method_84_code 47 = .ok (.aload_n 0, 1) := by decide +kernel
theorem t_X12_heard_48 : decode prog_14_method_84_code 48 = .ok (.getfield 84, 3) := by decide +kernel
theorem t_X12_heard_51 : decode prog_14_method_84_code 51 = .ok (.aload_n 0, 1) := by decide +kernel
theorem t_X12_heard_52 : decode prog_14_method_84_code 52 = .ok (.getfield 354, 3) := by decide +kernel
theorem t_X12_heard_55 : decode prog_14_method_84_code 55 = .ok (.iload_n 2, 1) := by decide +kernel
theorem t_X12_heard_56 : decode prog_14_method_84_code 56 = .ok (.iastore, 1) := by decide +kernel
theorem t_X12_heard_57 : decode prog_14_method_84_code 57 = .ok (.aload_n 0, 1) := by decide +kernel
theorem t_X12_heard_58 : decode prog_14_method_84_code 58 = .ok (.dup, 1) := by decide +kernel
theorem t_X12_heard_59 : decode prog_14_method_84_code 59 = .ok (.getfield 354, 3) := by decide +kernel
theorem t_X12_heard_62 : decode prog_14_method_84_code 62 = .ok (.iconst 1, 1) := by decide +kernel
theorem t_X12_heard_63 : decode prog_14_method_84_code 63 = .ok (.iadd, 1) := by decide +kernel
theorem t_X12_heard_64 : decode prog_14_method_84_code 64 = .ok (.putfield 354, 3) := by decide +kernel
theorem t_X12_heard_67 : decode prog_14_method_84_code 67 = .ok (.aload_n 0, 1) := by decide +kernel
theorem t_X12_heard_68 : decode prog_14_method_84_code 68 = .ok (.getfield 354, 3) := by decide +kernel
theorem t_X12_heard_71 : decode prog_14_method_84_code 71 = .ok (.ireturn, 1) := by decide +kernel
def y_X12_forget : MethodName := ⟨"SowingBoardsModel", "forget", "()I"⟩
theorem t_X12_forget_0 : decode prog_14_method_85_code 0 = .ok (.aload_n 0, 1) := by decide +kernel
theorem t_X12_forget_1 : decode prog_14_method_85_code 1 = .ok (.iconst 0, 1) := by decide +kernel
theorem t_X12_forget_2 : decode prog_14_method_85_code 2 = .ok (.putfield 109, 3) := by decide +kernel
theorem t_X12_forget_5 : decode prog_14_method_85_code 5 = .ok (.aload_n 0, 1) := by decide +kernel
theorem t_X12_forget_6 : decode prog_14_method_85_code 6 = .ok (.getfield 354, 3) := by decide +kernel
theorem t_X12_forget_9 : decode prog_14_method_85_code 9 = .ok (.istore_n 1, 1) := by decide +kernel
theorem t_X12_forget_10 : decode prog_14_method_85_code 10 = .ok (.aload_n 0, 1) := by decide +kernel
theorem t_X12_forget_11 : decode prog_14_method_85_code 11 = .ok (.iconst 0, 1) := by decide +kernel
theorem t_X12_forget_12 : decode prog_14_method_85_code 12 = .ok (.putfield 354, 3) := by decide +kernel
theorem t_X12_forget_15 : decode prog_14_method_85_code 15 = .ok (.iload_n 1, 1) := by decide +kernel
theorem t_X12_forget_16 : decode prog_14_method_85_code 16 = .ok (.ireturn, 1) := by decide +kernel
theorem fl_12_75 : FLk "SowingBoardsModel" 75 12 39 := ⟨_, rfl, by decide, Or.inl (vtb_at 1377 (by decide +kernel) rfl)⟩
theorem fl_12_78 : FLk "SowingBoardsModel" 78 12 40 := ⟨_, rfl, by decide, Or.inl (vtb_at 1378 (by decide +kernel) rfl)⟩
theorem fl_12_81 : FLk "SowingBoardsModel" 81 12 41 := ⟨_, rfl, by decide, Or.inl (vtb_at 1379 (by decide +kernel) rfl)⟩
theorem fl_12_84 : FLk "SowingBoardsModel" 84 12 42 := ⟨_, rfl, by decide, Or.inl (vtb_at 1380 (by decide +kernel) rfl)⟩
theorem fl_12_326 : FLk "SowingBoardsModel" 326 12 38 := ⟨_, rfl, by decide, Or.inl (vtb_at 1376 (by decide +kernel) rfl)⟩
theorem fl_12_354 : FLk "SowingBoardsModel" 354 12 43 := ⟨_, rfl, by decide, Or.inl (vtb_at 1381 (by decide +kernel) rfl)⟩
theorem fp_12_38 : FPk 12 38 "I" := ⟨_, rfl, rfl, rfl⟩
theorem fp_12_43 : FPk 12 43 "I" := ⟨_, rfl, rfl, rfl⟩
theorem cc_12_337 : Cond.constant "SowingBoardsModel" 337 1000000 ∈ vtb := vtb_at 1783 (by decide +kernel) rfl
theorem cc_12_342 : Cond.constantLong "SowingBoardsModel" 342 60 ∈ vtb := vtb_at 1792 (by decide +kernel) rfl
theorem my_X12_goReach : MY y_X12_goReach prog_14_method_71_code 4 none 2 := ⟨vtb_at 1778 (by decide +kernel) rfl, vtb_at 152 (by decide +kernel) rfl, ⟨by decide, by decide, by decide +kernel⟩, by decide⟩
theorem mi_X12_goReach : MI y_X12_goReach := ⟨vtb_at 1777 (by decide +kernel) rfl, vtb_at 126 (by decide +kernel) rfl⟩
theorem my_X12_isReached : MY y_X12_isReached prog_14_method_70_code 4 (some .boolean) 2 := ⟨vtb_at 1782 (by decide +kernel) rfl, vtb_at 152 (by decide +kernel) rfl, ⟨by decide, by decide, by decide +kernel⟩, by decide⟩
theorem mi_X12_isReached : MI y_X12_isReached := ⟨vtb_at 1781 (by decide +kernel) rfl, vtb_at 127 (by decide +kernel) rfl⟩
theorem my_X12_common : MY y_X12_common prog_14_method_73_code 4 (some .long) 2 := ⟨vtb_at 1795 (by decide +kernel) rfl, vtb_at 152 (by decide +kernel) rfl, ⟨by decide, by decide, by decide +kernel⟩, by decide⟩
theorem ms_X12_common : Cond.static y_X12_common ∈ vtb := vtb_at 1794 (by decide +kernel) rfl
theorem my_X12_luckOf : MY y_X12_luckOf prog_14_method_74_code 11 (some .long) 3 := ⟨vtb_at 1791 (by decide +kernel) rfl, vtb_at 152 (by decide +kernel) rfl, ⟨by decide, by decide, by decide +kernel⟩, by decide⟩
theorem mi_X12_luckOf : MI y_X12_luckOf := ⟨vtb_at 1790 (by decide +kernel) rfl, vtb_at 128 (by decide +kernel) rfl⟩
theorem my_X12_isGone : MY y_X12_isGone prog_14_method_78_code 4 (some .boolean) 2 := ⟨vtb_at 1811 (by decide +kernel) rfl, vtb_at 152 (by decide +kernel) rfl, ⟨by decide, by decide, by decide +kernel⟩, by decide⟩
theorem mi_X12_isGone : MI y_X12_isGone := ⟨vtb_at 1810 (by decide +kernel) rfl, vtb_at 129 (by decide +kernel) rfl⟩
theorem my_X12_highOf : MY y_X12_highOf prog_14_method_83_code 1 (some .int) 1 := ⟨vtb_at 1830 (by decide +kernel) rfl, vtb_at 152 (by decide +kernel) rfl, ⟨by decide, by decide, by decide +kernel⟩, by decide⟩
theorem ms_X12_highOf : Cond.static y_X12_highOf ∈ vtb := vtb_at 1829 (by decide +kernel) rfl
theorem ml_12_329 : ML "SowingBoardsModel" 329 y_X12_isReached := Or.inl (vtb_at 1779 (by decide +kernel) rfl)
theorem ml_12_333 : ML "SowingBoardsModel" 333 y_X12_goReach := Or.inl (vtb_at 1775 (by decide +kernel) rfl)
theorem ml_12_338 : ML "SowingBoardsModel" 338 y_X12_common := Or.inl (vtb_at 1793 (by decide +kernel) rfl)
theorem ml_12_344 : ML "SowingBoardsModel" 344 y_X12_luckOf := Or.inl (vtb_at 1788 (by decide +kernel) rfl)
theorem ml_12_348 : ML "SowingBoardsModel" 348 y_X12_isGone := Or.inl (vtb_at 1808 (by decide +kernel) rfl)
theorem ml_12_351 : ML "SowingBoardsModel" 351 y_X12_highOf := Or.inl (vtb_at 1828 (by decide +kernel) rfl)
def L_X12_goReach_69 (rec : Int32 → Int32 → Wd → Option Wd) (x1 : Int32) (x2 : Int32) (k139 : Wd → Option Wd) : Nat → Int32 → Wd → Option Wd
  | 0, _, _ => none
  | n3 + 1, x4, w5 =>
    if (w5.1 119 1) ≤ x4 then (k139 w5) else (if ib x1 7 then bd (133 + x1.toNatClampNeg) (fun q6 => bc (D_X12_refuses q6 x4 w5) fun x8 w7 => bd (fun (w9 : Wd) => bd (x4 + 1) fun x11 => L_X12_goReach_69 rec x1 x2 k139 n3 x11 w9) fun k10 => if 0 ≤ x8 then (if ib x1 7 then bd (133 + x1.toNatClampNeg) (fun q12 => if ib (x1 + 1) 7 then bd (133 + (x1 + 1).toNatClampNeg) (fun q13 => bv (D_X12_lay q12 q13 0 w7) fun w14 => if ib (x1 + 1) 7 then bd (133 + (x1 + 1).toNatClampNeg) (fun q15 => bv (D_X12_goMove q15 x4 w14) fun w16 => bv (rec (x1 + 1) x2 w16) fun w17 => k10 w17) else none) else none) else none) else (k10 w7)) else none)
def L_X12_goReach_7 (rec : Int32 → Int32 → Wd → Option Wd) (x19 : Int32) (k29 : Wd → Option Wd) (k36 : Wd → Option Wd) : Nat → Int32 → Wd → Option Wd
  | 0, _, _ => none
  | n20 + 1, x21, w22 =>
    if (w22.1 119 38) ≤ x21 then (k36 w22) else (if ib x19 7 then bd (133 + x19.toNatClampNeg) (fun q23 => bc (D_X12_isReached q23 x21 w22) fun x25 w24 => if x25 = 0 then (bd (x21 + 1) fun x26 => L_X12_goReach_7 rec x19 k29 k36 n20 x26 w24) else (k29 w24)) else none)
def B_X12_goReach (rec : Int32 → Int32 → Wd → Option Wd) (p1 : Int32) (p2 : Int32) : Wd → Option Wd := fun w =>
  if p1 = p2 then (L_X12_goReach_7 rec p1 (fun w27 => some w27) (fun w28 => if ib p1 7 then bd (133 + p1.toNatClampNeg) (fun q29 => bv (D_X12_lay q29 149 (16 * (w28.1 119 38)) w28) fun w30 => bd (wI w30 119 38 ((w30.1 119 38) + 1)) fun w31 => some w31) else none) FU 0 w) else (L_X12_goReach_69 rec p1 p2 (fun w18 => some w18) FU 0 w)
set_option maxRecDepth 20000 in
theorem Q_X12_goReach_69 {l0 : Launch} {ρ : Nat → Nat} {cs : Nat → ClassId} {G : va_G} {X : Cx} (hρ : injN ρ) {rec : Int32 → Int32 → Wd → Option Wd} {dr d : Nat} (hdr : dr < d) (hbd : 4 ≤ d) (hrec : (∀ {p1 : Int32} {p2 : Int32} {w : Wd} {rr : Wd}, rec p1 p2 w = some rr → CtV l0 ρ cs G y_X12_goReach prog_14_method_71_code 4 dr [.ref (ρ 119), .int p1, .int p2] w rr)) (hn : X.2.2.2.2.2.2.2.2.2.2.1 = 4) (h : Okx l0 ρ cs G X prog_14_method_71_code "SowingBoardsModel" d) {rr : Wd} (hR : ∀ pc L, decode prog_14_method_71_code pc = .ok (.return_, 1) → gG ρ cs G X pc L [] rr) {x1 : Int32} {x2 : Int32} {k139 : Wd → Option Wd} (hk139 : ∀ (w1 : Wd), k139 w1 = some rr → gG ρ cs G X 139 [] [] w1) : ∀ (n : Nat) (x4 : Int32) (w : Wd), L_X12_goReach_69 rec x1 x2 k139 n x4 w = some rr → gG ρ cs G X 69 [(0, .ref (ρ 119)), (1, .int x1), (2, .int x2), (3, .int x4)] [] w := by
  intro n
  induction n with
  | zero =>
    intro x4 w hD
    cases hD
  | succ n3 ih =>
    intro x4 w5 hD
    unfold L_X12_goReach_69 at hD
    refine g_iload_n h 3 t_X12_goReach_69 rfl ?_
    refine g_aload_n h 0 t_X12_goReach_70 rfl ?_
    refine g_getI h 119 1 fl_12_13 rfl (by decide) rfl t_X12_goReach_71 ?_
    refine g_icmp_ge (tgt := 139) h t_X12_goReach_74 (by decide) hD (fun hD => ?_) (fun hD => ?_)
    · refine g_loc (L' := []) h [] rfl ?_
      exact hk139 _ hD
    · refine g_aload_n h 0 t_X12_goReach_77 rfl ?_
      refine g_aload_n h 0 t_X12_goReach_78 rfl ?_
      refine g_getR h 119 29 132 fl_12_57 rfl (by decide) rfl t_X12_goReach_79 ?_
      refine g_iload_n h 1 t_X12_goReach_82 rfl ?_
      refine g_rald h 132 rfl (by decide) t_X12_goReach_83 hD (fun q6 eq6 lq6 hD => ?_)
      have hq6 : isIA q6 := iaA (f := 133) (by decide) eq6 lq6
      refine g_iload_n h 3 t_X12_goReach_84 rfl ?_
      refine g_callVI h 119 (As := [.ref (ρ q6), .int x4]) (st := []) my_X12_refuses mi_X12_refuses ml_12_264 rfl (by decide) rfl rfl rfl (Nat.le_of_ble_eq_true rfl) (by omega) t_X12_goReach_85 hD (fun _ _ e => S_X12_refuses hρ hq6 e) (fun x8 w7 hD => ?_)
      refine g_join (P := fun k10 => ∀ (w9 : Wd), k10 w9 = some rr → gG ρ cs G X 133 [(0, .ref (ρ 119)), (1, .int x1), (2, .int x2), (3, .int x4)] [] w9) hD ?_ (fun k10 hk10 hD => ?_)
      · intro w9 hD
        obtain ⟨x11, ex11, hD⟩ := bd_ex hD
        refine g_iinc (v := x11) (L' := [(3, .int x11), (0, .ref (ρ 119)), (1, .int x1), (2, .int x2)]) h hn t_X12_goReach_133 (k := 3) rfl (by rw [ex11]; rfl) (by decide) rfl ?_
        refine g_goto (tgt := 69) h t_X12_goReach_136 (by decide) ?_
        refine g_loc (L' := [(0, .ref (ρ 119)), (1, .int x1), (2, .int x2), (3, .int x11)]) h [1, 2, 3, 0] rfl ?_
        exact ih x11 _ hD
      · refine g_if_ge (tgt := 94) h t_X12_goReach_88 (by decide) hD (fun hD => ?_) (fun hD => ?_)
        · refine g_aload_n h 0 t_X12_goReach_94 rfl ?_
          refine g_getR h 119 29 132 fl_12_57 rfl (by decide) rfl t_X12_goReach_95 ?_
          refine g_iload_n h 1 t_X12_goReach_98 rfl ?_
          refine g_rald h 132 rfl (by decide) t_X12_goReach_99 hD (fun q12 eq12 lq12 hD => ?_)
          have hq12 : isIA q12 := iaA (f := 133) (by decide) eq12 lq12
          refine g_aload_n h 0 t_X12_goReach_100 rfl ?_
          refine g_getR h 119 29 132 fl_12_57 rfl (by decide) rfl t_X12_goReach_101 ?_
          refine g_iload_n h 1 t_X12_goReach_104 rfl ?_
          refine g_iconst (v := 1) h t_X12_goReach_105 (by decide) ?_
          refine g_iadd h t_X12_goReach_106 ?_
          refine g_rald h 132 rfl (by decide) t_X12_goReach_107 hD (fun q13 eq13 lq13 hD => ?_)
          have hq13 : isIA q13 := iaA (f := 133) (by decide) eq13 lq13
          refine g_iconst (v := 0) h t_X12_goReach_108 (by decide) ?_
          refine g_callSV h (As := [.ref (ρ q12), .ref (ρ q13), .int 0]) (st := []) my_X12_lay ms_X12_lay ml_12_256 rfl rfl (Nat.le_of_ble_eq_true rfl) (by omega) t_X12_goReach_109 hD (fun _ e => S_X12_lay hρ hq12 hq13 e) (fun w14 hD => ?_)
          refine g_aload_n h 0 t_X12_goReach_112 rfl ?_
          refine g_aload_n h 0 t_X12_goReach_113 rfl ?_
          refine g_getR h 119 29 132 fl_12_57 rfl (by decide) rfl t_X12_goReach_114 ?_
          refine g_iload_n h 1 t_X12_goReach_117 rfl ?_
          refine g_iconst (v := 1) h t_X12_goReach_118 (by decide) ?_
          refine g_iadd h t_X12_goReach_119 ?_
          refine g_rald h 132 rfl (by decide) t_X12_goReach_120 hD (fun q15 eq15 lq15 hD => ?_)
          have hq15 : isIA q15 := iaA (f := 133) (by decide) eq15 lq15
          refine g_iload_n h 3 t_X12_goReach_121 rfl ?_
          refine g_callVV h 119 (As := [.ref (ρ q15), .int x4]) (st := []) my_X12_goMove mi_X12_goMove ml_12_272 rfl (by decide) rfl rfl rfl (Nat.le_of_ble_eq_true rfl) (by omega) t_X12_goReach_122 hD (fun _ e => S_X12_goMove hρ hq15 e) (fun w16 hD => ?_)
          refine g_aload_n h 0 t_X12_goReach_125 rfl ?_
          refine g_iload_n h 1 t_X12_goReach_126 rfl ?_
          refine g_iconst (v := 1) h t_X12_goReach_127 (by decide) ?_
          refine g_iadd h t_X12_goReach_128 ?_
          refine g_iload_n h 2 t_X12_goReach_129 rfl ?_
          refine g_callVV h 119 (As := [.int (x1 + 1), .int x2]) (st := []) my_X12_goReach mi_X12_goReach ml_12_333 rfl (by decide) rfl rfl rfl (Nat.le_of_ble_eq_true rfl) (by omega) t_X12_goReach_130 hD (fun _ e => hrec  e) (fun w17 hD => ?_)
          refine g_loc (L' := [(0, .ref (ρ 119)), (1, .int x1), (2, .int x2), (3, .int x4)]) h [0, 1, 2, 3] rfl ?_
          exact hk10 _ hD
        · refine g_goto (tgt := 133) h t_X12_goReach_91 (by decide) ?_
          refine g_loc (L' := [(0, .ref (ρ 119)), (1, .int x1), (2, .int x2), (3, .int x4)]) h [0, 1, 2, 3] rfl ?_
          exact hk10 _ hD
set_option maxRecDepth 20000 in
theorem Q_X12_goReach_7 {l0 : Launch} {ρ : Nat → Nat} {cs : Nat → ClassId} {G : va_G} {X : Cx} (hρ : injN ρ) {rec : Int32 → Int32 → Wd → Option Wd} {dr d : Nat} (hdr : dr < d) (hbd : 4 ≤ d) (hrec : (∀ {p1 : Int32} {p2 : Int32} {w : Wd} {rr : Wd}, rec p1 p2 w = some rr → CtV l0 ρ cs G y_X12_goReach prog_14_method_71_code 4 dr [.ref (ρ 119), .int p1, .int p2] w rr)) (hn : X.2.2.2.2.2.2.2.2.2.2.1 = 4) (h : Okx l0 ρ cs G X prog_14_method_71_code "SowingBoardsModel" d) {rr : Wd} (hR : ∀ pc L, decode prog_14_method_71_code pc = .ok (.return_, 1) → gG ρ cs G X pc L [] rr) {x19 : Int32} {k29 : Wd → Option Wd} (hk29 : ∀ (w1 : Wd), k29 w1 = some rr → gG ρ cs G X 29 [] [] w1) {k36 : Wd → Option Wd} (hk36 : ∀ (w1 : Wd), k36 w1 = some rr → gG ρ cs G X 36 [(0, .ref (ρ 119)), (1, .int x19)] [] w1) : ∀ (n : Nat) (x21 : Int32) (w : Wd), L_X12_goReach_7 rec x19 k29 k36 n x21 w = some rr → gG ρ cs G X 7 [(0, .ref (ρ 119)), (1, .int x19), (3, .int x21)] [] w := by
  intro n
  induction n with
  | zero =>
    intro x21 w hD
    cases hD
  | succ n20 ih =>
    intro x21 w22 hD
    unfold L_X12_goReach_7 at hD
    refine g_iload_n h 2 t_X12_goReach_7 rfl ?_
    refine g_aload_n h 0 t_X12_goReach_8 rfl ?_
    refine g_getI h 119 38 fl_12_326 rfl (by decide) rfl t_X12_goReach_9 ?_
    refine g_icmp_ge (tgt := 36) h t_X12_goReach_12 (by decide) hD (fun hD => ?_) (fun hD => ?_)
    · refine g_loc (L' := [(0, .ref (ρ 119)), (1, .int x19)]) h [0, 1] rfl ?_
      exact hk36 _ hD
    · refine g_aload_n h 0 t_X12_goReach_15 rfl ?_
      refine g_aload_n h 0 t_X12_goReach_16 rfl ?_
      refine g_getR h 119 29 132 fl_12_57 rfl (by decide) rfl t_X12_goReach_17 ?_
      refine g_iload_n h 1 t_X12_goReach_20 rfl ?_
      refine g_rald h 132 rfl (by decide) t_X12_goReach_21 hD (fun q23 eq23 lq23 hD => ?_)
      have hq23 : isIA q23 := iaA (f := 133) (by decide) eq23 lq23
      refine g_iload_n h 2 t_X12_goReach_22 rfl ?_
      refine g_callVI h 119 (As := [.ref (ρ q23), .int x21]) (st := []) my_X12_isReached mi_X12_isReached ml_12_329 rfl (by decide) rfl rfl rfl (Nat.le_of_ble_eq_true rfl) (by omega) t_X12_goReach_23 hD (fun _ _ e => S_X12_isReached hρ hq23 e) (fun x25 w24 hD => ?_)
      refine g_if_eq (tgt := 30) h t_X12_goReach_26 (by decide) hD (fun hD => ?_) (fun hD => ?_)
      · obtain ⟨x26, ex26, hD⟩ := bd_ex hD
        refine g_iinc (v := x26) (L' := [(3, .int x26), (0, .ref (ρ 119)), (1, .int x19)]) h hn t_X12_goReach_30 (k := 2) rfl (by rw [ex26]; rfl) (by decide) rfl ?_
        refine g_goto (tgt := 7) h t_X12_goReach_33 (by decide) ?_
        refine g_loc (L' := [(0, .ref (ρ 119)), (1, .int x19), (3, .int x26)]) h [1, 2, 0] rfl ?_
        exact ih x26 _ hD
      · refine g_loc (L' := []) h [] rfl ?_
        exact hk29 _ hD
set_option maxRecDepth 20000 in
theorem SB_X12_goReach {l0 : Launch} {ρ : Nat → Nat} {cs : Nat → ClassId} {G : va_G} (hρ : injN ρ) {rec : Int32 → Int32 → Wd → Option Wd} {dr d : Nat} (hdr : dr < d) (hbd : 4 ≤ d) (hrec : (∀ {p1 : Int32} {p2 : Int32} {w : Wd} {rr : Wd}, rec p1 p2 w = some rr → CtV l0 ρ cs G y_X12_goReach prog_14_method_71_code 4 dr [.ref (ρ 119), .int p1, .int p2] w rr)) {p1 : Int32} {p2 : Int32} {w : Wd} {rr : Wd} (hD : B_X12_goReach rec p1 p2 w = some rr) : CtV l0 ρ cs G y_X12_goReach prog_14_method_71_code 4 d [.ref (ρ 119), .int p1, .int p2] w rr := by
  refine ctV_of hρ (by decide) (Nat.le_of_ble_eq_true rfl) (fun X hn h hR => ?_)
  unfold B_X12_goReach at hD
  show gG ρ cs G X 0 [(0, .ref (ρ 119)), (1, .int p1), (2, .int p2)] [] w
  refine g_iload_n h 1 t_X12_goReach_0 rfl ?_
  refine g_iload_n h 2 t_X12_goReach_1 rfl ?_
  refine g_icmp_ne (tgt := 67) h t_X12_goReach_2 (by decide) hD (fun hD => ?_) (fun hD => ?_)
  · refine g_iconst (v := 0) h t_X12_goReach_67 (by decide) ?_
    refine g_istore_n (L' := [(3, .int 0), (0, .ref (ρ 119)), (1, .int p1), (2, .int p2)]) h hn t_X12_goReach_68 rfl (by decide) rfl ?_
    refine g_loc (L' := [(0, .ref (ρ 119)), (1, .int p1), (2, .int p2), (3, .int 0)]) h [1, 2, 3, 0] rfl ?_
    refine Q_X12_goReach_69 hρ hdr hbd hrec hn h hR  ?_ _ _ _ hD
    · intro w18 hD
      obtain rfl := Option.some.inj hD
      exact hR _ _ t_X12_goReach_139
  · refine g_iconst (v := 0) h t_X12_goReach_5 (by decide) ?_
    refine g_istore_n (L' := [(3, .int 0), (0, .ref (ρ 119)), (1, .int p1), (2, .int p2)]) h hn t_X12_goReach_6 rfl (by decide) rfl ?_
    refine g_loc (L' := [(0, .ref (ρ 119)), (1, .int p1), (3, .int 0)]) h [1, 2, 0] rfl ?_
    refine Q_X12_goReach_7 hρ hdr hbd hrec hn h hR  ?_ ?_ _ _ _ hD
    · intro w27 hD
      obtain rfl := Option.some.inj hD
      exact hR _ _ t_X12_goReach_29
    · intro w28 hD
      refine g_aload_n h 0 t_X12_goReach_36 rfl ?_
      refine g_getR h 119 29 132 fl_12_57 rfl (by decide) rfl t_X12_goReach_37 ?_
      refine g_iload_n h 1 t_X12_goReach_40 rfl ?_
      refine g_rald h 132 rfl (by decide) t_X12_goReach_41 hD (fun q29 eq29 lq29 hD => ?_)
      have hq29 : isIA q29 := iaA (f := 133) (by decide) eq29 lq29
      refine g_aload_n h 0 t_X12_goReach_42 rfl ?_
      refine g_getR h 119 37 149 fl_12_72 rfl (by decide) rfl t_X12_goReach_43 ?_
      refine g_bipush (v := 16) h t_X12_goReach_46 (by decide) ?_
      refine g_aload_n h 0 t_X12_goReach_48 rfl ?_
      refine g_getI h 119 38 fl_12_326 rfl (by decide) rfl t_X12_goReach_49 ?_
      refine g_imul h t_X12_goReach_52 ?_
      refine g_callSV h (As := [.ref (ρ q29), .ref (ρ 149), .int (16 * (w28.1 119 38))]) (st := []) my_X12_lay ms_X12_lay ml_12_256 rfl rfl (Nat.le_of_ble_eq_true rfl) (by omega) t_X12_goReach_53 hD (fun _ e => S_X12_lay hρ hq29 (by decide) e) (fun w30 hD => ?_)
      refine g_aload_n h 0 t_X12_goReach_56 rfl ?_
      refine g_dup h t_X12_goReach_57 rfl ?_
      refine g_getI h 119 38 fl_12_326 rfl (by decide) rfl t_X12_goReach_58 ?_
      refine g_iconst (v := 1) h t_X12_goReach_61 (by decide) ?_
      refine g_iadd h t_X12_goReach_62 ?_
      refine g_putI h 119 38 fl_12_326 fp_12_38 rfl (by decide) rfl t_X12_goReach_63 hD (fun w31 hD => ?_)
      obtain rfl := Option.some.inj hD
      exact hR _ _ t_X12_goReach_66
def E_X12_goReach : Nat → Int32 → Int32 → Wd → Option Wd
  | 0, _, _, _ => none
  | n + 1, p1, p2, w => B_X12_goReach (fun p1 p2 w => E_X12_goReach n p1 p2 w) p1 p2 w
set_option maxRecDepth 20000 in
theorem SE_X12_goReach {l0 : Launch} {ρ : Nat → Nat} {cs : Nat → ClassId} {G : va_G} (hρ : injN ρ) : ∀ n : Nat, (∀ {p1 : Int32} {p2 : Int32} {w : Wd} {rr : Wd}, E_X12_goReach n p1 p2 w = some rr → CtV l0 ρ cs G y_X12_goReach prog_14_method_71_code 4 (4 + n) [.ref (ρ 119), .int p1, .int p2] w rr) := by
  intro n
  induction n with
  | zero =>
    intros
    rename_i hD
    cases hD
  | succ n ih =>
    intros
    rename_i hD
    exact SB_X12_goReach hρ (rec := fun p1 p2 w => E_X12_goReach n p1 p2 w) (dr := 4 + n) (d := 4 + (n + 1)) (by omega) (by omega) ih hD
def D_X12_goReach (p1 : Int32) (p2 : Int32) : Wd → Option Wd := fun w => E_X12_goReach 80 p1 p2 w
set_option maxRecDepth 20000 in
theorem S_X12_goReach {l0 : Launch} {ρ : Nat → Nat} {cs : Nat → ClassId} {G : va_G} (hρ : injN ρ) {p1 : Int32} {p2 : Int32} {w : Wd} {rr : Wd} (hD : D_X12_goReach p1 p2 w = some rr) : CtV l0 ρ cs G y_X12_goReach prog_14_method_71_code 4 84 [.ref (ρ 119), .int p1, .int p2] w rr := (SE_X12_goReach hρ 80) hD
def L_X12_reach_50 (k102 : Int32 → Int32 → Wd → Option (Int32 × Wd)) : Nat → Int32 → Int32 → Int32 → Wd → Option (Int32 × Wd)
  | 0, _, _, _, _ => none
  | n8 + 1, x9, x10, x11, w12 =>
    if (w12.1 119 38) ≤ x11 then (k102 x9 x10 w12) else (if ib 14 16 then (if ib (((16 * x11) + 12) + (w12.1 120 (14 : Int32).toNatClampNeg)) 3456 then (bd (w12.1 149 (((16 * x11) + 12) + (w12.1 120 (14 : Int32).toNatClampNeg)).toNatClampNeg) fun x13 => bd (imin x9 x13) fun x14 => bd (imax x10 x13) fun x15 => bd (x11 + 1) fun x16 => L_X12_reach_50 k102 n8 x14 x15 x16 w12) else none) else none)
def D_X12_reach (p1 : Int32) : Wd → Option (Int32 × Wd) := fun w =>
  bd (wI w 119 7 0) fun w1 => bc (D_X12_in p1 0 3 w1) fun x3 w2 => if x3 = 0 then (some ((-1), w2)) else (bd (wI w2 119 38 0) fun w4 => if ib 0 7 then bd (133 + (0 : Int32).toNatClampNeg) (fun q5 => bv (D_X12_lay 120 q5 0 w4) fun w6 => bv (D_X12_goReach 0 p1 w6) fun w7 => L_X12_reach_50 (fun x17 x18 w19 => bd (wI w19 119 6 0) fun w20 => if (w20.1 119 38) ≤ 0 then (some (w20.1 119 38, w20)) else (bv (D_X12_tell x17.toInt64 w20) fun w21 => bv (D_X12_tell x18.toInt64 w21) fun w22 => some (w22.1 119 38, w22))) FU 1000000 (-1) 0 w7) else none)
set_option maxRecDepth 20000 in
theorem Q_X12_reach_50 {l0 : Launch} {ρ : Nat → Nat} {cs : Nat → ClassId} {G : va_G} {X : Cx} (hρ : injN ρ) (hn : X.2.2.2.2.2.2.2.2.2.2.1 = 6) (h : Okx l0 ρ cs G X prog_14_method_72_code "SowingBoardsModel" 85) {rr : (Int32 × Wd)} (hR : ∀ pc L, decode prog_14_method_72_code pc = .ok (.ireturn, 1) → narrow .int (.int rr.1) = .int rr.1 → gG ρ cs G X pc L [.int rr.1] rr.2)  {k102 : Int32 → Int32 → Wd → Option (Int32 × Wd)} (hk102 : ∀ (z2 : Int32) (z3 : Int32) (w1 : Wd), k102 z2 z3 w1 = some rr → gG ρ cs G X 102 [(0, .ref (ρ 119)), (2, .int z2), (3, .int z3)] [] w1) : ∀ (n : Nat) (x9 : Int32) (x10 : Int32) (x11 : Int32) (w : Wd), L_X12_reach_50 k102 n x9 x10 x11 w = some rr → gG ρ cs G X 50 [(0, .ref (ρ 119)), (2, .int x9), (3, .int x10), (4, .int x11)] [] w := by
  intro n
  induction n with
  | zero =>
    intro x9 x10 x11 w hD
    cases hD
  | succ n8 ih =>
    intro x9 x10 x11 w12 hD
    unfold L_X12_reach_50 at hD
    refine g_iload h 3 t_X12_reach_50 rfl ?_
    refine g_aload_n h 0 t_X12_reach_52 rfl ?_
    refine g_getI h 119 38 fl_12_326 rfl (by decide) rfl t_X12_reach_53 ?_
    refine g_icmp_ge (tgt := 102) h t_X12_reach_56 (by decide) hD (fun hD => ?_) (fun hD => ?_)
    · refine g_loc (L' := [(0, .ref (ρ 119)), (2, .int x9), (3, .int x10)]) h [0, 1, 2] rfl ?_
      exact hk102 x9 x10 _ hD
    · refine g_aload_n h 0 t_X12_reach_59 rfl ?_
      refine g_getR h 119 37 149 fl_12_72 rfl (by decide) rfl t_X12_reach_60 ?_
      refine g_bipush (v := 16) h t_X12_reach_63 (by decide) ?_
      refine g_iload h 3 t_X12_reach_65 rfl ?_
      refine g_imul h t_X12_reach_67 ?_
      refine g_bipush (v := 12) h t_X12_reach_68 (by decide) ?_
      refine g_iadd h t_X12_reach_70 ?_
      refine g_aload_n h 0 t_X12_reach_71 rfl ?_
      refine g_getR h 119 0 120 fl_12_9 rfl (by decide) rfl t_X12_reach_72 ?_
      refine g_bipush (v := 14) h t_X12_reach_75 (by decide) ?_
      refine g_iald h 120 rfl (by decide) t_X12_reach_77 hD (fun hD => ?_)
      refine g_iadd h t_X12_reach_78 ?_
      refine g_iald h 149 rfl (by decide) t_X12_reach_79 hD (fun hD => ?_)
      refine g_bdI hD (fun x13 hD => ?_)
      refine g_istore (L' := [(5, .int x13), (0, .ref (ρ 119)), (2, .int x9), (3, .int x10), (4, .int x11)]) h hn t_X12_reach_80 (by decide) rfl ?_
      refine g_iload_n h 2 t_X12_reach_82 rfl ?_
      refine g_iload h 0 t_X12_reach_83 rfl ?_
      refine g_mmin h (st := []) (vtb_at 1618 (by decide +kernel) rfl) (Nat.le_of_ble_eq_true rfl) t_X12_reach_85 ?_
      refine g_bdI hD (fun x14 hD => ?_)
      refine g_istore_n (L' := [(2, .int x14), (5, .int x13), (0, .ref (ρ 119)), (3, .int x10), (4, .int x11)]) h hn t_X12_reach_88 rfl (by decide) rfl ?_
      refine g_iload_n h 3 t_X12_reach_89 rfl ?_
      refine g_iload h 1 t_X12_reach_90 rfl ?_
      refine g_mmax h (st := []) (vtb_at 1619 (by decide +kernel) rfl) (Nat.le_of_ble_eq_true rfl) t_X12_reach_92 ?_
      refine g_bdI hD (fun x15 hD => ?_)
      refine g_istore_n (L' := [(3, .int x15), (2, .int x14), (5, .int x13), (0, .ref (ρ 119)), (4, .int x11)]) h hn t_X12_reach_95 rfl (by decide) rfl ?_
      obtain ⟨x16, ex16, hD⟩ := bd_ex hD
      refine g_iinc (v := x16) (L' := [(4, .int x16), (3, .int x15), (2, .int x14), (5, .int x13), (0, .ref (ρ 119))]) h hn t_X12_reach_96 (k := 4) rfl (by rw [ex16]; rfl) (by decide) rfl ?_
      refine g_goto (tgt := 50) h t_X12_reach_99 (by decide) ?_
      refine g_loc (L' := [(0, .ref (ρ 119)), (2, .int x14), (3, .int x15), (4, .int x16)]) h [4, 2, 1, 0] rfl ?_
      exact ih x14 x15 x16 _ hD
set_option maxRecDepth 20000 in
theorem S_X12_reach {l0 : Launch} {ρ : Nat → Nat} {cs : Nat → ClassId} {G : va_G} (hρ : injN ρ) {p1 : Int32} {w : Wd} {rr : (Int32 × Wd)} (hD : D_X12_reach p1 w = some rr) : CtI l0 ρ cs G y_X12_reach prog_14_method_72_code 6 .int 85 [.ref (ρ 119), .int p1] w rr.1 rr.2 := by
  refine ctI_of hρ (by decide) (Nat.le_of_ble_eq_true rfl) (fun X hn h hR => ?_)
  unfold D_X12_reach at hD
  show gG ρ cs G X 0 [(0, .ref (ρ 119)), (1, .int p1)] [] w
  refine g_aload_n h 0 t_X12_reach_0 rfl ?_
  refine g_iconst (v := 0) h t_X12_reach_1 (by decide) ?_
  refine g_putI h 119 7 fl_12_109 fp_12_7 rfl (by decide) rfl t_X12_reach_2 hD (fun w1 hD => ?_)
  refine g_iload_n h 1 t_X12_reach_5 rfl ?_
  refine g_iconst (v := 0) h t_X12_reach_6 (by decide) ?_
  refine g_iconst (v := 3) h t_X12_reach_7 (by decide) ?_
  refine g_callSI h (As := [.int p1, .int 0, .int 3]) (st := []) my_X12_in ms_X12_in ml_12_118 rfl rfl (Nat.le_of_ble_eq_true rfl) (by decide) t_X12_reach_8 hD (fun _ _ e => S_X12_in hρ  e) (fun x3 w2 hD => ?_)
  refine g_if_ne (tgt := 16) h t_X12_reach_11 (by decide) hD (fun hD => ?_) (fun hD => ?_)
  · refine g_aload_n h 0 t_X12_reach_16 rfl ?_
    refine g_iconst (v := 0) h t_X12_reach_17 (by decide) ?_
    refine g_putI h 119 38 fl_12_326 fp_12_38 rfl (by decide) rfl t_X12_reach_18 hD (fun w4 hD => ?_)
    refine g_aload_n h 0 t_X12_reach_21 rfl ?_
    refine g_getR h 119 0 120 fl_12_9 rfl (by decide) rfl t_X12_reach_22 ?_
    refine g_aload_n h 0 t_X12_reach_25 rfl ?_
    refine g_getR h 119 29 132 fl_12_57 rfl (by decide) rfl t_X12_reach_26 ?_
    refine g_iconst (v := 0) h t_X12_reach_29 (by decide) ?_
    refine g_rald h 132 rfl (by decide) t_X12_reach_30 hD (fun q5 eq5 lq5 hD => ?_)
    have hq5 : isIA q5 := iaA (f := 133) (by decide) eq5 lq5
    refine g_iconst (v := 0) h t_X12_reach_31 (by decide) ?_
    refine g_callSV h (As := [.ref (ρ 120), .ref (ρ q5), .int 0]) (st := []) my_X12_lay ms_X12_lay ml_12_256 rfl rfl (Nat.le_of_ble_eq_true rfl) (by decide) t_X12_reach_32 hD (fun _ e => S_X12_lay hρ (by decide) hq5 e) (fun w6 hD => ?_)
    refine g_aload_n h 0 t_X12_reach_35 rfl ?_
    refine g_iconst (v := 0) h t_X12_reach_36 (by decide) ?_
    refine g_iload_n h 1 t_X12_reach_37 rfl ?_
    refine g_callVV h 119 (As := [.int 0, .int p1]) (st := []) my_X12_goReach mi_X12_goReach ml_12_333 rfl (by decide) rfl rfl rfl (Nat.le_of_ble_eq_true rfl) (by decide) t_X12_reach_38 hD (fun _ e => S_X12_goReach hρ  e) (fun w7 hD => ?_)
    refine g_ldcw (v := 1000000) h t_X12_reach_41 cc_12_337 ?_
    refine g_istore_n (L' := [(2, .int 1000000), (0, .ref (ρ 119)), (1, .int p1)]) h hn t_X12_reach_44 rfl (by decide) rfl ?_
    refine g_iconst (v := (-1)) h t_X12_reach_45 (by decide) ?_
    refine g_istore_n (L' := [(3, .int (-1)), (2, .int 1000000), (0, .ref (ρ 119)), (1, .int p1)]) h hn t_X12_reach_46 rfl (by decide) rfl ?_
    refine g_iconst (v := 0) h t_X12_reach_47 (by decide) ?_
    refine g_istore (L' := [(4, .int 0), (3, .int (-1)), (2, .int 1000000), (0, .ref (ρ 119)), (1, .int p1)]) h hn t_X12_reach_48 (by decide) rfl ?_
    refine g_loc (L' := [(0, .ref (ρ 119)), (2, .int 1000000), (3, .int (-1)), (4, .int 0)]) h [3, 2, 1, 0] rfl ?_
    refine Q_X12_reach_50 hρ hn h hR  ?_ _ _ _ _ _ hD
    · intro x17 x18 w19 hD
      refine g_aload_n h 0 t_X12_reach_102 rfl ?_
      refine g_iconst (v := 0) h t_X12_reach_103 (by decide) ?_
      refine g_putI h 119 6 fl_12_112 fp_12_6 rfl (by decide) rfl t_X12_reach_104 hD (fun w20 hD => ?_)
      refine g_aload_n h 0 t_X12_reach_107 rfl ?_
      refine g_getI h 119 38 fl_12_326 rfl (by decide) rfl t_X12_reach_108 ?_
      refine g_if_le (tgt := 126) h t_X12_reach_111 (by decide) hD (fun hD => ?_) (fun hD => ?_)
      · refine g_aload_n h 0 t_X12_reach_126 rfl ?_
        refine g_getI h 119 38 fl_12_326 rfl (by decide) rfl t_X12_reach_127 ?_
        obtain rfl := Option.some.inj hD
        exact hR _ _ t_X12_reach_130 rfl
      · refine g_aload_n h 0 t_X12_reach_114 rfl ?_
        refine g_iload_n h 1 t_X12_reach_115 rfl ?_
        refine g_i2l h t_X12_reach_116 ?_
        refine g_callVV h 119 (As := [.long x17.toInt64]) (st := []) my_X12_tell mi_X12_tell ml_12_260 rfl (by decide) rfl rfl rfl (Nat.le_of_ble_eq_true rfl) (by decide) t_X12_reach_117 hD (fun _ e => S_X12_tell hρ  e) (fun w21 hD => ?_)
        refine g_aload_n h 0 t_X12_reach_120 rfl ?_
        refine g_iload_n h 2 t_X12_reach_121 rfl ?_
        refine g_i2l h t_X12_reach_122 ?_
        refine g_callVV h 119 (As := [.long x18.toInt64]) (st := []) my_X12_tell mi_X12_tell ml_12_260 rfl (by decide) rfl rfl rfl (Nat.le_of_ble_eq_true rfl) (by decide) t_X12_reach_123 hD (fun _ e => S_X12_tell hρ  e) (fun w22 hD => ?_)
        refine g_aload_n h 0 t_X12_reach_126 rfl ?_
        refine g_getI h 119 38 fl_12_326 rfl (by decide) rfl t_X12_reach_127 ?_
        obtain rfl := Option.some.inj hD
        exact hR _ _ t_X12_reach_130 rfl
  · refine g_iconst (v := (-1)) h t_X12_reach_14 (by decide) ?_
    obtain rfl := Option.some.inj hD
    exact hR _ _ t_X12_reach_15 rfl
def B_X12_common (rec : Int64 → Int64 → Wd → Option (Int64 × Wd)) (p0 : Int64) (p1 : Int64) : Wd → Option (Int64 × Wd) := fun w =>
  if (lg_cmp p1 (0 : Int64)) = 0 then (some (p0, w)) else (if ¬ (p1) = 0 then (bc (rec p1 (p0 - p0 / p1 * p1) w) fun x2 w1 => some (x2, w1)) else none)
set_option maxRecDepth 20000 in
theorem SB_X12_common {l0 : Launch} {ρ : Nat → Nat} {cs : Nat → ClassId} {G : va_G} (hρ : injN ρ) {rec : Int64 → Int64 → Wd → Option (Int64 × Wd)} {dr d : Nat} (hdr : dr < d) (hbd : 0 ≤ d) (hrec : (∀ {p0 : Int64} {p1 : Int64} {w : Wd} {rr : (Int64 × Wd)}, rec p0 p1 w = some rr → CtJ l0 ρ cs G y_X12_common prog_14_method_73_code 4 dr [.long p0, .long p1] w rr.1 rr.2)) {p0 : Int64} {p1 : Int64} {w : Wd} {rr : (Int64 × Wd)} (hD : B_X12_common rec p0 p1 w = some rr) : CtJ l0 ρ cs G y_X12_common prog_14_method_73_code 4 d [.long p0, .long p1] w rr.1 rr.2 := by
  refine ctJ_of hρ (by decide) (Nat.le_of_ble_eq_true rfl) (fun X hn h hR => ?_)
  unfold B_X12_common at hD
  show gG ρ cs G X 0 [(0, .long p0), (2, .long p1)] [] w
  refine g_lload_n h 1 t_X12_common_0 rfl ?_
  refine g_lconst (v := 0) h t_X12_common_1 (by decide) ?_
  refine g_lcmp h t_X12_common_2 ?_
  refine g_if_ne (tgt := 10) h t_X12_common_3 (by decide) hD (fun hD => ?_) (fun hD => ?_)
  · refine g_lload_n h 1 t_X12_common_10 rfl ?_
    refine g_lload_n h 0 t_X12_common_11 rfl ?_
    refine g_lload_n h 1 t_X12_common_12 rfl ?_
    refine g_lrem h t_X12_common_13 hD (fun hD => ?_)
    refine g_callSJ h (As := [.long p1, .long (p0 - p0 / p1 * p1)]) (st := []) my_X12_common ms_X12_common ml_12_338 rfl rfl (Nat.le_of_ble_eq_true rfl) (by omega) t_X12_common_14 hD (fun _ _ e => hrec  e) (fun x2 w1 hD => ?_)
    obtain rfl := Option.some.inj hD
    exact hR _ _ t_X12_common_17
  · refine g_lload_n h 0 t_X12_common_6 rfl ?_
    refine g_goto (tgt := 17) h t_X12_common_7 (by decide) ?_
    obtain rfl := Option.some.inj hD
    exact hR _ _ t_X12_common_17
def E_X12_common : Nat → Int64 → Int64 → Wd → Option (Int64 × Wd)
  | 0, _, _, _ => none
  | n + 1, p0, p1, w => B_X12_common (fun p0 p1 w => E_X12_common n p0 p1 w) p0 p1 w
set_option maxRecDepth 20000 in
theorem SE_X12_common {l0 : Launch} {ρ : Nat → Nat} {cs : Nat → ClassId} {G : va_G} (hρ : injN ρ) : ∀ n : Nat, (∀ {p0 : Int64} {p1 : Int64} {w : Wd} {rr : (Int64 × Wd)}, E_X12_common n p0 p1 w = some rr → CtJ l0 ρ cs G y_X12_common prog_14_method_73_code 4 (0 + n) [.long p0, .long p1] w rr.1 rr.2) := by
  intro n
  induction n with
  | zero =>
    intros
    rename_i hD
    cases hD
  | succ n ih =>
    intros
    rename_i hD
    exact SB_X12_common hρ (rec := fun p0 p1 w => E_X12_common n p0 p1 w) (dr := 0 + n) (d := 0 + (n + 1)) (by omega) (by omega) ih hD
def D_X12_common (p0 : Int64) (p1 : Int64) : Wd → Option (Int64 × Wd) := fun w => E_X12_common 80 p0 p1 w
set_option maxRecDepth 20000 in
theorem S_X12_common {l0 : Launch} {ρ : Nat → Nat} {cs : Nat → ClassId} {G : va_G} (hρ : injN ρ) {p0 : Int64} {p1 : Int64} {w : Wd} {rr : (Int64 × Wd)} (hD : D_X12_common p0 p1 w = some rr) : CtJ l0 ρ cs G y_X12_common prog_14_method_73_code 4 80 [.long p0, .long p1] w rr.1 rr.2 := (SE_X12_common hρ 80) hD
def L_X12_luckOf_14 (rec : Int32 → Int32 → Int32 → Wd → Option (Int64 × Wd)) (x2 : Int32) (x3 : Int32) (x4 : Int32) (q5 : Nat) (k34 : Int64 → Wd → Option (Int64 × Wd)) : Nat → Int64 → Int32 → Wd → Option (Int64 × Wd)
  | 0, _, _, _ => none
  | n6 + 1, x7, x8, w9 =>
    if x3 ≤ x8 then (k34 x7 w9) else (bd (x7 * (60 : Int64)) fun x10 => bd (x8 + 1) fun x11 => L_X12_luckOf_14 rec x2 x3 x4 q5 k34 n6 x10 x11 w9)
def L_X12_luckOf_70 (rec : Int32 → Int32 → Int32 → Wd → Option (Int64 × Wd)) (x18 : Int32) (x19 : Int32) (x20 : Int32) (q21 : Nat) (k106 : Int32 → Wd → Option (Int64 × Wd)) : Nat → Int32 → Int32 → Wd → Option (Int64 × Wd)
  | 0, _, _, _ => none
  | n22 + 1, x23, x24, w25 =>
    if (w25.1 119 1) ≤ x24 then (k106 x23 w25) else (bc (D_X12_refuses q21 x24 w25) fun x27 w26 => bd (fun (x28 : Int32) (w29 : Wd) => bd (x23 + x28) fun x31 => bd (x24 + 1) fun x32 => L_X12_luckOf_70 rec x18 x19 x20 q21 k106 n22 x31 x32 w29) fun k30 => if x27 = 0 then (k30 1 w26) else (k30 0 w26))
def L_X12_luckOf_112 (rec : Int32 → Int32 → Int32 → Wd → Option (Int64 × Wd)) (x35 : Int32) (x36 : Int32) (x37 : Int32) (q38 : Nat) (x39 : Int32) (k191 : Int64 → Wd → Option (Int64 × Wd)) : Nat → Int64 → Int32 → Wd → Option (Int64 × Wd)
  | 0, _, _, _ => none
  | n40 + 1, x41, x42, w43 =>
    if (w43.1 119 1) ≤ x42 then (k191 x41 w43) else (bc (D_X12_refuses q38 x42 w43) fun x45 w44 => bd (fun (x46 : Int64) (w47 : Wd) => bd (x42 + 1) fun x49 => L_X12_luckOf_112 rec x35 x36 x37 q38 x39 k191 n40 x46 x49 w47) fun k48 => if 0 ≤ x45 then (if ib (x35 + 1) 7 then bd (133 + (x35 + 1).toNatClampNeg) (fun q50 => bv (D_X12_lay q38 q50 0 w44) fun w51 => if ib (x35 + 1) 7 then bd (133 + (x35 + 1).toNatClampNeg) (fun q52 => bv (D_X12_goMove q52 x42 w51) fun w53 => if ¬ (x39.toInt64) = 0 then (bc (rec (x35 + 1) x36 x37 w53) fun x55 w54 => bd (x41 + (((60 : Int64) / x39.toInt64) * x55)) fun x56 => k48 x56 w54) else none) else none) else none) else (k48 x41 w44))
def B_X12_luckOf (rec : Int32 → Int32 → Int32 → Wd → Option (Int64 × Wd)) (p1 : Int32) (p2 : Int32) (p3 : Int32) : Wd → Option (Int64 × Wd) := fun w =>
  if ib p1 7 then bd (133 + p1.toNatClampNeg) (fun q1 => L_X12_luckOf_14 rec p1 p2 p3 q1 (fun x12 w13 => bd (fun (w14 : Wd) => if ib 12 (ln q1) then (if (w14.1 q1 (12 : Int32).toNatClampNeg) < p3 then (some ((0 : Int64), w14)) else (some (x12, w14))) else none) fun k15 => if p1 = p2 then (k15 w13) else (bc (D_X12_isOver q1 w13) fun x17 w16 => if x17 = 0 then (L_X12_luckOf_70 rec p1 p2 p3 q1 (fun x33 w34 => L_X12_luckOf_112 rec p1 p2 p3 q1 x33 (fun x57 w58 => some (x57, w58)) FU (0 : Int64) 0 w34) FU 0 0 w16) else (k15 w16))) FU (1 : Int64) p1 w) else none
set_option maxRecDepth 20000 in
theorem Q_X12_luckOf_14 {l0 : Launch} {ρ : Nat → Nat} {cs : Nat → ClassId} {G : va_G} {X : Cx} (hρ : injN ρ) {rec : Int32 → Int32 → Int32 → Wd → Option (Int64 × Wd)} {dr d : Nat} (hdr : dr < d) (hbd : 4 ≤ d) (hrec : (∀ {p1 : Int32} {p2 : Int32} {p3 : Int32} {w : Wd} {rr : (Int64 × Wd)}, rec p1 p2 p3 w = some rr → CtJ l0 ρ cs G y_X12_luckOf prog_14_method_74_code 11 dr [.ref (ρ 119), .int p1, .int p2, .int p3] w rr.1 rr.2)) (hn : X.2.2.2.2.2.2.2.2.2.2.1 = 11) (h : Okx l0 ρ cs G X prog_14_method_74_code "SowingBoardsModel" d) {rr : (Int64 × Wd)} (hR : ∀ pc L, decode prog_14_method_74_code pc = .ok (.lreturn, 1) → gG ρ cs G X pc L [.long rr.1] rr.2) {x2 : Int32} {x3 : Int32} {x4 : Int32} {q5 : Nat} (hq5 : isIA q5) {k34 : Int64 → Wd → Option (Int64 × Wd)} (hk34 : ∀ (z5 : Int64) (w1 : Wd), k34 z5 w1 = some rr → gG ρ cs G X 34 [(0, .ref (ρ 119)), (1, .int x2), (2, .int x3), (3, .int x4), (4, .ref (ρ q5)), (5, .long z5)] [] w1) : ∀ (n : Nat) (x7 : Int64) (x8 : Int32) (w : Wd), L_X12_luckOf_14 rec x2 x3 x4 q5 k34 n x7 x8 w = some rr → gG ρ cs G X 14 [(0, .ref (ρ 119)), (1, .int x2), (2, .int x3), (3, .int x4), (4, .ref (ρ q5)), (5, .long x7), (7, .int x8)] [] w := by
  intro n
  induction n with
  | zero =>
    intro x7 x8 w hD
    cases hD
  | succ n6 ih =>
    intro x7 x8 w9 hD
    unfold L_X12_luckOf_14 at hD
    refine g_iload h 6 t_X12_luckOf_14 rfl ?_
    refine g_iload_n h 2 t_X12_luckOf_16 rfl ?_
    refine g_icmp_ge (tgt := 34) h t_X12_luckOf_17 (by decide) hD (fun hD => ?_) (fun hD => ?_)
    · refine g_loc (L' := [(0, .ref (ρ 119)), (1, .int x2), (2, .int x3), (3, .int x4), (4, .ref (ρ q5)), (5, .long x7)]) h [0, 1, 2, 3, 4, 5] rfl ?_
      exact hk34 x7 _ hD
    · refine g_lload h 5 t_X12_luckOf_20 rfl ?_
      refine g_ldc2 (v := 60) h t_X12_luckOf_22 cc_12_342 ?_
      refine g_lmul h t_X12_luckOf_25 ?_
      refine g_bdJ hD (fun x10 hD => ?_)
      refine g_lstore (L' := [(5, .long x10), (0, .ref (ρ 119)), (1, .int x2), (2, .int x3), (3, .int x4), (4, .ref (ρ q5)), (7, .int x8)]) h hn t_X12_luckOf_26 (by decide) rfl ?_
      obtain ⟨x11, ex11, hD⟩ := bd_ex hD
      refine g_iinc (v := x11) (L' := [(7, .int x11), (5, .long x10), (0, .ref (ρ 119)), (1, .int x2), (2, .int x3), (3, .int x4), (4, .ref (ρ q5))]) h hn t_X12_luckOf_28 (k := 6) rfl (by rw [ex11]; rfl) (by decide) rfl ?_
      refine g_goto (tgt := 14) h t_X12_luckOf_31 (by decide) ?_
      refine g_loc (L' := [(0, .ref (ρ 119)), (1, .int x2), (2, .int x3), (3, .int x4), (4, .ref (ρ q5)), (5, .long x10), (7, .int x11)]) h [2, 3, 4, 5, 6, 1, 0] rfl ?_
      exact ih x10 x11 _ hD
set_option maxRecDepth 20000 in
theorem Q_X12_luckOf_70 {l0 : Launch} {ρ : Nat → Nat} {cs : Nat → ClassId} {G : va_G} {X : Cx} (hρ : injN ρ) {rec : Int32 → Int32 → Int32 → Wd → Option (Int64 × Wd)} {dr d : Nat} (hdr : dr < d) (hbd : 4 ≤ d) (hrec : (∀ {p1 : Int32} {p2 : Int32} {p3 : Int32} {w : Wd} {rr : (Int64 × Wd)}, rec p1 p2 p3 w = some rr → CtJ l0 ρ cs G y_X12_luckOf prog_14_method_74_code 11 dr [.ref (ρ 119), .int p1, .int p2, .int p3] w rr.1 rr.2)) (hn : X.2.2.2.2.2.2.2.2.2.2.1 = 11) (h : Okx l0 ρ cs G X prog_14_method_74_code "SowingBoardsModel" d) {rr : (Int64 × Wd)} (hR : ∀ pc L, decode prog_14_method_74_code pc = .ok (.lreturn, 1) → gG ρ cs G X pc L [.long rr.1] rr.2) {x18 : Int32} {x19 : Int32} {x20 : Int32} {q21 : Nat} (hq21 : isIA q21) {k106 : Int32 → Wd → Option (Int64 × Wd)} (hk106 : ∀ (z7 : Int32) (w1 : Wd), k106 z7 w1 = some rr → gG ρ cs G X 106 [(0, .ref (ρ 119)), (1, .int x18), (2, .int x19), (3, .int x20), (4, .ref (ρ q21)), (7, .int z7)] [] w1) : ∀ (n : Nat) (x23 : Int32) (x24 : Int32) (w : Wd), L_X12_luckOf_70 rec x18 x19 x20 q21 k106 n x23 x24 w = some rr → gG ρ cs G X 70 [(0, .ref (ρ 119)), (1, .int x18), (2, .int x19), (3, .int x20), (4, .ref (ρ q21)), (7, .int x23), (8, .int x24)] [] w := by
  intro n
  induction n with
  | zero =>
    intro x23 x24 w hD
    cases hD
  | succ n22 ih =>
    intro x23 x24 w25 hD
    unfold L_X12_luckOf_70 at hD
    refine g_iload h 6 t_X12_luckOf_70 rfl ?_
    refine g_aload_n h 0 t_X12_luckOf_72 rfl ?_
    refine g_getI h 119 1 fl_12_13 rfl (by decide) rfl t_X12_luckOf_73 ?_
    refine g_icmp_ge (tgt := 106) h t_X12_luckOf_76 (by decide) hD (fun hD => ?_) (fun hD => ?_)
    · refine g_loc (L' := [(0, .ref (ρ 119)), (1, .int x18), (2, .int x19), (3, .int x20), (4, .ref (ρ q21)), (7, .int x23)]) h [0, 1, 2, 3, 4, 5] rfl ?_
      exact hk106 x23 _ hD
    · refine g_iload h 5 t_X12_luckOf_79 rfl ?_
      refine g_aload_n h 0 t_X12_luckOf_81 rfl ?_
      refine g_aload h 4 t_X12_luckOf_82 rfl ?_
      refine g_iload h 6 t_X12_luckOf_84 rfl ?_
      refine g_callVI h 119 (As := [.ref (ρ q21), .int x24]) (st := [.int x23]) my_X12_refuses mi_X12_refuses ml_12_264 rfl (by decide) rfl rfl rfl (Nat.le_of_ble_eq_true rfl) (by omega) t_X12_luckOf_86 hD (fun _ _ e => S_X12_refuses hρ hq21 e) (fun x27 w26 hD => ?_)
      refine g_join (P := fun k30 => ∀ (x28 : Int32) (w29 : Wd), k30 x28 w29 = some rr → gG ρ cs G X 97 [(0, .ref (ρ 119)), (1, .int x18), (2, .int x19), (3, .int x20), (4, .ref (ρ q21)), (8, .int x24)] [.int x28, .int x23] w29) hD ?_ (fun k30 hk30 hD => ?_)
      · intro x28 w29 hD
        refine g_iadd h t_X12_luckOf_97 ?_
        refine g_bdI hD (fun x31 hD => ?_)
        refine g_istore (L' := [(7, .int x31), (0, .ref (ρ 119)), (1, .int x18), (2, .int x19), (3, .int x20), (4, .ref (ρ q21)), (8, .int x24)]) h hn t_X12_luckOf_98 (by decide) rfl ?_
        obtain ⟨x32, ex32, hD⟩ := bd_ex hD
        refine g_iinc (v := x32) (L' := [(8, .int x32), (7, .int x31), (0, .ref (ρ 119)), (1, .int x18), (2, .int x19), (3, .int x20), (4, .ref (ρ q21))]) h hn t_X12_luckOf_100 (k := 6) rfl (by rw [ex32]; rfl) (by decide) rfl ?_
        refine g_goto (tgt := 70) h t_X12_luckOf_103 (by decide) ?_
        refine g_loc (L' := [(0, .ref (ρ 119)), (1, .int x18), (2, .int x19), (3, .int x20), (4, .ref (ρ q21)), (7, .int x31), (8, .int x32)]) h [2, 3, 4, 5, 6, 1, 0] rfl ?_
        exact ih x31 x32 _ hD
      · refine g_if_ne (tgt := 96) h t_X12_luckOf_89 (by decide) hD (fun hD => ?_) (fun hD => ?_)
        · refine g_iconst (v := 0) h t_X12_luckOf_96 (by decide) ?_
          refine g_loc (L' := [(0, .ref (ρ 119)), (1, .int x18), (2, .int x19), (3, .int x20), (4, .ref (ρ q21)), (8, .int x24)]) h [0, 1, 2, 3, 4, 6] rfl ?_
          exact hk30 0 _ hD
        · refine g_iconst (v := 1) h t_X12_luckOf_92 (by decide) ?_
          refine g_goto (tgt := 97) h t_X12_luckOf_93 (by decide) ?_
          refine g_loc (L' := [(0, .ref (ρ 119)), (1, .int x18), (2, .int x19), (3, .int x20), (4, .ref (ρ q21)), (8, .int x24)]) h [0, 1, 2, 3, 4, 6] rfl ?_
          exact hk30 1 _ hD
set_option maxRecDepth 20000 in
theorem Q_X12_luckOf_112 {l0 : Launch} {ρ : Nat → Nat} {cs : Nat → ClassId} {G : va_G} {X : Cx} (hρ : injN ρ) {rec : Int32 → Int32 → Int32 → Wd → Option (Int64 × Wd)} {dr d : Nat} (hdr : dr < d) (hbd : 4 ≤ d) (hrec : (∀ {p1 : Int32} {p2 : Int32} {p3 : Int32} {w : Wd} {rr : (Int64 × Wd)}, rec p1 p2 p3 w = some rr → CtJ l0 ρ cs G y_X12_luckOf prog_14_method_74_code 11 dr [.ref (ρ 119), .int p1, .int p2, .int p3] w rr.1 rr.2)) (hn : X.2.2.2.2.2.2.2.2.2.2.1 = 11) (h : Okx l0 ρ cs G X prog_14_method_74_code "SowingBoardsModel" d) {rr : (Int64 × Wd)} (hR : ∀ pc L, decode prog_14_method_74_code pc = .ok (.lreturn, 1) → gG ρ cs G X pc L [.long rr.1] rr.2) {x35 : Int32} {x36 : Int32} {x37 : Int32} {q38 : Nat} (hq38 : isIA q38) {x39 : Int32} {k191 : Int64 → Wd → Option (Int64 × Wd)} (hk191 : ∀ (z8 : Int64) (w1 : Wd), k191 z8 w1 = some rr → gG ρ cs G X 191 [(8, .long z8)] [] w1) : ∀ (n : Nat) (x41 : Int64) (x42 : Int32) (w : Wd), L_X12_luckOf_112 rec x35 x36 x37 q38 x39 k191 n x41 x42 w = some rr → gG ρ cs G X 112 [(0, .ref (ρ 119)), (1, .int x35), (2, .int x36), (3, .int x37), (4, .ref (ρ q38)), (7, .int x39), (8, .long x41), (10, .int x42)] [] w := by
  intro n
  induction n with
  | zero =>
    intro x41 x42 w hD
    cases hD
  | succ n40 ih =>
    intro x41 x42 w43 hD
    unfold L_X12_luckOf_112 at hD
    refine g_iload h 7 t_X12_luckOf_112 rfl ?_
    refine g_aload_n h 0 t_X12_luckOf_114 rfl ?_
    refine g_getI h 119 1 fl_12_13 rfl (by decide) rfl t_X12_luckOf_115 ?_
    refine g_icmp_ge (tgt := 191) h t_X12_luckOf_118 (by decide) hD (fun hD => ?_) (fun hD => ?_)
    · refine g_loc (L' := [(8, .long x41)]) h [6] rfl ?_
      exact hk191 x41 _ hD
    · refine g_aload_n h 0 t_X12_luckOf_121 rfl ?_
      refine g_aload h 4 t_X12_luckOf_122 rfl ?_
      refine g_iload h 7 t_X12_luckOf_124 rfl ?_
      refine g_callVI h 119 (As := [.ref (ρ q38), .int x42]) (st := []) my_X12_refuses mi_X12_refuses ml_12_264 rfl (by decide) rfl rfl rfl (Nat.le_of_ble_eq_true rfl) (by omega) t_X12_luckOf_126 hD (fun _ _ e => S_X12_refuses hρ hq38 e) (fun x45 w44 hD => ?_)
      refine g_join (P := fun k48 => ∀ (x46 : Int64) (w47 : Wd), k48 x46 w47 = some rr → gG ρ cs G X 185 [(0, .ref (ρ 119)), (1, .int x35), (2, .int x36), (3, .int x37), (4, .ref (ρ q38)), (7, .int x39), (8, .long x46), (10, .int x42)] [] w47) hD ?_ (fun k48 hk48 hD => ?_)
      · intro x46 w47 hD
        obtain ⟨x49, ex49, hD⟩ := bd_ex hD
        refine g_iinc (v := x49) (L' := [(10, .int x49), (0, .ref (ρ 119)), (1, .int x35), (2, .int x36), (3, .int x37), (4, .ref (ρ q38)), (7, .int x39), (8, .long x46)]) h hn t_X12_luckOf_185 (k := 7) rfl (by rw [ex49]; rfl) (by decide) rfl ?_
        refine g_goto (tgt := 112) h t_X12_luckOf_188 (by decide) ?_
        refine g_loc (L' := [(0, .ref (ρ 119)), (1, .int x35), (2, .int x36), (3, .int x37), (4, .ref (ρ q38)), (7, .int x39), (8, .long x46), (10, .int x49)]) h [1, 2, 3, 4, 5, 6, 7, 0] rfl ?_
        exact ih x46 x49 _ hD
      · refine g_if_ge (tgt := 135) h t_X12_luckOf_129 (by decide) hD (fun hD => ?_) (fun hD => ?_)
        · refine g_aload h 4 t_X12_luckOf_135 rfl ?_
          refine g_aload_n h 0 t_X12_luckOf_137 rfl ?_
          refine g_getR h 119 29 132 fl_12_57 rfl (by decide) rfl t_X12_luckOf_138 ?_
          refine g_iload_n h 1 t_X12_luckOf_141 rfl ?_
          refine g_iconst (v := 1) h t_X12_luckOf_142 (by decide) ?_
          refine g_iadd h t_X12_luckOf_143 ?_
          refine g_rald h 132 rfl (by decide) t_X12_luckOf_144 hD (fun q50 eq50 lq50 hD => ?_)
          have hq50 : isIA q50 := iaA (f := 133) (by decide) eq50 lq50
          refine g_iconst (v := 0) h t_X12_luckOf_145 (by decide) ?_
          refine g_callSV h (As := [.ref (ρ q38), .ref (ρ q50), .int 0]) (st := []) my_X12_lay ms_X12_lay ml_12_256 rfl rfl (Nat.le_of_ble_eq_true rfl) (by omega) t_X12_luckOf_146 hD (fun _ e => S_X12_lay hρ hq38 hq50 e) (fun w51 hD => ?_)
          refine g_aload_n h 0 t_X12_luckOf_149 rfl ?_
          refine g_aload_n h 0 t_X12_luckOf_150 rfl ?_
          refine g_getR h 119 29 132 fl_12_57 rfl (by decide) rfl t_X12_luckOf_151 ?_
          refine g_iload_n h 1 t_X12_luckOf_154 rfl ?_
          refine g_iconst (v := 1) h t_X12_luckOf_155 (by decide) ?_
          refine g_iadd h t_X12_luckOf_156 ?_
          refine g_rald h 132 rfl (by decide) t_X12_luckOf_157 hD (fun q52 eq52 lq52 hD => ?_)
          have hq52 : isIA q52 := iaA (f := 133) (by decide) eq52 lq52
          refine g_iload h 7 t_X12_luckOf_158 rfl ?_
          refine g_callVV h 119 (As := [.ref (ρ q52), .int x42]) (st := []) my_X12_goMove mi_X12_goMove ml_12_272 rfl (by decide) rfl rfl rfl (Nat.le_of_ble_eq_true rfl) (by omega) t_X12_luckOf_160 hD (fun _ e => S_X12_goMove hρ hq52 e) (fun w53 hD => ?_)
          refine g_lload h 6 t_X12_luckOf_163 rfl ?_
          refine g_ldc2 (v := 60) h t_X12_luckOf_165 cc_12_342 ?_
          refine g_iload h 5 t_X12_luckOf_168 rfl ?_
          refine g_i2l h t_X12_luckOf_170 ?_
          refine g_ldiv h t_X12_luckOf_171 hD (fun hD => ?_)
          refine g_aload_n h 0 t_X12_luckOf_172 rfl ?_
          refine g_iload_n h 1 t_X12_luckOf_173 rfl ?_
          refine g_iconst (v := 1) h t_X12_luckOf_174 (by decide) ?_
          refine g_iadd h t_X12_luckOf_175 ?_
          refine g_iload_n h 2 t_X12_luckOf_176 rfl ?_
          refine g_iload_n h 3 t_X12_luckOf_177 rfl ?_
          refine g_callVJ h 119 (As := [.int (x35 + 1), .int x36, .int x37]) (st := [.long ((60 : Int64) / x39.toInt64), .long x41]) my_X12_luckOf mi_X12_luckOf ml_12_344 rfl (by decide) rfl rfl rfl (Nat.le_of_ble_eq_true rfl) (by omega) t_X12_luckOf_178 hD (fun _ _ e => hrec  e) (fun x55 w54 hD => ?_)
          refine g_lmul h t_X12_luckOf_181 ?_
          refine g_ladd h t_X12_luckOf_182 ?_
          refine g_bdJ hD (fun x56 hD => ?_)
          refine g_lstore (L' := [(8, .long x56), (0, .ref (ρ 119)), (1, .int x35), (2, .int x36), (3, .int x37), (4, .ref (ρ q38)), (7, .int x39), (10, .int x42)]) h hn t_X12_luckOf_183 (by decide) rfl ?_
          refine g_loc (L' := [(0, .ref (ρ 119)), (1, .int x35), (2, .int x36), (3, .int x37), (4, .ref (ρ q38)), (7, .int x39), (8, .long x56), (10, .int x42)]) h [1, 2, 3, 4, 5, 6, 0, 7] rfl ?_
          exact hk48 x56 _ hD
        · refine g_goto (tgt := 185) h t_X12_luckOf_132 (by decide) ?_
          refine g_loc (L' := [(0, .ref (ρ 119)), (1, .int x35), (2, .int x36), (3, .int x37), (4, .ref (ρ q38)), (7, .int x39), (8, .long x41), (10, .int x42)]) h [0, 1, 2, 3, 4, 5, 6, 7] rfl ?_
          exact hk48 x41 _ hD
set_option maxRecDepth 20000 in
theorem SB_X12_luckOf {l0 : Launch} {ρ : Nat → Nat} {cs : Nat → ClassId} {G : va_G} (hρ : injN ρ) {rec : Int32 → Int32 → Int32 → Wd → Option (Int64 × Wd)} {dr d : Nat} (hdr : dr < d) (hbd : 4 ≤ d) (hrec : (∀ {p1 : Int32} {p2 : Int32} {p3 : Int32} {w : Wd} {rr : (Int64 × Wd)}, rec p1 p2 p3 w = some rr → CtJ l0 ρ cs G y_X12_luckOf prog_14_method_74_code 11 dr [.ref (ρ 119), .int p1, .int p2, .int p3] w rr.1 rr.2)) {p1 : Int32} {p2 : Int32} {p3 : Int32} {w : Wd} {rr : (Int64 × Wd)} (hD : B_X12_luckOf rec p1 p2 p3 w = some rr) : CtJ l0 ρ cs G y_X12_luckOf prog_14_method_74_code 11 d [.ref (ρ 119), .int p1, .int p2, .int p3] w rr.1 rr.2 := by
  refine ctJ_of hρ (by decide) (Nat.le_of_ble_eq_true rfl) (fun X hn h hR => ?_)
  unfold B_X12_luckOf at hD
  show gG ρ cs G X 0 [(0, .ref (ρ 119)), (1, .int p1), (2, .int p2), (3, .int p3)] [] w
  refine g_aload_n h 0 t_X12_luckOf_0 rfl ?_
  refine g_getR h 119 29 132 fl_12_57 rfl (by decide) rfl t_X12_luckOf_1 ?_
  refine g_iload_n h 1 t_X12_luckOf_4 rfl ?_
  refine g_rald h 132 rfl (by decide) t_X12_luckOf_5 hD (fun q1 eq1 lq1 hD => ?_)
  have hq1 : isIA q1 := iaA (f := 133) (by decide) eq1 lq1
  refine g_astore (L' := [(4, .ref (ρ q1)), (0, .ref (ρ 119)), (1, .int p1), (2, .int p2), (3, .int p3)]) h hn t_X12_luckOf_6 (by decide) rfl ?_
  refine g_lconst (v := 1) h t_X12_luckOf_8 (by decide) ?_
  refine g_lstore (L' := [(5, .long (1 : Int64)), (4, .ref (ρ q1)), (0, .ref (ρ 119)), (1, .int p1), (2, .int p2), (3, .int p3)]) h hn t_X12_luckOf_9 (by decide) rfl ?_
  refine g_iload_n h 3 t_X12_luckOf_11 rfl ?_
  refine g_istore (L' := [(7, .int p1), (5, .long (1 : Int64)), (4, .ref (ρ q1)), (0, .ref (ρ 119)), (1, .int p1), (2, .int p2), (3, .int p3)]) h hn t_X12_luckOf_12 (by decide) rfl ?_
  refine g_loc (L' := [(0, .ref (ρ 119)), (1, .int p1), (2, .int p2), (3, .int p3), (4, .ref (ρ q1)), (5, .long (1 : Int64)), (7, .int p1)]) h [3, 4, 5, 6, 2, 1, 0] rfl ?_
  refine Q_X12_luckOf_14 hρ hdr hbd hrec hn h hR hq1 ?_ _ _ _ _ hD
  · intro x12 w13 hD
    refine g_iload_n h 1 t_X12_luckOf_34 rfl ?_
    refine g_iload_n h 2 t_X12_luckOf_35 rfl ?_
    refine g_join (P := fun k15 => ∀ (w14 : Wd), k15 w14 = some rr → gG ρ cs G X 48 [(3, .int p3), (4, .ref (ρ q1)), (5, .long x12)] [] w14) hD ?_ (fun k15 hk15 hD => ?_)
    · intro w14 hD
      refine g_aload h 1 t_X12_luckOf_48 rfl ?_
      refine g_bipush (v := 12) h t_X12_luckOf_50 (by decide) ?_
      refine g_iald h q1 (isIA_sh hq1) (isIA_lt hq1) t_X12_luckOf_52 hD (fun hD => ?_)
      refine g_iload_n h 0 t_X12_luckOf_53 rfl ?_
      refine g_icmp_lt (tgt := 62) h t_X12_luckOf_54 (by decide) hD (fun hD => ?_) (fun hD => ?_)
      · refine g_lconst (v := 0) h t_X12_luckOf_62 (by decide) ?_
        obtain rfl := Option.some.inj hD
        exact hR _ _ t_X12_luckOf_63
      · refine g_lload h 2 t_X12_luckOf_57 rfl ?_
        refine g_goto (tgt := 63) h t_X12_luckOf_59 (by decide) ?_
        obtain rfl := Option.some.inj hD
        exact hR _ _ t_X12_luckOf_63
    · refine g_icmp_eq (tgt := 48) h t_X12_luckOf_36 (by decide) hD (fun hD => ?_) (fun hD => ?_)
      · refine g_loc (L' := [(3, .int p3), (4, .ref (ρ q1)), (5, .long x12)]) h [3, 4, 5] rfl ?_
        exact hk15 _ hD
      · refine g_aload_n h 0 t_X12_luckOf_39 rfl ?_
        refine g_aload h 4 t_X12_luckOf_40 rfl ?_
        refine g_callVI h 119 (As := [.ref (ρ q1)]) (st := []) my_X12_isOver mi_X12_isOver ml_12_282 rfl (by decide) rfl rfl rfl (Nat.le_of_ble_eq_true rfl) (by omega) t_X12_luckOf_42 hD (fun _ _ e => S_X12_isOver hρ hq1 e) (fun x17 w16 hD => ?_)
        refine g_if_eq (tgt := 64) h t_X12_luckOf_45 (by decide) hD (fun hD => ?_) (fun hD => ?_)
        · refine g_iconst (v := 0) h t_X12_luckOf_64 (by decide) ?_
          refine g_istore (L' := [(7, .int 0), (0, .ref (ρ 119)), (1, .int p1), (2, .int p2), (3, .int p3), (4, .ref (ρ q1)), (5, .long x12)]) h hn t_X12_luckOf_65 (by decide) rfl ?_
          refine g_iconst (v := 0) h t_X12_luckOf_67 (by decide) ?_
          refine g_istore (L' := [(8, .int 0), (7, .int 0), (0, .ref (ρ 119)), (1, .int p1), (2, .int p2), (3, .int p3), (4, .ref (ρ q1)), (5, .long x12)]) h hn t_X12_luckOf_68 (by decide) rfl ?_
          refine g_loc (L' := [(0, .ref (ρ 119)), (1, .int p1), (2, .int p2), (3, .int p3), (4, .ref (ρ q1)), (7, .int 0), (8, .int 0)]) h [2, 3, 4, 5, 6, 1, 0] rfl ?_
          refine Q_X12_luckOf_70 hρ hdr hbd hrec hn h hR hq1 ?_ _ _ _ _ hD
          · intro x33 w34 hD
            refine g_lconst (v := 0) h t_X12_luckOf_106 (by decide) ?_
            refine g_lstore (L' := [(8, .long (0 : Int64)), (0, .ref (ρ 119)), (1, .int p1), (2, .int p2), (3, .int p3), (4, .ref (ρ q1)), (7, .int x33)]) h hn t_X12_luckOf_107 (by decide) rfl ?_
            refine g_iconst (v := 0) h t_X12_luckOf_109 (by decide) ?_
            refine g_istore (L' := [(10, .int 0), (8, .long (0 : Int64)), (0, .ref (ρ 119)), (1, .int p1), (2, .int p2), (3, .int p3), (4, .ref (ρ q1)), (7, .int x33)]) h hn t_X12_luckOf_110 (by decide) rfl ?_
            refine g_loc (L' := [(0, .ref (ρ 119)), (1, .int p1), (2, .int p2), (3, .int p3), (4, .ref (ρ q1)), (7, .int x33), (8, .long (0 : Int64)), (10, .int 0)]) h [2, 3, 4, 5, 6, 7, 1, 0] rfl ?_
            refine Q_X12_luckOf_112 hρ hdr hbd hrec hn h hR hq1 ?_ _ _ _ _ hD
            · intro x57 w58 hD
              refine g_lload h 0 t_X12_luckOf_191 rfl ?_
              obtain rfl := Option.some.inj hD
              exact hR _ _ t_X12_luckOf_193
        · refine g_loc (L' := [(3, .int p3), (4, .ref (ρ q1)), (5, .long x12)]) h [3, 4, 5] rfl ?_
          exact hk15 _ hD
def E_X12_luckOf : Nat → Int32 → Int32 → Int32 → Wd → Option (Int64 × Wd)
  | 0, _, _, _, _ => none
  | n + 1, p1, p2, p3, w => B_X12_luckOf (fun p1 p2 p3 w => E_X12_luckOf n p1 p2 p3 w) p1 p2 p3 w
set_option maxRecDepth 20000 in
theorem SE_X12_luckOf {l0 : Launch} {ρ : Nat → Nat} {cs : Nat → ClassId} {G : va_G} (hρ : injN ρ) : ∀ n : Nat, (∀ {p1 : Int32} {p2 : Int32} {p3 : Int32} {w : Wd} {rr : (Int64 × Wd)}, E_X12_luckOf n p1 p2 p3 w = some rr → CtJ l0 ρ cs G y_X12_luckOf prog_14_method_74_code 11 (4 + n) [.ref (ρ 119), .int p1, .int p2, .int p3] w rr.1 rr.2) := by
  intro n
  induction n with
  | zero =>
    intros
    rename_i hD
    cases hD
  | succ n ih =>
    intros
    rename_i hD
    exact SB_X12_luckOf hρ (rec := fun p1 p2 p3 w => E_X12_luckOf n p1 p2 p3 w) (dr := 4 + n) (d := 4 + (n + 1)) (by omega) (by omega) ih hD
def D_X12_luckOf (p1 : Int32) (p2 : Int32) (p3 : Int32) : Wd → Option (Int64 × Wd) := fun w => E_X12_luckOf 80 p1 p2 p3 w
set_option maxRecDepth 20000 in
theorem S_X12_luckOf {l0 : Launch} {ρ : Nat → Nat} {cs : Nat → ClassId} {G : va_G} (hρ : injN ρ) {p1 : Int32} {p2 : Int32} {p3 : Int32} {w : Wd} {rr : (Int64 × Wd)} (hD : D_X12_luckOf p1 p2 p3 w = some rr) : CtJ l0 ρ cs G y_X12_luckOf prog_14_method_74_code 11 84 [.ref (ρ 119), .int p1, .int p2, .int p3] w rr.1 rr.2 := (SE_X12_luckOf hρ 80) hD
def L_X12_luck_54 (x10 : Int32) (x11 : Int64) (k74 : Int64 → Wd → Option (Int32 × Wd)) : Nat → Int64 → Int32 → Wd → Option (Int32 × Wd)
  | 0, _, _, _ => none
  | n12 + 1, x13, x14, w15 =>
    if x10 ≤ x14 then (k74 x13 w15) else (bd (x13 * (60 : Int64)) fun x16 => bd (x14 + 1) fun x17 => L_X12_luck_54 x10 x11 k74 n12 x16 x17 w15)
def D_X12_luck (p1 : Int32) (p2 : Int32) : Wd → Option (Int32 × Wd) := fun w =>
  bd (wI w 119 7 0) fun w1 => bc (D_X12_in p1 0 4 w1) fun x3 w2 => if x3 = 0 then (some ((-1), w2)) else (bc (D_X12_in p2 0 108 w2) fun x5 w4 => if x5 = 0 then (some ((-1), w4)) else (if ib 0 7 then bd (133 + (0 : Int32).toNatClampNeg) (fun q6 => bv (D_X12_lay 120 q6 0 w4) fun w7 => bc (D_X12_luckOf 0 p1 p2 w7) fun x9 w8 => L_X12_luck_54 p1 x9 (fun x18 w19 => bc (D_X12_common x9 x18 w19) fun x21 w20 => bd (wI w20 119 6 0) fun w22 => if ¬ (x21) = 0 then (bv (D_X12_tell (x9 / x21) w22) fun w23 => if ¬ (x21) = 0 then (bv (D_X12_tell (x18 / x21) w23) fun w24 => some (0, w24)) else none) else none) FU (1 : Int64) 0 w8) else none))
set_option maxRecDepth 20000 in
theorem Q_X12_luck_54 {l0 : Launch} {ρ : Nat → Nat} {cs : Nat → ClassId} {G : va_G} {X : Cx} (hρ : injN ρ) (hn : X.2.2.2.2.2.2.2.2.2.2.1 = 9) (h : Okx l0 ρ cs G X prog_14_method_75_code "SowingBoardsModel" 85) {rr : (Int32 × Wd)} (hR : ∀ pc L, decode prog_14_method_75_code pc = .ok (.ireturn, 1) → narrow .int (.int rr.1) = .int rr.1 → gG ρ cs G X pc L [.int rr.1] rr.2) {x10 : Int32} {x11 : Int64} {k74 : Int64 → Wd → Option (Int32 × Wd)} (hk74 : ∀ (z5 : Int64) (w1 : Wd), k74 z5 w1 = some rr → gG ρ cs G X 74 [(0, .ref (ρ 119)), (3, .long x11), (5, .long z5)] [] w1) : ∀ (n : Nat) (x13 : Int64) (x14 : Int32) (w : Wd), L_X12_luck_54 x10 x11 k74 n x13 x14 w = some rr → gG ρ cs G X 54 [(0, .ref (ρ 119)), (1, .int x10), (3, .long x11), (5, .long x13), (7, .int x14)] [] w := by
  intro n
  induction n with
  | zero =>
    intro x13 x14 w hD
    cases hD
  | succ n12 ih =>
    intro x13 x14 w15 hD
    unfold L_X12_luck_54 at hD
    refine g_iload h 4 t_X12_luck_54 rfl ?_
    refine g_iload_n h 1 t_X12_luck_56 rfl ?_
    refine g_icmp_ge (tgt := 74) h t_X12_luck_57 (by decide) hD (fun hD => ?_) (fun hD => ?_)
    · refine g_loc (L' := [(0, .ref (ρ 119)), (3, .long x11), (5, .long x13)]) h [0, 2, 3] rfl ?_
      exact hk74 x13 _ hD
    · refine g_lload h 3 t_X12_luck_60 rfl ?_
      refine g_ldc2 (v := 60) h t_X12_luck_62 cc_12_342 ?_
      refine g_lmul h t_X12_luck_65 ?_
      refine g_bdJ hD (fun x16 hD => ?_)
      refine g_lstore (L' := [(5, .long x16), (0, .ref (ρ 119)), (1, .int x10), (3, .long x11), (7, .int x14)]) h hn t_X12_luck_66 (by decide) rfl ?_
      obtain ⟨x17, ex17, hD⟩ := bd_ex hD
      refine g_iinc (v := x17) (L' := [(7, .int x17), (5, .long x16), (0, .ref (ρ 119)), (1, .int x10), (3, .long x11)]) h hn t_X12_luck_68 (k := 4) rfl (by rw [ex17]; rfl) (by decide) rfl ?_
      refine g_goto (tgt := 54) h t_X12_luck_71 (by decide) ?_
      refine g_loc (L' := [(0, .ref (ρ 119)), (1, .int x10), (3, .long x11), (5, .long x16), (7, .int x17)]) h [2, 3, 4, 1, 0] rfl ?_
      exact ih x16 x17 _ hD
set_option maxRecDepth 20000 in
theorem S_X12_luck {l0 : Launch} {ρ : Nat → Nat} {cs : Nat → ClassId} {G : va_G} (hρ : injN ρ) {p1 : Int32} {p2 : Int32} {w : Wd} {rr : (Int32 × Wd)} (hD : D_X12_luck p1 p2 w = some rr) : CtI l0 ρ cs G y_X12_luck prog_14_method_75_code 9 .int 85 [.ref (ρ 119), .int p1, .int p2] w rr.1 rr.2 := by
  refine ctI_of hρ (by decide) (Nat.le_of_ble_eq_true rfl) (fun X hn h hR => ?_)
  unfold D_X12_luck at hD
  show gG ρ cs G X 0 [(0, .ref (ρ 119)), (1, .int p1), (2, .int p2)] [] w
  refine g_aload_n h 0 t_X12_luck_0 rfl ?_
  refine g_iconst (v := 0) h t_X12_luck_1 (by decide) ?_
  refine g_putI h 119 7 fl_12_109 fp_12_7 rfl (by decide) rfl t_X12_luck_2 hD (fun w1 hD => ?_)
  refine g_iload_n h 1 t_X12_luck_5 rfl ?_
  refine g_iconst (v := 0) h t_X12_luck_6 (by decide) ?_
  refine g_iconst (v := 4) h t_X12_luck_7 (by decide) ?_
  refine g_callSI h (As := [.int p1, .int 0, .int 4]) (st := []) my_X12_in ms_X12_in ml_12_118 rfl rfl (Nat.le_of_ble_eq_true rfl) (by decide) t_X12_luck_8 hD (fun _ _ e => S_X12_in hρ  e) (fun x3 w2 hD => ?_)
  refine g_if_eq (tgt := 24) h t_X12_luck_11 (by decide) hD (fun hD => ?_) (fun hD => ?_)
  · refine g_iconst (v := (-1)) h t_X12_luck_24 (by decide) ?_
    obtain rfl := Option.some.inj hD
    exact hR _ _ t_X12_luck_25 rfl
  · refine g_iload_n h 2 t_X12_luck_14 rfl ?_
    refine g_iconst (v := 0) h t_X12_luck_15 (by decide) ?_
    refine g_bipush (v := 108) h t_X12_luck_16 (by decide) ?_
    refine g_callSI h (As := [.int p2, .int 0, .int 108]) (st := []) my_X12_in ms_X12_in ml_12_118 rfl rfl (Nat.le_of_ble_eq_true rfl) (by decide) t_X12_luck_18 hD (fun _ _ e => S_X12_in hρ  e) (fun x5 w4 hD => ?_)
    refine g_if_ne (tgt := 26) h t_X12_luck_21 (by decide) hD (fun hD => ?_) (fun hD => ?_)
    · refine g_aload_n h 0 t_X12_luck_26 rfl ?_
      refine g_getR h 119 0 120 fl_12_9 rfl (by decide) rfl t_X12_luck_27 ?_
      refine g_aload_n h 0 t_X12_luck_30 rfl ?_
      refine g_getR h 119 29 132 fl_12_57 rfl (by decide) rfl t_X12_luck_31 ?_
      refine g_iconst (v := 0) h t_X12_luck_34 (by decide) ?_
      refine g_rald h 132 rfl (by decide) t_X12_luck_35 hD (fun q6 eq6 lq6 hD => ?_)
      have hq6 : isIA q6 := iaA (f := 133) (by decide) eq6 lq6
      refine g_iconst (v := 0) h t_X12_luck_36 (by decide) ?_
      refine g_callSV h (As := [.ref (ρ 120), .ref (ρ q6), .int 0]) (st := []) my_X12_lay ms_X12_lay ml_12_256 rfl rfl (Nat.le_of_ble_eq_true rfl) (by decide) t_X12_luck_37 hD (fun _ e => S_X12_lay hρ (by decide) hq6 e) (fun w7 hD => ?_)
      refine g_aload_n h 0 t_X12_luck_40 rfl ?_
      refine g_iconst (v := 0) h t_X12_luck_41 (by decide) ?_
      refine g_iload_n h 1 t_X12_luck_42 rfl ?_
      refine g_iload_n h 2 t_X12_luck_43 rfl ?_
      refine g_callVJ h 119 (As := [.int 0, .int p1, .int p2]) (st := []) my_X12_luckOf mi_X12_luckOf ml_12_344 rfl (by decide) rfl rfl rfl (Nat.le_of_ble_eq_true rfl) (by decide) t_X12_luck_44 hD (fun _ _ e => S_X12_luckOf hρ  e) (fun x9 w8 hD => ?_)
      refine g_lstore_n (L' := [(3, .long x9), (0, .ref (ρ 119)), (1, .int p1), (2, .int p2)]) h hn t_X12_luck_47 rfl (by decide) rfl ?_
      refine g_lconst (v := 1) h t_X12_luck_48 (by decide) ?_
      refine g_lstore (L' := [(5, .long (1 : Int64)), (3, .long x9), (0, .ref (ρ 119)), (1, .int p1), (2, .int p2)]) h hn t_X12_luck_49 (by decide) rfl ?_
      refine g_iconst (v := 0) h t_X12_luck_51 (by decide) ?_
      refine g_istore (L' := [(7, .int 0), (5, .long (1 : Int64)), (3, .long x9), (0, .ref (ρ 119)), (1, .int p1), (2, .int p2)]) h hn t_X12_luck_52 (by decide) rfl ?_
      refine g_loc (L' := [(0, .ref (ρ 119)), (1, .int p1), (3, .long x9), (5, .long (1 : Int64)), (7, .int 0)]) h [3, 4, 2, 1, 0] rfl ?_
      refine Q_X12_luck_54 hρ hn h hR  ?_ _ _ _ _ hD
      · intro x18 w19 hD
        refine g_lload_n h 1 t_X12_luck_74 rfl ?_
        refine g_lload h 2 t_X12_luck_75 rfl ?_
        refine g_callSJ h (As := [.long x9, .long x18]) (st := []) my_X12_common ms_X12_common ml_12_338 rfl rfl (Nat.le_of_ble_eq_true rfl) (by decide) t_X12_luck_77 hD (fun _ _ e => S_X12_common hρ  e) (fun x21 w20 hD => ?_)
        refine g_lstore (L' := [(7, .long x21), (0, .ref (ρ 119)), (3, .long x9), (5, .long x18)]) h hn t_X12_luck_80 (by decide) rfl ?_
        refine g_aload_n h 1 t_X12_luck_82 rfl ?_
        refine g_iconst (v := 0) h t_X12_luck_83 (by decide) ?_
        refine g_putI h 119 6 fl_12_112 fp_12_6 rfl (by decide) rfl t_X12_luck_84 hD (fun w22 hD => ?_)
        refine g_aload_n h 1 t_X12_luck_87 rfl ?_
        refine g_lload_n h 2 t_X12_luck_88 rfl ?_
        refine g_lload h 0 t_X12_luck_89 rfl ?_
        refine g_ldiv h t_X12_luck_91 hD (fun hD => ?_)
        refine g_callVV h 119 (As := [.long (x9 / x21)]) (st := []) my_X12_tell mi_X12_tell ml_12_260 rfl (by decide) rfl rfl rfl (Nat.le_of_ble_eq_true rfl) (by decide) t_X12_luck_92 hD (fun _ e => S_X12_tell hρ  e) (fun w23 hD => ?_)
        refine g_aload_n h 1 t_X12_luck_95 rfl ?_
        refine g_lload h 3 t_X12_luck_96 rfl ?_
        refine g_lload h 0 t_X12_luck_98 rfl ?_
        refine g_ldiv h t_X12_luck_100 hD (fun hD => ?_)
        refine g_callVV h 119 (As := [.long (x18 / x21)]) (st := []) my_X12_tell mi_X12_tell ml_12_260 rfl (by decide) rfl rfl rfl (Nat.le_of_ble_eq_true rfl) (by decide) t_X12_luck_101 hD (fun _ e => S_X12_tell hρ  e) (fun w24 hD => ?_)
        refine g_iconst (v := 0) h t_X12_luck_104 (by decide) ?_
        obtain rfl := Option.some.inj hD
        exact hR _ _ t_X12_luck_105 rfl
    · refine g_iconst (v := (-1)) h t_X12_luck_24 (by decide) ?_
      obtain rfl := Option.some.inj hD
      exact hR _ _ t_X12_luck_25 rfl
def L_X12_when_35 (x7 : Int32) (k50 : Int32 → Wd → Option (Int32 × Wd)) (k92 : Wd → Option (Int32 × Wd)) (k101 : Wd → Option (Int32 × Wd)) : Nat → Int32 → Wd → Option (Int32 × Wd)
  | 0, _, _ => none
  | n8 + 1, x9, w10 =>
    if 60 < x9 then (k101 w10) else (if ib x7 16 then (if (w10.1 129 x7.toNatClampNeg) = 0 then (k50 x9 w10) else (bc (D_X12_goRule 129 w10) fun x12 w11 => if x12 = 0 then (k92 w11) else (bd (x9 + 1) fun x13 => L_X12_when_35 x7 k50 k92 k101 n8 x13 w11))) else none)
def D_X12_when (p1 : Int32) : Wd → Option (Int32 × Wd) := fun w =>
  bd (wI w 119 7 0) fun w1 => bc (D_X12_pits w1) fun x3 w2 => bc (D_X12_in p1 0 (x3 - 1) w2) fun x5 w4 => if x5 = 0 then (some ((-1), w4)) else (bv (D_X12_lay 120 129 0 w4) fun w6 => L_X12_when_35 p1 (fun x14 w15 => bd (wI w15 119 6 0) fun w16 => if ib 12 16 then (bv (D_X12_tell ((w16.1 129 (12 : Int32).toNatClampNeg).toInt64) w16) fun w17 => if ib 13 16 then (bv (D_X12_tell ((w17.1 129 (13 : Int32).toNatClampNeg).toInt64) w17) fun w18 => some (x14, w18)) else none) else none) (fun w19 => some ((-2), w19)) (fun w20 => some ((-2), w20)) FU 0 w6)
set_option maxRecDepth 20000 in
theorem Q_X12_when_35 {l0 : Launch} {ρ : Nat → Nat} {cs : Nat → ClassId} {G : va_G} {X : Cx} (hρ : injN ρ) (hn : X.2.2.2.2.2.2.2.2.2.2.1 = 3) (h : Okx l0 ρ cs G X prog_14_method_76_code "SowingBoardsModel" 88) {rr : (Int32 × Wd)} (hR : ∀ pc L, decode prog_14_method_76_code pc = .ok (.ireturn, 1) → narrow .int (.int rr.1) = .int rr.1 → gG ρ cs G X pc L [.int rr.1] rr.2) {x7 : Int32} {k50 : Int32 → Wd → Option (Int32 × Wd)} (hk50 : ∀ (z2 : Int32) (w1 : Wd), k50 z2 w1 = some rr → gG ρ cs G X 50 [(0, .ref (ρ 119)), (2, .int z2)] [] w1) {k92 : Wd → Option (Int32 × Wd)} (hk92 : ∀ (w1 : Wd), k92 w1 = some rr → gG ρ cs G X 92 [] [] w1) {k101 : Wd → Option (Int32 × Wd)} (hk101 : ∀ (w1 : Wd), k101 w1 = some rr → gG ρ cs G X 101 [] [] w1) : ∀ (n : Nat) (x9 : Int32) (w : Wd), L_X12_when_35 x7 k50 k92 k101 n x9 w = some rr → gG ρ cs G X 35 [(0, .ref (ρ 119)), (1, .int x7), (2, .int x9)] [] w := by
  intro n
  induction n with
  | zero =>
    intro x9 w hD
    cases hD
  | succ n8 ih =>
    intro x9 w10 hD
    unfold L_X12_when_35 at hD
    refine g_iload_n h 2 t_X12_when_35 rfl ?_
    refine g_bipush (v := 60) h t_X12_when_36 (by decide) ?_
    refine g_icmp_gt (tgt := 101) h t_X12_when_38 (by decide) hD (fun hD => ?_) (fun hD => ?_)
    · refine g_loc (L' := []) h [] rfl ?_
      exact hk101 _ hD
    · refine g_aload_n h 0 t_X12_when_41 rfl ?_
      refine g_getR h 119 25 129 fl_12_46 rfl (by decide) rfl t_X12_when_42 ?_
      refine g_iload_n h 1 t_X12_when_45 rfl ?_
      refine g_iald h 129 rfl (by decide) t_X12_when_46 hD (fun hD => ?_)
      refine g_if_ne (tgt := 81) h t_X12_when_47 (by decide) hD (fun hD => ?_) (fun hD => ?_)
      · refine g_aload_n h 0 t_X12_when_81 rfl ?_
        refine g_aload_n h 0 t_X12_when_82 rfl ?_
        refine g_getR h 119 25 129 fl_12_46 rfl (by decide) rfl t_X12_when_83 ?_
        refine g_callVI h 119 (As := [.ref (ρ 129)]) (st := []) my_X12_goRule mi_X12_goRule ml_12_289 rfl (by decide) rfl rfl rfl (Nat.le_of_ble_eq_true rfl) (by decide) t_X12_when_86 hD (fun _ _ e => S_X12_goRule hρ (by decide) e) (fun x12 w11 hD => ?_)
        refine g_if_ne (tgt := 95) h t_X12_when_89 (by decide) hD (fun hD => ?_) (fun hD => ?_)
        · obtain ⟨x13, ex13, hD⟩ := bd_ex hD
          refine g_iinc (v := x13) (L' := [(2, .int x13), (0, .ref (ρ 119)), (1, .int x7)]) h hn t_X12_when_95 (k := 2) rfl (by rw [ex13]; rfl) (by decide) rfl ?_
          refine g_goto (tgt := 35) h t_X12_when_98 (by decide) ?_
          refine g_loc (L' := [(0, .ref (ρ 119)), (1, .int x7), (2, .int x13)]) h [1, 2, 0] rfl ?_
          exact ih x13 _ hD
        · refine g_loc (L' := []) h [] rfl ?_
          exact hk92 _ hD
      · refine g_loc (L' := [(0, .ref (ρ 119)), (2, .int x9)]) h [0, 2] rfl ?_
        exact hk50 x9 _ hD
set_option maxRecDepth 20000 in
theorem S_X12_when {l0 : Launch} {ρ : Nat → Nat} {cs : Nat → ClassId} {G : va_G} (hρ : injN ρ) {p1 : Int32} {w : Wd} {rr : (Int32 × Wd)} (hD : D_X12_when p1 w = some rr) : CtI l0 ρ cs G y_X12_when prog_14_method_76_code 3 .int 88 [.ref (ρ 119), .int p1] w rr.1 rr.2 := by
  refine ctI_of hρ (by decide) (Nat.le_of_ble_eq_true rfl) (fun X hn h hR => ?_)
  unfold D_X12_when at hD
  show gG ρ cs G X 0 [(0, .ref (ρ 119)), (1, .int p1)] [] w
  refine g_aload_n h 0 t_X12_when_0 rfl ?_
  refine g_iconst (v := 0) h t_X12_when_1 (by decide) ?_
  refine g_putI h 119 7 fl_12_109 fp_12_7 rfl (by decide) rfl t_X12_when_2 hD (fun w1 hD => ?_)
  refine g_iload_n h 1 t_X12_when_5 rfl ?_
  refine g_iconst (v := 0) h t_X12_when_6 (by decide) ?_
  refine g_aload_n h 0 t_X12_when_7 rfl ?_
  refine g_callVI h 119 (As := []) (st := [.int 0, .int p1]) my_X12_pits mi_X12_pits ml_12_214 rfl (by decide) rfl rfl rfl (Nat.le_of_ble_eq_true rfl) (by decide) t_X12_when_8 hD (fun _ _ e => S_X12_pits hρ  e) (fun x3 w2 hD => ?_)
  refine g_iconst (v := 1) h t_X12_when_11 (by decide) ?_
  refine g_isub h t_X12_when_12 ?_
  refine g_callSI h (As := [.int p1, .int 0, .int (x3 - 1)]) (st := []) my_X12_in ms_X12_in ml_12_118 rfl rfl (Nat.le_of_ble_eq_true rfl) (by decide) t_X12_when_13 hD (fun _ _ e => S_X12_in hρ  e) (fun x5 w4 hD => ?_)
  refine g_if_ne (tgt := 21) h t_X12_when_16 (by decide) hD (fun hD => ?_) (fun hD => ?_)
  · refine g_aload_n h 0 t_X12_when_21 rfl ?_
    refine g_getR h 119 0 120 fl_12_9 rfl (by decide) rfl t_X12_when_22 ?_
    refine g_aload_n h 0 t_X12_when_25 rfl ?_
    refine g_getR h 119 25 129 fl_12_46 rfl (by decide) rfl t_X12_when_26 ?_
    refine g_iconst (v := 0) h t_X12_when_29 (by decide) ?_
    refine g_callSV h (As := [.ref (ρ 120), .ref (ρ 129), .int 0]) (st := []) my_X12_lay ms_X12_lay ml_12_256 rfl rfl (Nat.le_of_ble_eq_true rfl) (by decide) t_X12_when_30 hD (fun _ e => S_X12_lay hρ (by decide) (by decide) e) (fun w6 hD => ?_)
    refine g_iconst (v := 0) h t_X12_when_33 (by decide) ?_
    refine g_istore_n (L' := [(2, .int 0), (0, .ref (ρ 119)), (1, .int p1)]) h hn t_X12_when_34 rfl (by decide) rfl ?_
    refine g_loc (L' := [(0, .ref (ρ 119)), (1, .int p1), (2, .int 0)]) h [1, 2, 0] rfl ?_
    refine Q_X12_when_35 hρ hn h hR  ?_ ?_ ?_ _ _ _ hD
    · intro x14 w15 hD
      refine g_aload_n h 0 t_X12_when_50 rfl ?_
      refine g_iconst (v := 0) h t_X12_when_51 (by decide) ?_
      refine g_putI h 119 6 fl_12_112 fp_12_6 rfl (by decide) rfl t_X12_when_52 hD (fun w16 hD => ?_)
      refine g_aload_n h 0 t_X12_when_55 rfl ?_
      refine g_aload_n h 0 t_X12_when_56 rfl ?_
      refine g_getR h 119 25 129 fl_12_46 rfl (by decide) rfl t_X12_when_57 ?_
      refine g_bipush (v := 12) h t_X12_when_60 (by decide) ?_
      refine g_iald h 129 rfl (by decide) t_X12_when_62 hD (fun hD => ?_)
      refine g_i2l h t_X12_when_63 ?_
      refine g_callVV h 119 (As := [.long ((w16.1 129 (12 : Int32).toNatClampNeg).toInt64)]) (st := []) my_X12_tell mi_X12_tell ml_12_260 rfl (by decide) rfl rfl rfl (Nat.le_of_ble_eq_true rfl) (by decide) t_X12_when_64 hD (fun _ e => S_X12_tell hρ  e) (fun w17 hD => ?_)
      refine g_aload_n h 0 t_X12_when_67 rfl ?_
      refine g_aload_n h 0 t_X12_when_68 rfl ?_
      refine g_getR h 119 25 129 fl_12_46 rfl (by decide) rfl t_X12_when_69 ?_
      refine g_bipush (v := 13) h t_X12_when_72 (by decide) ?_
      refine g_iald h 129 rfl (by decide) t_X12_when_74 hD (fun hD => ?_)
      refine g_i2l h t_X12_when_75 ?_
      refine g_callVV h 119 (As := [.long ((w17.1 129 (13 : Int32).toNatClampNeg).toInt64)]) (st := []) my_X12_tell mi_X12_tell ml_12_260 rfl (by decide) rfl rfl rfl (Nat.le_of_ble_eq_true rfl) (by decide) t_X12_when_76 hD (fun _ e => S_X12_tell hρ  e) (fun w18 hD => ?_)
      refine g_iload_n h 1 t_X12_when_79 rfl ?_
      obtain rfl := Option.some.inj hD
      exact hR _ _ t_X12_when_80 rfl
    · intro w19 hD
      refine g_bipush (v := (-2)) h t_X12_when_92 (by decide) ?_
      obtain rfl := Option.some.inj hD
      exact hR _ _ t_X12_when_94 rfl
    · intro w20 hD
      refine g_bipush (v := (-2)) h t_X12_when_101 (by decide) ?_
      obtain rfl := Option.some.inj hD
      exact hR _ _ t_X12_when_103 rfl
  · refine g_iconst (v := (-1)) h t_X12_when_19 (by decide) ?_
    obtain rfl := Option.some.inj hD
    exact hR _ _ t_X12_when_20 rfl
def L_X12_ends_19 (k36 : Int32 → Wd → Option (Int32 × Wd)) (k113 : Wd → Option (Int32 × Wd)) : Nat → Int32 → Wd → Option (Int32 × Wd)
  | 0, _, _ => none
  | n3 + 1, x4, w5 =>
    if 99 < x4 then (k113 w5) else (bc (D_X12_isOver 129 w5) fun x7 w6 => if x7 = 0 then (bc (D_X12_goRule 129 w6) fun x9 w8 => bd (x4 + 1) fun x10 => L_X12_ends_19 k36 k113 n3 x10 w8) else (k36 x4 w6))
def D_X12_ends  : Wd → Option (Int32 × Wd) := fun w =>
  bd (wI w 119 7 0) fun w1 => bv (D_X12_lay 120 129 0 w1) fun w2 => L_X12_ends_19 (fun x11 w12 => bd (wI w12 119 6 0) fun w13 => if ib 12 16 then (bc (D_X12_seeds 129 0 (w13.1 119 1) w13) fun x15 w14 => bv (D_X12_tell (((w13.1 129 (12 : Int32).toNatClampNeg) + x15).toInt64) w14) fun w16 => if ib 13 16 then (bc (D_X12_seeds 129 (w16.1 119 1) (w16.1 119 1) w16) fun x18 w17 => bv (D_X12_tell (((w16.1 129 (13 : Int32).toNatClampNeg) + x18).toInt64) w17) fun w19 => some (x11, w19)) else none) else none) (fun w20 => some ((-2), w20)) FU 0 w2
set_option maxRecDepth 20000 in
theorem Q_X12_ends_19 {l0 : Launch} {ρ : Nat → Nat} {cs : Nat → ClassId} {G : va_G} {X : Cx} (hρ : injN ρ) (hn : X.2.2.2.2.2.2.2.2.2.2.1 = 2) (h : Okx l0 ρ cs G X prog_14_method_77_code "SowingBoardsModel" 88) {rr : (Int32 × Wd)} (hR : ∀ pc L, decode prog_14_method_77_code pc = .ok (.ireturn, 1) → narrow .int (.int rr.1) = .int rr.1 → gG ρ cs G X pc L [.int rr.1] rr.2)  {k36 : Int32 → Wd → Option (Int32 × Wd)} (hk36 : ∀ (z1 : Int32) (w1 : Wd), k36 z1 w1 = some rr → gG ρ cs G X 36 [(0, .ref (ρ 119)), (1, .int z1)] [] w1) {k113 : Wd → Option (Int32 × Wd)} (hk113 : ∀ (w1 : Wd), k113 w1 = some rr → gG ρ cs G X 113 [] [] w1) : ∀ (n : Nat) (x4 : Int32) (w : Wd), L_X12_ends_19 k36 k113 n x4 w = some rr → gG ρ cs G X 19 [(0, .ref (ρ 119)), (1, .int x4)] [] w := by
  intro n
  induction n with
  | zero =>
    intro x4 w hD
    cases hD
  | succ n3 ih =>
    intro x4 w5 hD
    unfold L_X12_ends_19 at hD
    refine g_iload_n h 1 t_X12_ends_19 rfl ?_
    refine g_bipush (v := 99) h t_X12_ends_20 (by decide) ?_
    refine g_icmp_gt (tgt := 113) h t_X12_ends_22 (by decide) hD (fun hD => ?_) (fun hD => ?_)
    · refine g_loc (L' := []) h [] rfl ?_
      exact hk113 _ hD
    · refine g_aload_n h 0 t_X12_ends_25 rfl ?_
      refine g_aload_n h 0 t_X12_ends_26 rfl ?_
      refine g_getR h 119 25 129 fl_12_46 rfl (by decide) rfl t_X12_ends_27 ?_
      refine g_callVI h 119 (As := [.ref (ρ 129)]) (st := []) my_X12_isOver mi_X12_isOver ml_12_282 rfl (by decide) rfl rfl rfl (Nat.le_of_ble_eq_true rfl) (by decide) t_X12_ends_30 hD (fun _ _ e => S_X12_isOver hρ (by decide) e) (fun x7 w6 hD => ?_)
      refine g_if_eq (tgt := 98) h t_X12_ends_33 (by decide) hD (fun hD => ?_) (fun hD => ?_)
      · refine g_aload_n h 0 t_X12_ends_98 rfl ?_
        refine g_aload_n h 0 t_X12_ends_99 rfl ?_
        refine g_getR h 119 25 129 fl_12_46 rfl (by decide) rfl t_X12_ends_100 ?_
        refine g_callVI h 119 (As := [.ref (ρ 129)]) (st := []) my_X12_goRule mi_X12_goRule ml_12_289 rfl (by decide) rfl rfl rfl (Nat.le_of_ble_eq_true rfl) (by decide) t_X12_ends_103 hD (fun _ _ e => S_X12_goRule hρ (by decide) e) (fun x9 w8 hD => ?_)
        refine g_pop h t_X12_ends_106 rfl ?_
        obtain ⟨x10, ex10, hD⟩ := bd_ex hD
        refine g_iinc (v := x10) (L' := [(1, .int x10), (0, .ref (ρ 119))]) h hn t_X12_ends_107 (k := 1) rfl (by rw [ex10]; rfl) (by decide) rfl ?_
        refine g_goto (tgt := 19) h t_X12_ends_110 (by decide) ?_
        refine g_loc (L' := [(0, .ref (ρ 119)), (1, .int x10)]) h [1, 0] rfl ?_
        exact ih x10 _ hD
      · refine g_loc (L' := [(0, .ref (ρ 119)), (1, .int x4)]) h [0, 1] rfl ?_
        exact hk36 x4 _ hD
set_option maxRecDepth 20000 in
theorem S_X12_ends {l0 : Launch} {ρ : Nat → Nat} {cs : Nat → ClassId} {G : va_G} (hρ : injN ρ)  {w : Wd} {rr : (Int32 × Wd)} (hD : D_X12_ends w = some rr) : CtI l0 ρ cs G y_X12_ends prog_14_method_77_code 2 .int 88 [.ref (ρ 119)] w rr.1 rr.2 := by
  refine ctI_of hρ (by decide) (Nat.le_of_ble_eq_true rfl) (fun X hn h hR => ?_)
  unfold D_X12_ends at hD
  show gG ρ cs G X 0 [(0, .ref (ρ 119))] [] w
  refine g_aload_n h 0 t_X12_ends_0 rfl ?_
  refine g_iconst (v := 0) h t_X12_ends_1 (by decide) ?_
  refine g_putI h 119 7 fl_12_109 fp_12_7 rfl (by decide) rfl t_X12_ends_2 hD (fun w1 hD => ?_)
  refine g_aload_n h 0 t_X12_ends_5 rfl ?_
  refine g_getR h 119 0 120 fl_12_9 rfl (by decide) rfl t_X12_ends_6 ?_
  refine g_aload_n h 0 t_X12_ends_9 rfl ?_
  refine g_getR h 119 25 129 fl_12_46 rfl (by decide) rfl t_X12_ends_10 ?_
  refine g_iconst (v := 0) h t_X12_ends_13 (by decide) ?_
  refine g_callSV h (As := [.ref (ρ 120), .ref (ρ 129), .int 0]) (st := []) my_X12_lay ms_X12_lay ml_12_256 rfl rfl (Nat.le_of_ble_eq_true rfl) (by decide) t_X12_ends_14 hD (fun _ e => S_X12_lay hρ (by decide) (by decide) e) (fun w2 hD => ?_)
  refine g_iconst (v := 0) h t_X12_ends_17 (by decide) ?_
  refine g_istore_n (L' := [(1, .int 0), (0, .ref (ρ 119))]) h hn t_X12_ends_18 rfl (by decide) rfl ?_
  refine g_loc (L' := [(0, .ref (ρ 119)), (1, .int 0)]) h [1, 0] rfl ?_
  refine Q_X12_ends_19 hρ hn h hR  ?_ ?_ _ _ _ hD
  · intro x11 w12 hD
    refine g_aload_n h 0 t_X12_ends_36 rfl ?_
    refine g_iconst (v := 0) h t_X12_ends_37 (by decide) ?_
    refine g_putI h 119 6 fl_12_112 fp_12_6 rfl (by decide) rfl t_X12_ends_38 hD (fun w13 hD => ?_)
    refine g_aload_n h 0 t_X12_ends_41 rfl ?_
    refine g_aload_n h 0 t_X12_ends_42 rfl ?_
    refine g_getR h 119 25 129 fl_12_46 rfl (by decide) rfl t_X12_ends_43 ?_
    refine g_bipush (v := 12) h t_X12_ends_46 (by decide) ?_
    refine g_iald h 129 rfl (by decide) t_X12_ends_48 hD (fun hD => ?_)
    refine g_aload_n h 0 t_X12_ends_49 rfl ?_
    refine g_aload_n h 0 t_X12_ends_50 rfl ?_
    refine g_getR h 119 25 129 fl_12_46 rfl (by decide) rfl t_X12_ends_51 ?_
    refine g_iconst (v := 0) h t_X12_ends_54 (by decide) ?_
    refine g_aload_n h 0 t_X12_ends_55 rfl ?_
    refine g_getI h 119 1 fl_12_13 rfl (by decide) rfl t_X12_ends_56 ?_
    refine g_callVI h 119 (As := [.ref (ρ 129), .int 0, .int (w13.1 119 1)]) (st := [.int (w13.1 129 (12 : Int32).toNatClampNeg), .ref (ρ 119)]) my_X12_seeds mi_X12_seeds ml_12_229 rfl (by decide) rfl rfl rfl (Nat.le_of_ble_eq_true rfl) (by decide) t_X12_ends_59 hD (fun _ _ e => S_X12_seeds hρ (by decide) e) (fun x15 w14 hD => ?_)
    refine g_iadd h t_X12_ends_62 ?_
    refine g_i2l h t_X12_ends_63 ?_
    refine g_callVV h 119 (As := [.long (((w13.1 129 (12 : Int32).toNatClampNeg) + x15).toInt64)]) (st := []) my_X12_tell mi_X12_tell ml_12_260 rfl (by decide) rfl rfl rfl (Nat.le_of_ble_eq_true rfl) (by decide) t_X12_ends_64 hD (fun _ e => S_X12_tell hρ  e) (fun w16 hD => ?_)
    refine g_aload_n h 0 t_X12_ends_67 rfl ?_
    refine g_aload_n h 0 t_X12_ends_68 rfl ?_
    refine g_getR h 119 25 129 fl_12_46 rfl (by decide) rfl t_X12_ends_69 ?_
    refine g_bipush (v := 13) h t_X12_ends_72 (by decide) ?_
    refine g_iald h 129 rfl (by decide) t_X12_ends_74 hD (fun hD => ?_)
    refine g_aload_n h 0 t_X12_ends_75 rfl ?_
    refine g_aload_n h 0 t_X12_ends_76 rfl ?_
    refine g_getR h 119 25 129 fl_12_46 rfl (by decide) rfl t_X12_ends_77 ?_
    refine g_aload_n h 0 t_X12_ends_80 rfl ?_
    refine g_getI h 119 1 fl_12_13 rfl (by decide) rfl t_X12_ends_81 ?_
    refine g_aload_n h 0 t_X12_ends_84 rfl ?_
    refine g_getI h 119 1 fl_12_13 rfl (by decide) rfl t_X12_ends_85 ?_
    refine g_callVI h 119 (As := [.ref (ρ 129), .int (w16.1 119 1), .int (w16.1 119 1)]) (st := [.int (w16.1 129 (13 : Int32).toNatClampNeg), .ref (ρ 119)]) my_X12_seeds mi_X12_seeds ml_12_229 rfl (by decide) rfl rfl rfl (Nat.le_of_ble_eq_true rfl) (by decide) t_X12_ends_88 hD (fun _ _ e => S_X12_seeds hρ (by decide) e) (fun x18 w17 hD => ?_)
    refine g_iadd h t_X12_ends_91 ?_
    refine g_i2l h t_X12_ends_92 ?_
    refine g_callVV h 119 (As := [.long (((w16.1 129 (13 : Int32).toNatClampNeg) + x18).toInt64)]) (st := []) my_X12_tell mi_X12_tell ml_12_260 rfl (by decide) rfl rfl rfl (Nat.le_of_ble_eq_true rfl) (by decide) t_X12_ends_93 hD (fun _ e => S_X12_tell hρ  e) (fun w19 hD => ?_)
    refine g_iload_n h 1 t_X12_ends_96 rfl ?_
    obtain rfl := Option.some.inj hD
    exact hR _ _ t_X12_ends_97 rfl
  · intro w20 hD
    refine g_bipush (v := (-2)) h t_X12_ends_113 (by decide) ?_
    obtain rfl := Option.some.inj hD
    exact hR _ _ t_X12_ends_115 rfl
def L_X12_isGone_2 (x1 : Int32) (x2 : Int32) (k33 : Wd → Option (Int32 × Wd)) (k41 : Wd → Option (Int32 × Wd)) : Nat → Int32 → Wd → Option (Int32 × Wd)
  | 0, _, _ => none
  | n3 + 1, x4, w5 =>
    if 15 ≤ x4 then (k41 w5) else (if ib ((16 * x1) + x4) 976 then (if ib ((16 * x2) + x4) 976 then (if (w5.1 150 ((16 * x1) + x4).toNatClampNeg) = (w5.1 150 ((16 * x2) + x4).toNatClampNeg) then (bd (x4 + 1) fun x6 => L_X12_isGone_2 x1 x2 k33 k41 n3 x6 w5) else (k33 w5)) else none) else none)
def D_X12_isGone (p1 : Int32) (p2 : Int32) : Wd → Option (Int32 × Wd) := fun w =>
  L_X12_isGone_2 p1 p2 (fun w7 => some (0, w7)) (fun w8 => some (1, w8)) FU 0 w
set_option maxRecDepth 20000 in
theorem Q_X12_isGone_2 {l0 : Launch} {ρ : Nat → Nat} {cs : Nat → ClassId} {G : va_G} {X : Cx} (hρ : injN ρ) (hn : X.2.2.2.2.2.2.2.2.2.2.1 = 4) (h : Okx l0 ρ cs G X prog_14_method_78_code "SowingBoardsModel" 0) {rr : (Int32 × Wd)} (hR : ∀ pc L, decode prog_14_method_78_code pc = .ok (.ireturn, 1) → narrow .boolean (.int rr.1) = .int rr.1 → gG ρ cs G X pc L [.int rr.1] rr.2) {x1 : Int32} {x2 : Int32} {k33 : Wd → Option (Int32 × Wd)} (hk33 : ∀ (w1 : Wd), k33 w1 = some rr → gG ρ cs G X 33 [] [] w1) {k41 : Wd → Option (Int32 × Wd)} (hk41 : ∀ (w1 : Wd), k41 w1 = some rr → gG ρ cs G X 41 [] [] w1) : ∀ (n : Nat) (x4 : Int32) (w : Wd), L_X12_isGone_2 x1 x2 k33 k41 n x4 w = some rr → gG ρ cs G X 2 [(0, .ref (ρ 119)), (1, .int x1), (2, .int x2), (3, .int x4)] [] w := by
  intro n
  induction n with
  | zero =>
    intro x4 w hD
    cases hD
  | succ n3 ih =>
    intro x4 w5 hD
    unfold L_X12_isGone_2 at hD
    refine g_iload_n h 3 t_X12_isGone_2 rfl ?_
    refine g_bipush (v := 15) h t_X12_isGone_3 (by decide) ?_
    refine g_icmp_ge (tgt := 41) h t_X12_isGone_5 (by decide) hD (fun hD => ?_) (fun hD => ?_)
    · refine g_loc (L' := []) h [] rfl ?_
      exact hk41 _ hD
    · refine g_aload_n h 0 t_X12_isGone_8 rfl ?_
      refine g_getR h 119 39 150 fl_12_75 rfl (by decide) rfl t_X12_isGone_9 ?_
      refine g_bipush (v := 16) h t_X12_isGone_12 (by decide) ?_
      refine g_iload_n h 1 t_X12_isGone_14 rfl ?_
      refine g_imul h t_X12_isGone_15 ?_
      refine g_iload_n h 3 t_X12_isGone_16 rfl ?_
      refine g_iadd h t_X12_isGone_17 ?_
      refine g_iald h 150 rfl (by decide) t_X12_isGone_18 hD (fun hD => ?_)
      refine g_aload_n h 0 t_X12_isGone_19 rfl ?_
      refine g_getR h 119 39 150 fl_12_75 rfl (by decide) rfl t_X12_isGone_20 ?_
      refine g_bipush (v := 16) h t_X12_isGone_23 (by decide) ?_
      refine g_iload_n h 2 t_X12_isGone_25 rfl ?_
      refine g_imul h t_X12_isGone_26 ?_
      refine g_iload_n h 3 t_X12_isGone_27 rfl ?_
      refine g_iadd h t_X12_isGone_28 ?_
      refine g_iald h 150 rfl (by decide) t_X12_isGone_29 hD (fun hD => ?_)
      refine g_icmp_eq (tgt := 35) h t_X12_isGone_30 (by decide) hD (fun hD => ?_) (fun hD => ?_)
      · obtain ⟨x6, ex6, hD⟩ := bd_ex hD
        refine g_iinc (v := x6) (L' := [(3, .int x6), (0, .ref (ρ 119)), (1, .int x1), (2, .int x2)]) h hn t_X12_isGone_35 (k := 3) rfl (by rw [ex6]; rfl) (by decide) rfl ?_
        refine g_goto (tgt := 2) h t_X12_isGone_38 (by decide) ?_
        refine g_loc (L' := [(0, .ref (ρ 119)), (1, .int x1), (2, .int x2), (3, .int x6)]) h [1, 2, 3, 0] rfl ?_
        exact ih x6 _ hD
      · refine g_loc (L' := []) h [] rfl ?_
        exact hk33 _ hD
set_option maxRecDepth 20000 in
theorem S_X12_isGone {l0 : Launch} {ρ : Nat → Nat} {cs : Nat → ClassId} {G : va_G} (hρ : injN ρ) {p1 : Int32} {p2 : Int32} {w : Wd} {rr : (Int32 × Wd)} (hD : D_X12_isGone p1 p2 w = some rr) : CtI l0 ρ cs G y_X12_isGone prog_14_method_78_code 4 .boolean 0 [.ref (ρ 119), .int p1, .int p2] w rr.1 rr.2 := by
  refine ctI_of hρ (by decide) (Nat.le_of_ble_eq_true rfl) (fun X hn h hR => ?_)
  unfold D_X12_isGone at hD
  show gG ρ cs G X 0 [(0, .ref (ρ 119)), (1, .int p1), (2, .int p2)] [] w
  refine g_iconst (v := 0) h t_X12_isGone_0 (by decide) ?_
  refine g_istore_n (L' := [(3, .int 0), (0, .ref (ρ 119)), (1, .int p1), (2, .int p2)]) h hn t_X12_isGone_1 rfl (by decide) rfl ?_
  refine g_loc (L' := [(0, .ref (ρ 119)), (1, .int p1), (2, .int p2), (3, .int 0)]) h [1, 2, 3, 0] rfl ?_
  refine Q_X12_isGone_2 hρ hn h hR  ?_ ?_ _ _ _ hD
  · intro w7 hD
    refine g_iconst (v := 0) h t_X12_isGone_33 (by decide) ?_
    obtain rfl := Option.some.inj hD
    exact hR _ _ t_X12_isGone_34 (b01_n rfl)
  · intro w8 hD
    refine g_iconst (v := 1) h t_X12_isGone_41 (by decide) ?_
    obtain rfl := Option.some.inj hD
    exact hR _ _ t_X12_isGone_42 (b01_n rfl)
def L_X12_round_68 (x10 : Int32) (k85 : Int32 → Wd → Option (Int32 × Wd)) (k104 : Wd → Option (Int32 × Wd)) : Nat → Int32 → Wd → Option (Int32 × Wd)
  | 0, _, _ => none
  | n11 + 1, x12, w13 =>
    if x10 ≤ x12 then (k104 w13) else (bc (D_X12_isGone x12 x10 w13) fun x15 w14 => if x15 = 0 then (bd (x12 + 1) fun x16 => L_X12_round_68 x10 k85 k104 n11 x16 w14) else (k85 x12 w14))
def L_X12_round_31 (k48 : Wd → Option (Int32 × Wd)) (k85 : Int32 → Int32 → Wd → Option (Int32 × Wd)) (k110 : Wd → Option (Int32 × Wd)) : Nat → Int32 → Wd → Option (Int32 × Wd)
  | 0, _, _ => none
  | n4 + 1, x5, w6 =>
    if 60 < x5 then (k110 w6) else (bc (D_X12_goRule 129 w6) fun x8 w7 => if x8 = 0 then (k48 w7) else (bv (D_X12_lay 129 150 (16 * x5) w7) fun w9 => L_X12_round_68 x5 (fun x17 w18 => k85 x5 x17 w18) (fun w19 => bd (x5 + 1) fun x20 => L_X12_round_31 k48 k85 k110 n4 x20 w19) FU 0 w9))
def D_X12_round  : Wd → Option (Int32 × Wd) := fun w =>
  bd (wI w 119 7 0) fun w1 => bv (D_X12_lay 120 129 0 w1) fun w2 => bv (D_X12_lay 129 150 0 w2) fun w3 => L_X12_round_31 (fun w21 => some ((-2), w21)) (fun x22 x23 w24 => bd (wI w24 119 6 0) fun w25 => bv (D_X12_tell x23.toInt64 w25) fun w26 => some (x22, w26)) (fun w27 => some ((-2), w27)) FU 1 w3
set_option maxRecDepth 20000 in
theorem Q_X12_round_68 {l0 : Launch} {ρ : Nat → Nat} {cs : Nat → ClassId} {G : va_G} {X : Cx} (hρ : injN ρ) (hn : X.2.2.2.2.2.2.2.2.2.2.1 = 3) (h : Okx l0 ρ cs G X prog_14_method_79_code "SowingBoardsModel" 88) {rr : (Int32 × Wd)} (hR : ∀ pc L, decode prog_14_method_79_code pc = .ok (.ireturn, 1) → narrow .int (.int rr.1) = .int rr.1 → gG ρ cs G X pc L [.int rr.1] rr.2) {x10 : Int32} {k85 : Int32 → Wd → Option (Int32 × Wd)} (hk85 : ∀ (z2 : Int32) (w1 : Wd), k85 z2 w1 = some rr → gG ρ cs G X 85 [(0, .ref (ρ 119)), (1, .int x10), (2, .int z2)] [] w1) {k104 : Wd → Option (Int32 × Wd)} (hk104 : ∀ (w1 : Wd), k104 w1 = some rr → gG ρ cs G X 104 [(0, .ref (ρ 119)), (1, .int x10)] [] w1) : ∀ (n : Nat) (x12 : Int32) (w : Wd), L_X12_round_68 x10 k85 k104 n x12 w = some rr → gG ρ cs G X 68 [(0, .ref (ρ 119)), (1, .int x10), (2, .int x12)] [] w := by
  intro n
  induction n with
  | zero =>
    intro x12 w hD
    cases hD
  | succ n11 ih =>
    intro x12 w13 hD
    unfold L_X12_round_68 at hD
    refine g_iload_n h 2 t_X12_round_68 rfl ?_
    refine g_iload_n h 1 t_X12_round_69 rfl ?_
    refine g_icmp_ge (tgt := 104) h t_X12_round_70 (by decide) hD (fun hD => ?_) (fun hD => ?_)
    · refine g_loc (L' := [(0, .ref (ρ 119)), (1, .int x10)]) h [0, 1] rfl ?_
      exact hk104 _ hD
    · refine g_aload_n h 0 t_X12_round_73 rfl ?_
      refine g_iload_n h 2 t_X12_round_74 rfl ?_
      refine g_iload_n h 1 t_X12_round_75 rfl ?_
      refine g_callVI h 119 (As := [.int x12, .int x10]) (st := []) my_X12_isGone mi_X12_isGone ml_12_348 rfl (by decide) rfl rfl rfl (Nat.le_of_ble_eq_true rfl) (by decide) t_X12_round_76 hD (fun _ _ e => S_X12_isGone hρ  e) (fun x15 w14 hD => ?_)
      refine g_if_ne (tgt := 85) h t_X12_round_79 (by decide) hD (fun hD => ?_) (fun hD => ?_)
      · refine g_loc (L' := [(0, .ref (ρ 119)), (1, .int x10), (2, .int x12)]) h [0, 1, 2] rfl ?_
        exact hk85 x12 _ hD
      · refine g_goto (tgt := 98) h t_X12_round_82 (by decide) ?_
        obtain ⟨x16, ex16, hD⟩ := bd_ex hD
        refine g_iinc (v := x16) (L' := [(2, .int x16), (0, .ref (ρ 119)), (1, .int x10)]) h hn t_X12_round_98 (k := 2) rfl (by rw [ex16]; rfl) (by decide) rfl ?_
        refine g_goto (tgt := 68) h t_X12_round_101 (by decide) ?_
        refine g_loc (L' := [(0, .ref (ρ 119)), (1, .int x10), (2, .int x16)]) h [1, 2, 0] rfl ?_
        exact ih x16 _ hD
set_option maxRecDepth 20000 in
theorem Q_X12_round_31 {l0 : Launch} {ρ : Nat → Nat} {cs : Nat → ClassId} {G : va_G} {X : Cx} (hρ : injN ρ) (hn : X.2.2.2.2.2.2.2.2.2.2.1 = 3) (h : Okx l0 ρ cs G X prog_14_method_79_code "SowingBoardsModel" 88) {rr : (Int32 × Wd)} (hR : ∀ pc L, decode prog_14_method_79_code pc = .ok (.ireturn, 1) → narrow .int (.int rr.1) = .int rr.1 → gG ρ cs G X pc L [.int rr.1] rr.2)  {k48 : Wd → Option (Int32 × Wd)} (hk48 : ∀ (w1 : Wd), k48 w1 = some rr → gG ρ cs G X 48 [] [] w1) {k85 : Int32 → Int32 → Wd → Option (Int32 × Wd)} (hk85 : ∀ (z1 : Int32) (z2 : Int32) (w1 : Wd), k85 z1 z2 w1 = some rr → gG ρ cs G X 85 [(0, .ref (ρ 119)), (1, .int z1), (2, .int z2)] [] w1) {k110 : Wd → Option (Int32 × Wd)} (hk110 : ∀ (w1 : Wd), k110 w1 = some rr → gG ρ cs G X 110 [] [] w1) : ∀ (n : Nat) (x5 : Int32) (w : Wd), L_X12_round_31 k48 k85 k110 n x5 w = some rr → gG ρ cs G X 31 [(0, .ref (ρ 119)), (1, .int x5)] [] w := by
  intro n
  induction n with
  | zero =>
    intro x5 w hD
    cases hD
  | succ n4 ih =>
    intro x5 w6 hD
    unfold L_X12_round_31 at hD
    refine g_iload_n h 1 t_X12_round_31 rfl ?_
    refine g_bipush (v := 60) h t_X12_round_32 (by decide) ?_
    refine g_icmp_gt (tgt := 110) h t_X12_round_34 (by decide) hD (fun hD => ?_) (fun hD => ?_)
    · refine g_loc (L' := []) h [] rfl ?_
      exact hk110 _ hD
    · refine g_aload_n h 0 t_X12_round_37 rfl ?_
      refine g_aload_n h 0 t_X12_round_38 rfl ?_
      refine g_getR h 119 25 129 fl_12_46 rfl (by decide) rfl t_X12_round_39 ?_
      refine g_callVI h 119 (As := [.ref (ρ 129)]) (st := []) my_X12_goRule mi_X12_goRule ml_12_289 rfl (by decide) rfl rfl rfl (Nat.le_of_ble_eq_true rfl) (by decide) t_X12_round_42 hD (fun _ _ e => S_X12_goRule hρ (by decide) e) (fun x8 w7 hD => ?_)
      refine g_if_ne (tgt := 51) h t_X12_round_45 (by decide) hD (fun hD => ?_) (fun hD => ?_)
      · refine g_aload_n h 0 t_X12_round_51 rfl ?_
        refine g_getR h 119 25 129 fl_12_46 rfl (by decide) rfl t_X12_round_52 ?_
        refine g_aload_n h 0 t_X12_round_55 rfl ?_
        refine g_getR h 119 39 150 fl_12_75 rfl (by decide) rfl t_X12_round_56 ?_
        refine g_bipush (v := 16) h t_X12_round_59 (by decide) ?_
        refine g_iload_n h 1 t_X12_round_61 rfl ?_
        refine g_imul h t_X12_round_62 ?_
        refine g_callSV h (As := [.ref (ρ 129), .ref (ρ 150), .int (16 * x5)]) (st := []) my_X12_lay ms_X12_lay ml_12_256 rfl rfl (Nat.le_of_ble_eq_true rfl) (by decide) t_X12_round_63 hD (fun _ e => S_X12_lay hρ (by decide) (by decide) e) (fun w9 hD => ?_)
        refine g_iconst (v := 0) h t_X12_round_66 (by decide) ?_
        refine g_istore_n (L' := [(2, .int 0), (0, .ref (ρ 119)), (1, .int x5)]) h hn t_X12_round_67 rfl (by decide) rfl ?_
        refine g_loc (L' := [(0, .ref (ρ 119)), (1, .int x5), (2, .int 0)]) h [1, 2, 0] rfl ?_
        refine Q_X12_round_68 hρ hn h hR  ?_ ?_ _ _ _ hD
        · intro x17 w18 hD
          refine g_loc (L' := [(0, .ref (ρ 119)), (1, .int x5), (2, .int x17)]) h [0, 1, 2] rfl ?_
          exact hk85 x5 x17 _ hD
        · intro w19 hD
          obtain ⟨x20, ex20, hD⟩ := bd_ex hD
          refine g_iinc (v := x20) (L' := [(1, .int x20), (0, .ref (ρ 119))]) h hn t_X12_round_104 (k := 1) rfl (by rw [ex20]; rfl) (by decide) rfl ?_
          refine g_goto (tgt := 31) h t_X12_round_107 (by decide) ?_
          refine g_loc (L' := [(0, .ref (ρ 119)), (1, .int x20)]) h [1, 0] rfl ?_
          exact ih x20 _ hD
      · refine g_loc (L' := []) h [] rfl ?_
        exact hk48 _ hD
set_option maxRecDepth 20000 in
theorem S_X12_round {l0 : Launch} {ρ : Nat → Nat} {cs : Nat → ClassId} {G : va_G} (hρ : injN ρ)  {w : Wd} {rr : (Int32 × Wd)} (hD : D_X12_round w = some rr) : CtI l0 ρ cs G y_X12_round prog_14_method_79_code 3 .int 88 [.ref (ρ 119)] w rr.1 rr.2 := by
  refine ctI_of hρ (by decide) (Nat.le_of_ble_eq_true rfl) (fun X hn h hR => ?_)
  unfold D_X12_round at hD
  show gG ρ cs G X 0 [(0, .ref (ρ 119))] [] w
  refine g_aload_n h 0 t_X12_round_0 rfl ?_
  refine g_iconst (v := 0) h t_X12_round_1 (by decide) ?_
  refine g_putI h 119 7 fl_12_109 fp_12_7 rfl (by decide) rfl t_X12_round_2 hD (fun w1 hD => ?_)
  refine g_aload_n h 0 t_X12_round_5 rfl ?_
  refine g_getR h 119 0 120 fl_12_9 rfl (by decide) rfl t_X12_round_6 ?_
  refine g_aload_n h 0 t_X12_round_9 rfl ?_
  refine g_getR h 119 25 129 fl_12_46 rfl (by decide) rfl t_X12_round_10 ?_
  refine g_iconst (v := 0) h t_X12_round_13 (by decide) ?_
  refine g_callSV h (As := [.ref (ρ 120), .ref (ρ 129), .int 0]) (st := []) my_X12_lay ms_X12_lay ml_12_256 rfl rfl (Nat.le_of_ble_eq_true rfl) (by decide) t_X12_round_14 hD (fun _ e => S_X12_lay hρ (by decide) (by decide) e) (fun w2 hD => ?_)
  refine g_aload_n h 0 t_X12_round_17 rfl ?_
  refine g_getR h 119 25 129 fl_12_46 rfl (by decide) rfl t_X12_round_18 ?_
  refine g_aload_n h 0 t_X12_round_21 rfl ?_
  refine g_getR h 119 39 150 fl_12_75 rfl (by decide) rfl t_X12_round_22 ?_
  refine g_iconst (v := 0) h t_X12_round_25 (by decide) ?_
  refine g_callSV h (As := [.ref (ρ 129), .ref (ρ 150), .int 0]) (st := []) my_X12_lay ms_X12_lay ml_12_256 rfl rfl (Nat.le_of_ble_eq_true rfl) (by decide) t_X12_round_26 hD (fun _ e => S_X12_lay hρ (by decide) (by decide) e) (fun w3 hD => ?_)
  refine g_iconst (v := 1) h t_X12_round_29 (by decide) ?_
  refine g_istore_n (L' := [(1, .int 1), (0, .ref (ρ 119))]) h hn t_X12_round_30 rfl (by decide) rfl ?_
  refine g_loc (L' := [(0, .ref (ρ 119)), (1, .int 1)]) h [1, 0] rfl ?_
  refine Q_X12_round_31 hρ hn h hR  ?_ ?_ ?_ _ _ _ hD
  · intro w21 hD
    refine g_bipush (v := (-2)) h t_X12_round_48 (by decide) ?_
    obtain rfl := Option.some.inj hD
    exact hR _ _ t_X12_round_50 rfl
  · intro x22 x23 w24 hD
    refine g_aload_n h 0 t_X12_round_85 rfl ?_
    refine g_iconst (v := 0) h t_X12_round_86 (by decide) ?_
    refine g_putI h 119 6 fl_12_112 fp_12_6 rfl (by decide) rfl t_X12_round_87 hD (fun w25 hD => ?_)
    refine g_aload_n h 0 t_X12_round_90 rfl ?_
    refine g_iload_n h 2 t_X12_round_91 rfl ?_
    refine g_i2l h t_X12_round_92 ?_
    refine g_callVV h 119 (As := [.long x23.toInt64]) (st := []) my_X12_tell mi_X12_tell ml_12_260 rfl (by decide) rfl rfl rfl (Nat.le_of_ble_eq_true rfl) (by decide) t_X12_round_93 hD (fun _ e => S_X12_tell hρ  e) (fun w26 hD => ?_)
    refine g_iload_n h 1 t_X12_round_96 rfl ?_
    obtain rfl := Option.some.inj hD
    exact hR _ _ t_X12_round_97 rfl
  · intro w27 hD
    refine g_bipush (v := (-2)) h t_X12_round_110 (by decide) ?_
    obtain rfl := Option.some.inj hD
    exact hR _ _ t_X12_round_112 rfl
def L_X12_fullest_31 (x5 : Int32) (k51 : Wd → Option (Int32 × Wd)) : Nat → Int32 → Wd → Option (Int32 × Wd)
  | 0, _, _ => none
  | n6 + 1, x7, w8 =>
    if x5 ≤ x7 then (k51 w8) else (bc (D_X12_goRule 129 w8) fun x10 w9 => bd (x7 + 1) fun x11 => L_X12_fullest_31 x5 k51 n6 x11 w9)
def L_X12_fullest_55 (k90 : Int32 → Wd → Option (Int32 × Wd)) : Nat → Int32 → Int32 → Wd → Option (Int32 × Wd)
  | 0, _, _, _ => none
  | n13 + 1, x14, x15, w16 =>
    bc (D_X12_pits w16) fun x18 w17 => if x18 ≤ x15 then (k90 x14 w17) else (if ib x15 16 then (if ib x14 16 then (bd (fun (x19 : Int32) (w20 : Wd) => bd (x15 + 1) fun x22 => L_X12_fullest_55 k90 n13 x19 x22 w20) fun k21 => if (w17.1 129 x15.toNatClampNeg) ≤ (w17.1 129 x14.toNatClampNeg) then (k21 x14 w17) else (k21 x15 w17)) else none) else none)
def D_X12_fullest (p1 : Int32) : Wd → Option (Int32 × Wd) := fun w =>
  bd (wI w 119 7 0) fun w1 => bc (D_X12_in p1 0 60 w1) fun x3 w2 => if x3 = 0 then (some ((-1), w2)) else (bv (D_X12_lay 120 129 0 w2) fun w4 => L_X12_fullest_31 p1 (fun w12 => L_X12_fullest_55 (fun x23 w24 => bd (wI w24 119 6 0) fun w25 => if ib x23 16 then (bv (D_X12_tell ((w25.1 129 x23.toNatClampNeg).toInt64) w25) fun w26 => some (x23, w26)) else none) FU 0 1 w12) FU 0 w4)
set_option maxRecDepth 20000 in
theorem Q_X12_fullest_31 {l0 : Launch} {ρ : Nat → Nat} {cs : Nat → ClassId} {G : va_G} {X : Cx} (hρ : injN ρ) (hn : X.2.2.2.2.2.2.2.2.2.2.1 = 4) (h : Okx l0 ρ cs G X prog_14_method_80_code "SowingBoardsModel" 88) {rr : (Int32 × Wd)} (hR : ∀ pc L, decode prog_14_method_80_code pc = .ok (.ireturn, 1) → narrow .int (.int rr.1) = .int rr.1 → gG ρ cs G X pc L [.int rr.1] rr.2) {x5 : Int32} {k51 : Wd → Option (Int32 × Wd)} (hk51 : ∀ (w1 : Wd), k51 w1 = some rr → gG ρ cs G X 51 [(0, .ref (ρ 119))] [] w1) : ∀ (n : Nat) (x7 : Int32) (w : Wd), L_X12_fullest_31 x5 k51 n x7 w = some rr → gG ρ cs G X 31 [(0, .ref (ρ 119)), (1, .int x5), (2, .int x7)] [] w := by
  intro n
  induction n with
  | zero =>
    intro x7 w hD
    cases hD
  | succ n6 ih =>
    intro x7 w8 hD
    unfold L_X12_fullest_31 at hD
    refine g_iload_n h 2 t_X12_fullest_31 rfl ?_
    refine g_iload_n h 1 t_X12_fullest_32 rfl ?_
    refine g_icmp_ge (tgt := 51) h t_X12_fullest_33 (by decide) hD (fun hD => ?_) (fun hD => ?_)
    · refine g_loc (L' := [(0, .ref (ρ 119))]) h [0] rfl ?_
      exact hk51 _ hD
    · refine g_aload_n h 0 t_X12_fullest_36 rfl ?_
      refine g_aload_n h 0 t_X12_fullest_37 rfl ?_
      refine g_getR h 119 25 129 fl_12_46 rfl (by decide) rfl t_X12_fullest_38 ?_
      refine g_callVI h 119 (As := [.ref (ρ 129)]) (st := []) my_X12_goRule mi_X12_goRule ml_12_289 rfl (by decide) rfl rfl rfl (Nat.le_of_ble_eq_true rfl) (by decide) t_X12_fullest_41 hD (fun _ _ e => S_X12_goRule hρ (by decide) e) (fun x10 w9 hD => ?_)
      refine g_pop h t_X12_fullest_44 rfl ?_
      obtain ⟨x11, ex11, hD⟩ := bd_ex hD
      refine g_iinc (v := x11) (L' := [(2, .int x11), (0, .ref (ρ 119)), (1, .int x5)]) h hn t_X12_fullest_45 (k := 2) rfl (by rw [ex11]; rfl) (by decide) rfl ?_
      refine g_goto (tgt := 31) h t_X12_fullest_48 (by decide) ?_
      refine g_loc (L' := [(0, .ref (ρ 119)), (1, .int x5), (2, .int x11)]) h [1, 2, 0] rfl ?_
      exact ih x11 _ hD
set_option maxRecDepth 20000 in
theorem Q_X12_fullest_55 {l0 : Launch} {ρ : Nat → Nat} {cs : Nat → ClassId} {G : va_G} {X : Cx} (hρ : injN ρ) (hn : X.2.2.2.2.2.2.2.2.2.2.1 = 4) (h : Okx l0 ρ cs G X prog_14_method_80_code "SowingBoardsModel" 88) {rr : (Int32 × Wd)} (hR : ∀ pc L, decode prog_14_method_80_code pc = .ok (.ireturn, 1) → narrow .int (.int rr.1) = .int rr.1 → gG ρ cs G X pc L [.int rr.1] rr.2)  {k90 : Int32 → Wd → Option (Int32 × Wd)} (hk90 : ∀ (z2 : Int32) (w1 : Wd), k90 z2 w1 = some rr → gG ρ cs G X 90 [(0, .ref (ρ 119)), (2, .int z2)] [] w1) : ∀ (n : Nat) (x14 : Int32) (x15 : Int32) (w : Wd), L_X12_fullest_55 k90 n x14 x15 w = some rr → gG ρ cs G X 55 [(0, .ref (ρ 119)), (2, .int x14), (3, .int x15)] [] w := by
  intro n
  induction n with
  | zero =>
    intro x14 x15 w hD
    cases hD
  | succ n13 ih =>
    intro x14 x15 w16 hD
    unfold L_X12_fullest_55 at hD
    refine g_iload_n h 2 t_X12_fullest_55 rfl ?_
    refine g_aload_n h 0 t_X12_fullest_56 rfl ?_
    refine g_callVI h 119 (As := []) (st := [.int x15]) my_X12_pits mi_X12_pits ml_12_214 rfl (by decide) rfl rfl rfl (Nat.le_of_ble_eq_true rfl) (by decide) t_X12_fullest_57 hD (fun _ _ e => S_X12_pits hρ  e) (fun x18 w17 hD => ?_)
    refine g_icmp_ge (tgt := 90) h t_X12_fullest_60 (by decide) hD (fun hD => ?_) (fun hD => ?_)
    · refine g_loc (L' := [(0, .ref (ρ 119)), (2, .int x14)]) h [0, 1] rfl ?_
      exact hk90 x14 _ hD
    · refine g_aload_n h 0 t_X12_fullest_63 rfl ?_
      refine g_getR h 119 25 129 fl_12_46 rfl (by decide) rfl t_X12_fullest_64 ?_
      refine g_iload_n h 2 t_X12_fullest_67 rfl ?_
      refine g_iald h 129 rfl (by decide) t_X12_fullest_68 hD (fun hD => ?_)
      refine g_aload_n h 0 t_X12_fullest_69 rfl ?_
      refine g_getR h 119 25 129 fl_12_46 rfl (by decide) rfl t_X12_fullest_70 ?_
      refine g_iload_n h 1 t_X12_fullest_73 rfl ?_
      refine g_iald h 129 rfl (by decide) t_X12_fullest_74 hD (fun hD => ?_)
      refine g_join (P := fun k21 => ∀ (x19 : Int32) (w20 : Wd), k21 x19 w20 = some rr → gG ρ cs G X 83 [(0, .ref (ρ 119)), (3, .int x15)] [.int x19] w20) hD ?_ (fun k21 hk21 hD => ?_)
      · intro x19 w20 hD
        refine g_istore_n (L' := [(2, .int x19), (0, .ref (ρ 119)), (3, .int x15)]) h hn t_X12_fullest_83 rfl (by decide) rfl ?_
        obtain ⟨x22, ex22, hD⟩ := bd_ex hD
        refine g_iinc (v := x22) (L' := [(3, .int x22), (2, .int x19), (0, .ref (ρ 119))]) h hn t_X12_fullest_84 (k := 2) rfl (by rw [ex22]; rfl) (by decide) rfl ?_
        refine g_goto (tgt := 55) h t_X12_fullest_87 (by decide) ?_
        refine g_loc (L' := [(0, .ref (ρ 119)), (2, .int x19), (3, .int x22)]) h [2, 1, 0] rfl ?_
        exact ih x19 x22 _ hD
      · refine g_icmp_le (tgt := 82) h t_X12_fullest_75 (by decide) hD (fun hD => ?_) (fun hD => ?_)
        · refine g_iload_n h 1 t_X12_fullest_82 rfl ?_
          refine g_loc (L' := [(0, .ref (ρ 119)), (3, .int x15)]) h [0, 2] rfl ?_
          exact hk21 x14 _ hD
        · refine g_iload_n h 2 t_X12_fullest_78 rfl ?_
          refine g_goto (tgt := 83) h t_X12_fullest_79 (by decide) ?_
          refine g_loc (L' := [(0, .ref (ρ 119)), (3, .int x15)]) h [0, 2] rfl ?_
          exact hk21 x15 _ hD
set_option maxRecDepth 20000 in
theorem S_X12_fullest {l0 : Launch} {ρ : Nat → Nat} {cs : Nat → ClassId} {G : va_G} (hρ : injN ρ) {p1 : Int32} {w : Wd} {rr : (Int32 × Wd)} (hD : D_X12_fullest p1 w = some rr) : CtI l0 ρ cs G y_X12_fullest prog_14_method_80_code 4 .int 88 [.ref (ρ 119), .int p1] w rr.1 rr.2 := by
  refine ctI_of hρ (by decide) (Nat.le_of_ble_eq_true rfl) (fun X hn h hR => ?_)
  unfold D_X12_fullest at hD
  show gG ρ cs G X 0 [(0, .ref (ρ 119)), (1, .int p1)] [] w
  refine g_aload_n h 0 t_X12_fullest_0 rfl ?_
  refine g_iconst (v := 0) h t_X12_fullest_1 (by decide) ?_
  refine g_putI h 119 7 fl_12_109 fp_12_7 rfl (by decide) rfl t_X12_fullest_2 hD (fun w1 hD => ?_)
  refine g_iload_n h 1 t_X12_fullest_5 rfl ?_
  refine g_iconst (v := 0) h t_X12_fullest_6 (by decide) ?_
  refine g_bipush (v := 60) h t_X12_fullest_7 (by decide) ?_
  refine g_callSI h (As := [.int p1, .int 0, .int 60]) (st := []) my_X12_in ms_X12_in ml_12_118 rfl rfl (Nat.le_of_ble_eq_true rfl) (by decide) t_X12_fullest_9 hD (fun _ _ e => S_X12_in hρ  e) (fun x3 w2 hD => ?_)
  refine g_if_ne (tgt := 17) h t_X12_fullest_12 (by decide) hD (fun hD => ?_) (fun hD => ?_)
  · refine g_aload_n h 0 t_X12_fullest_17 rfl ?_
    refine g_getR h 119 0 120 fl_12_9 rfl (by decide) rfl t_X12_fullest_18 ?_
    refine g_aload_n h 0 t_X12_fullest_21 rfl ?_
    refine g_getR h 119 25 129 fl_12_46 rfl (by decide) rfl t_X12_fullest_22 ?_
    refine g_iconst (v := 0) h t_X12_fullest_25 (by decide) ?_
    refine g_callSV h (As := [.ref (ρ 120), .ref (ρ 129), .int 0]) (st := []) my_X12_lay ms_X12_lay ml_12_256 rfl rfl (Nat.le_of_ble_eq_true rfl) (by decide) t_X12_fullest_26 hD (fun _ e => S_X12_lay hρ (by decide) (by decide) e) (fun w4 hD => ?_)
    refine g_iconst (v := 0) h t_X12_fullest_29 (by decide) ?_
    refine g_istore_n (L' := [(2, .int 0), (0, .ref (ρ 119)), (1, .int p1)]) h hn t_X12_fullest_30 rfl (by decide) rfl ?_
    refine g_loc (L' := [(0, .ref (ρ 119)), (1, .int p1), (2, .int 0)]) h [1, 2, 0] rfl ?_
    refine Q_X12_fullest_31 hρ hn h hR  ?_ _ _ _ hD
    · intro w12 hD
      refine g_iconst (v := 0) h t_X12_fullest_51 (by decide) ?_
      refine g_istore_n (L' := [(2, .int 0), (0, .ref (ρ 119))]) h hn t_X12_fullest_52 rfl (by decide) rfl ?_
      refine g_iconst (v := 1) h t_X12_fullest_53 (by decide) ?_
      refine g_istore_n (L' := [(3, .int 1), (2, .int 0), (0, .ref (ρ 119))]) h hn t_X12_fullest_54 rfl (by decide) rfl ?_
      refine g_loc (L' := [(0, .ref (ρ 119)), (2, .int 0), (3, .int 1)]) h [2, 1, 0] rfl ?_
      refine Q_X12_fullest_55 hρ hn h hR  ?_ _ _ _ _ hD
      · intro x23 w24 hD
        refine g_aload_n h 0 t_X12_fullest_90 rfl ?_
        refine g_iconst (v := 0) h t_X12_fullest_91 (by decide) ?_
        refine g_putI h 119 6 fl_12_112 fp_12_6 rfl (by decide) rfl t_X12_fullest_92 hD (fun w25 hD => ?_)
        refine g_aload_n h 0 t_X12_fullest_95 rfl ?_
        refine g_aload_n h 0 t_X12_fullest_96 rfl ?_
        refine g_getR h 119 25 129 fl_12_46 rfl (by decide) rfl t_X12_fullest_97 ?_
        refine g_iload_n h 1 t_X12_fullest_100 rfl ?_
        refine g_iald h 129 rfl (by decide) t_X12_fullest_101 hD (fun hD => ?_)
        refine g_i2l h t_X12_fullest_102 ?_
        refine g_callVV h 119 (As := [.long ((w25.1 129 x23.toNatClampNeg).toInt64)]) (st := []) my_X12_tell mi_X12_tell ml_12_260 rfl (by decide) rfl rfl rfl (Nat.le_of_ble_eq_true rfl) (by decide) t_X12_fullest_103 hD (fun _ e => S_X12_tell hρ  e) (fun w26 hD => ?_)
        refine g_iload_n h 1 t_X12_fullest_106 rfl ?_
        obtain rfl := Option.some.inj hD
        exact hR _ _ t_X12_fullest_107 rfl
  · refine g_iconst (v := (-1)) h t_X12_fullest_15 (by decide) ?_
    obtain rfl := Option.some.inj hD
    exact hR _ _ t_X12_fullest_16 rfl
def L_X12_alone_19 (x4 : Int32) (k41 : Wd → Option (Int32 × Wd)) : Nat → Int32 → Wd → Option (Int32 × Wd)
  | 0, _, _ => none
  | n5 + 1, x6, w7 =>
    if 24 ≤ x6 then (k41 w7) else (if ib x6 24 then bd (wI w7 151 x6.toNatClampNeg 0) (fun w8 => bd (x6 + 1) fun x9 => L_X12_alone_19 x4 k41 n5 x9 w8) else none)
def L_X12_alone_53 (x16 : Int32) (x17 : Int32) (x18 : Int32) (k80 : Int32 → Wd → Option (Int32 × Wd)) : Nat → Int32 → Wd → Option (Int32 × Wd)
  | 0, _, _ => none
  | n19 + 1, x20, w21 =>
    if ib x20 24 then (if (w21.1 151 x20.toNatClampNeg) ≤ 0 then (k80 x20 w21) else (if ib x20 24 then (if ib x20 24 then bd (wI w21 151 x20.toNatClampNeg ((w21.1 151 x20.toNatClampNeg) - 1)) (fun w22 => bd (x20 + 1) fun x23 => L_X12_alone_53 x16 x17 x18 k80 n19 x23 w22) else none) else none)) else none
def L_X12_alone_45 (x11 : Int32) (k102 : Int32 → Wd → Option (Int32 × Wd)) : Nat → Int32 → Int32 → Wd → Option (Int32 × Wd)
  | 0, _, _, _ => none
  | n12 + 1, x13, x14, w15 =>
    if x11 ≤ x14 then (k102 x13 w15) else (L_X12_alone_53 x11 x13 x14 (fun x24 w25 => if ib x24 24 then bd (wI w25 151 x24.toNatClampNeg x24) (fun w26 => bd (imax x13 x24) fun x27 => bd (x14 + 1) fun x28 => L_X12_alone_45 x11 k102 n12 x27 x28 w26) else none) FU 1 w15)
def L_X12_alone_109 (x32 : Int32) (k131 : Wd → Option (Int32 × Wd)) : Nat → Int32 → Wd → Option (Int32 × Wd)
  | 0, _, _ => none
  | n33 + 1, x34, w35 =>
    if x32 < x34 then (k131 w35) else (if ib x34 24 then (bv (D_X12_tell ((w35.1 151 x34.toNatClampNeg).toInt64) w35) fun w36 => bd (x34 + 1) fun x37 => L_X12_alone_109 x32 k131 n33 x37 w36) else none)
def D_X12_alone (p1 : Int32) : Wd → Option (Int32 × Wd) := fun w =>
  bd (wI w 119 7 0) fun w1 => bc (D_X12_in p1 0 99 w1) fun x3 w2 => if x3 = 0 then (some ((-1), w2)) else (L_X12_alone_19 p1 (fun w10 => L_X12_alone_45 p1 (fun x29 w30 => bd (wI w30 119 6 0) fun w31 => L_X12_alone_109 x29 (fun w38 => some (x29, w38)) FU 1 w31) FU 0 0 w10) FU 0 w2)
set_option maxRecDepth 20000 in
theorem Q_X12_alone_19 {l0 : Launch} {ρ : Nat → Nat} {cs : Nat → ClassId} {G : va_G} {X : Cx} (hρ : injN ρ) (hn : X.2.2.2.2.2.2.2.2.2.2.1 = 5) (h : Okx l0 ρ cs G X prog_14_method_81_code "SowingBoardsModel" 1) {rr : (Int32 × Wd)} (hR : ∀ pc L, decode prog_14_method_81_code pc = .ok (.ireturn, 1) → narrow .int (.int rr.1) = .int rr.1 → gG ρ cs G X pc L [.int rr.1] rr.2) {x4 : Int32} {k41 : Wd → Option (Int32 × Wd)} (hk41 : ∀ (w1 : Wd), k41 w1 = some rr → gG ρ cs G X 41 [(0, .ref (ρ 119)), (1, .int x4)] [] w1) : ∀ (n : Nat) (x6 : Int32) (w : Wd), L_X12_alone_19 x4 k41 n x6 w = some rr → gG ρ cs G X 19 [(0, .ref (ρ 119)), (1, .int x4), (2, .int x6)] [] w := by
  intro n
  induction n with
  | zero =>
    intro x6 w hD
    cases hD
  | succ n5 ih =>
    intro x6 w7 hD
    unfold L_X12_alone_19 at hD
    refine g_iload_n h 2 t_X12_alone_19 rfl ?_
    refine g_aload_n h 0 t_X12_alone_20 rfl ?_
    refine g_getR h 119 40 151 fl_12_78 rfl (by decide) rfl t_X12_alone_21 ?_
    refine g_alen (v := 24) h 151 rfl (by decide) (by decide) t_X12_alone_24 ?_
    refine g_icmp_ge (tgt := 41) h t_X12_alone_25 (by decide) hD (fun hD => ?_) (fun hD => ?_)
    · refine g_loc (L' := [(0, .ref (ρ 119)), (1, .int x4)]) h [0, 1] rfl ?_
      exact hk41 _ hD
    · refine g_aload_n h 0 t_X12_alone_28 rfl ?_
      refine g_getR h 119 40 151 fl_12_78 rfl (by decide) rfl t_X12_alone_29 ?_
      refine g_iload_n h 2 t_X12_alone_32 rfl ?_
      refine g_iconst (v := 0) h t_X12_alone_33 (by decide) ?_
      refine g_iast h 151 rfl (by decide) t_X12_alone_34 hD (fun w8 hD => ?_)
      obtain ⟨x9, ex9, hD⟩ := bd_ex hD
      refine g_iinc (v := x9) (L' := [(2, .int x9), (0, .ref (ρ 119)), (1, .int x4)]) h hn t_X12_alone_35 (k := 2) rfl (by rw [ex9]; rfl) (by decide) rfl ?_
      refine g_goto (tgt := 19) h t_X12_alone_38 (by decide) ?_
      refine g_loc (L' := [(0, .ref (ρ 119)), (1, .int x4), (2, .int x9)]) h [1, 2, 0] rfl ?_
      exact ih x9 _ hD
set_option maxRecDepth 20000 in
theorem Q_X12_alone_53 {l0 : Launch} {ρ : Nat → Nat} {cs : Nat → ClassId} {G : va_G} {X : Cx} (hρ : injN ρ) (hn : X.2.2.2.2.2.2.2.2.2.2.1 = 5) (h : Okx l0 ρ cs G X prog_14_method_81_code "SowingBoardsModel" 1) {rr : (Int32 × Wd)} (hR : ∀ pc L, decode prog_14_method_81_code pc = .ok (.ireturn, 1) → narrow .int (.int rr.1) = .int rr.1 → gG ρ cs G X pc L [.int rr.1] rr.2) {x16 : Int32} {x17 : Int32} {x18 : Int32} {k80 : Int32 → Wd → Option (Int32 × Wd)} (hk80 : ∀ (z4 : Int32) (w1 : Wd), k80 z4 w1 = some rr → gG ρ cs G X 80 [(0, .ref (ρ 119)), (1, .int x16), (2, .int x17), (3, .int x18), (4, .int z4)] [] w1) : ∀ (n : Nat) (x20 : Int32) (w : Wd), L_X12_alone_53 x16 x17 x18 k80 n x20 w = some rr → gG ρ cs G X 53 [(0, .ref (ρ 119)), (1, .int x16), (2, .int x17), (3, .int x18), (4, .int x20)] [] w := by
  intro n
  induction n with
  | zero =>
    intro x20 w hD
    cases hD
  | succ n19 ih =>
    intro x20 w21 hD
    unfold L_X12_alone_53 at hD
    refine g_aload_n h 0 t_X12_alone_53 rfl ?_
    refine g_getR h 119 40 151 fl_12_78 rfl (by decide) rfl t_X12_alone_54 ?_
    refine g_iload h 4 t_X12_alone_57 rfl ?_
    refine g_iald h 151 rfl (by decide) t_X12_alone_59 hD (fun hD => ?_)
    refine g_if_le (tgt := 80) h t_X12_alone_60 (by decide) hD (fun hD => ?_) (fun hD => ?_)
    · refine g_loc (L' := [(0, .ref (ρ 119)), (1, .int x16), (2, .int x17), (3, .int x18), (4, .int x20)]) h [0, 1, 2, 3, 4] rfl ?_
      exact hk80 x20 _ hD
    · refine g_aload_n h 0 t_X12_alone_63 rfl ?_
      refine g_getR h 119 40 151 fl_12_78 rfl (by decide) rfl t_X12_alone_64 ?_
      refine g_iload h 4 t_X12_alone_67 rfl ?_
      refine g_dup2 h t_X12_alone_69 rfl rfl ?_
      refine g_iald h 151 rfl (by decide) t_X12_alone_70 hD (fun hD => ?_)
      refine g_iconst (v := 1) h t_X12_alone_71 (by decide) ?_
      refine g_isub h t_X12_alone_72 ?_
      refine g_iast h 151 rfl (by decide) t_X12_alone_73 hD (fun w22 hD => ?_)
      obtain ⟨x23, ex23, hD⟩ := bd_ex hD
      refine g_iinc (v := x23) (L' := [(4, .int x23), (0, .ref (ρ 119)), (1, .int x16), (2, .int x17), (3, .int x18)]) h hn t_X12_alone_74 (k := 4) rfl (by rw [ex23]; rfl) (by decide) rfl ?_
      refine g_goto (tgt := 53) h t_X12_alone_77 (by decide) ?_
      refine g_loc (L' := [(0, .ref (ρ 119)), (1, .int x16), (2, .int x17), (3, .int x18), (4, .int x23)]) h [1, 2, 3, 4, 0] rfl ?_
      exact ih x23 _ hD
set_option maxRecDepth 20000 in
theorem Q_X12_alone_45 {l0 : Launch} {ρ : Nat → Nat} {cs : Nat → ClassId} {G : va_G} {X : Cx} (hρ : injN ρ) (hn : X.2.2.2.2.2.2.2.2.2.2.1 = 5) (h : Okx l0 ρ cs G X prog_14_method_81_code "SowingBoardsModel" 1) {rr : (Int32 × Wd)} (hR : ∀ pc L, decode prog_14_method_81_code pc = .ok (.ireturn, 1) → narrow .int (.int rr.1) = .int rr.1 → gG ρ cs G X pc L [.int rr.1] rr.2) {x11 : Int32} {k102 : Int32 → Wd → Option (Int32 × Wd)} (hk102 : ∀ (z2 : Int32) (w1 : Wd), k102 z2 w1 = some rr → gG ρ cs G X 102 [(0, .ref (ρ 119)), (2, .int z2)] [] w1) : ∀ (n : Nat) (x13 : Int32) (x14 : Int32) (w : Wd), L_X12_alone_45 x11 k102 n x13 x14 w = some rr → gG ρ cs G X 45 [(0, .ref (ρ 119)), (1, .int x11), (2, .int x13), (3, .int x14)] [] w := by
  intro n
  induction n with
  | zero =>
    intro x13 x14 w hD
    cases hD
  | succ n12 ih =>
    intro x13 x14 w15 hD
    unfold L_X12_alone_45 at hD
    refine g_iload_n h 3 t_X12_alone_45 rfl ?_
    refine g_iload_n h 1 t_X12_alone_46 rfl ?_
    refine g_icmp_ge (tgt := 102) h t_X12_alone_47 (by decide) hD (fun hD => ?_) (fun hD => ?_)
    · refine g_loc (L' := [(0, .ref (ρ 119)), (2, .int x13)]) h [0, 2] rfl ?_
      exact hk102 x13 _ hD
    · refine g_iconst (v := 1) h t_X12_alone_50 (by decide) ?_
      refine g_istore (L' := [(4, .int 1), (0, .ref (ρ 119)), (1, .int x11), (2, .int x13), (3, .int x14)]) h hn t_X12_alone_51 (by decide) rfl ?_
      refine g_loc (L' := [(0, .ref (ρ 119)), (1, .int x11), (2, .int x13), (3, .int x14), (4, .int 1)]) h [1, 2, 3, 4, 0] rfl ?_
      refine Q_X12_alone_53 hρ hn h hR  ?_ _ _ _ hD
      · intro x24 w25 hD
        refine g_aload_n h 0 t_X12_alone_80 rfl ?_
        refine g_getR h 119 40 151 fl_12_78 rfl (by decide) rfl t_X12_alone_81 ?_
        refine g_iload h 4 t_X12_alone_84 rfl ?_
        refine g_iload h 4 t_X12_alone_86 rfl ?_
        refine g_iast h 151 rfl (by decide) t_X12_alone_88 hD (fun w26 hD => ?_)
        refine g_iload_n h 2 t_X12_alone_89 rfl ?_
        refine g_iload h 4 t_X12_alone_90 rfl ?_
        refine g_mmax h (st := []) (vtb_at 1619 (by decide +kernel) rfl) (Nat.le_of_ble_eq_true rfl) t_X12_alone_92 ?_
        refine g_bdI hD (fun x27 hD => ?_)
        refine g_istore_n (L' := [(2, .int x27), (0, .ref (ρ 119)), (1, .int x11), (3, .int x14), (4, .int x24)]) h hn t_X12_alone_95 rfl (by decide) rfl ?_
        obtain ⟨x28, ex28, hD⟩ := bd_ex hD
        refine g_iinc (v := x28) (L' := [(3, .int x28), (2, .int x27), (0, .ref (ρ 119)), (1, .int x11), (4, .int x24)]) h hn t_X12_alone_96 (k := 3) rfl (by rw [ex28]; rfl) (by decide) rfl ?_
        refine g_goto (tgt := 45) h t_X12_alone_99 (by decide) ?_
        refine g_loc (L' := [(0, .ref (ρ 119)), (1, .int x11), (2, .int x27), (3, .int x28)]) h [2, 3, 1, 0] rfl ?_
        exact ih x27 x28 _ hD
set_option maxRecDepth 20000 in
theorem Q_X12_alone_109 {l0 : Launch} {ρ : Nat → Nat} {cs : Nat → ClassId} {G : va_G} {X : Cx} (hρ : injN ρ) (hn : X.2.2.2.2.2.2.2.2.2.2.1 = 5) (h : Okx l0 ρ cs G X prog_14_method_81_code "SowingBoardsModel" 1) {rr : (Int32 × Wd)} (hR : ∀ pc L, decode prog_14_method_81_code pc = .ok (.ireturn, 1) → narrow .int (.int rr.1) = .int rr.1 → gG ρ cs G X pc L [.int rr.1] rr.2) {x32 : Int32} {k131 : Wd → Option (Int32 × Wd)} (hk131 : ∀ (w1 : Wd), k131 w1 = some rr → gG ρ cs G X 131 [(2, .int x32)] [] w1) : ∀ (n : Nat) (x34 : Int32) (w : Wd), L_X12_alone_109 x32 k131 n x34 w = some rr → gG ρ cs G X 109 [(0, .ref (ρ 119)), (2, .int x32), (3, .int x34)] [] w := by
  intro n
  induction n with
  | zero =>
    intro x34 w hD
    cases hD
  | succ n33 ih =>
    intro x34 w35 hD
    unfold L_X12_alone_109 at hD
    refine g_iload_n h 2 t_X12_alone_109 rfl ?_
    refine g_iload_n h 1 t_X12_alone_110 rfl ?_
    refine g_icmp_gt (tgt := 131) h t_X12_alone_111 (by decide) hD (fun hD => ?_) (fun hD => ?_)
    · refine g_loc (L' := [(2, .int x32)]) h [1] rfl ?_
      exact hk131 _ hD
    · refine g_aload_n h 0 t_X12_alone_114 rfl ?_
      refine g_aload_n h 0 t_X12_alone_115 rfl ?_
      refine g_getR h 119 40 151 fl_12_78 rfl (by decide) rfl t_X12_alone_116 ?_
      refine g_iload_n h 2 t_X12_alone_119 rfl ?_
      refine g_iald h 151 rfl (by decide) t_X12_alone_120 hD (fun hD => ?_)
      refine g_i2l h t_X12_alone_121 ?_
      refine g_callVV h 119 (As := [.long ((w35.1 151 x34.toNatClampNeg).toInt64)]) (st := []) my_X12_tell mi_X12_tell ml_12_260 rfl (by decide) rfl rfl rfl (Nat.le_of_ble_eq_true rfl) (by decide) t_X12_alone_122 hD (fun _ e => S_X12_tell hρ  e) (fun w36 hD => ?_)
      obtain ⟨x37, ex37, hD⟩ := bd_ex hD
      refine g_iinc (v := x37) (L' := [(3, .int x37), (0, .ref (ρ 119)), (2, .int x32)]) h hn t_X12_alone_125 (k := 2) rfl (by rw [ex37]; rfl) (by decide) rfl ?_
      refine g_goto (tgt := 109) h t_X12_alone_128 (by decide) ?_
      refine g_loc (L' := [(0, .ref (ρ 119)), (2, .int x32), (3, .int x37)]) h [1, 2, 0] rfl ?_
      exact ih x37 _ hD
set_option maxRecDepth 20000 in
theorem S_X12_alone {l0 : Launch} {ρ : Nat → Nat} {cs : Nat → ClassId} {G : va_G} (hρ : injN ρ) {p1 : Int32} {w : Wd} {rr : (Int32 × Wd)} (hD : D_X12_alone p1 w = some rr) : CtI l0 ρ cs G y_X12_alone prog_14_method_81_code 5 .int 1 [.ref (ρ 119), .int p1] w rr.1 rr.2 := by
  refine ctI_of hρ (by decide) (Nat.le_of_ble_eq_true rfl) (fun X hn h hR => ?_)
  unfold D_X12_alone at hD
  show gG ρ cs G X 0 [(0, .ref (ρ 119)), (1, .int p1)] [] w
  refine g_aload_n h 0 t_X12_alone_0 rfl ?_
  refine g_iconst (v := 0) h t_X12_alone_1 (by decide) ?_
  refine g_putI h 119 7 fl_12_109 fp_12_7 rfl (by decide) rfl t_X12_alone_2 hD (fun w1 hD => ?_)
  refine g_iload_n h 1 t_X12_alone_5 rfl ?_
  refine g_iconst (v := 0) h t_X12_alone_6 (by decide) ?_
  refine g_bipush (v := 99) h t_X12_alone_7 (by decide) ?_
  refine g_callSI h (As := [.int p1, .int 0, .int 99]) (st := []) my_X12_in ms_X12_in ml_12_118 rfl rfl (Nat.le_of_ble_eq_true rfl) (by decide) t_X12_alone_9 hD (fun _ _ e => S_X12_in hρ  e) (fun x3 w2 hD => ?_)
  refine g_if_ne (tgt := 17) h t_X12_alone_12 (by decide) hD (fun hD => ?_) (fun hD => ?_)
  · refine g_iconst (v := 0) h t_X12_alone_17 (by decide) ?_
    refine g_istore_n (L' := [(2, .int 0), (0, .ref (ρ 119)), (1, .int p1)]) h hn t_X12_alone_18 rfl (by decide) rfl ?_
    refine g_loc (L' := [(0, .ref (ρ 119)), (1, .int p1), (2, .int 0)]) h [1, 2, 0] rfl ?_
    refine Q_X12_alone_19 hρ hn h hR  ?_ _ _ _ hD
    · intro w10 hD
      refine g_iconst (v := 0) h t_X12_alone_41 (by decide) ?_
      refine g_istore_n (L' := [(2, .int 0), (0, .ref (ρ 119)), (1, .int p1)]) h hn t_X12_alone_42 rfl (by decide) rfl ?_
      refine g_iconst (v := 0) h t_X12_alone_43 (by decide) ?_
      refine g_istore_n (L' := [(3, .int 0), (2, .int 0), (0, .ref (ρ 119)), (1, .int p1)]) h hn t_X12_alone_44 rfl (by decide) rfl ?_
      refine g_loc (L' := [(0, .ref (ρ 119)), (1, .int p1), (2, .int 0), (3, .int 0)]) h [2, 3, 1, 0] rfl ?_
      refine Q_X12_alone_45 hρ hn h hR  ?_ _ _ _ _ hD
      · intro x29 w30 hD
        refine g_aload_n h 0 t_X12_alone_102 rfl ?_
        refine g_iconst (v := 0) h t_X12_alone_103 (by decide) ?_
        refine g_putI h 119 6 fl_12_112 fp_12_6 rfl (by decide) rfl t_X12_alone_104 hD (fun w31 hD => ?_)
        refine g_iconst (v := 1) h t_X12_alone_107 (by decide) ?_
        refine g_istore_n (L' := [(3, .int 1), (0, .ref (ρ 119)), (2, .int x29)]) h hn t_X12_alone_108 rfl (by decide) rfl ?_
        refine g_loc (L' := [(0, .ref (ρ 119)), (2, .int x29), (3, .int 1)]) h [1, 2, 0] rfl ?_
        refine Q_X12_alone_109 hρ hn h hR  ?_ _ _ _ hD
        · intro w38 hD
          refine g_iload_n h 0 t_X12_alone_131 rfl ?_
          obtain rfl := Option.some.inj hD
          exact hR _ _ t_X12_alone_132 rfl
  · refine g_iconst (v := (-1)) h t_X12_alone_15 (by decide) ?_
    obtain rfl := Option.some.inj hD
    exact hR _ _ t_X12_alone_16 rfl
def L_X12_comes_13 (k54 : Int32 → Wd → Option (Int32 × Wd)) : Nat → Int32 → Wd → Option (Int32 × Wd)
  | 0, _, _ => none
  | n3 + 1, x4, w5 =>
    bc (D_X12_fine w5) fun x7 w6 => if x7 = 0 then (k54 x4 w6) else (bd (fun (w8 : Wd) => bc (D_X12_oneOf 48 10 w8) fun x11 w10 => if ib (x4 + 1) 24 then bd (wI w10 151 (x4 + 1).toNatClampNeg x11) (fun w12 => bd (x4 + 1) fun x13 => L_X12_comes_13 k54 n3 x13 w12) else none) fun k9 => if x4 = 0 then (k9 w6) else (bc (D_X12_here w6) fun x15 w14 => if x15 = (-1) then (k54 x4 w14) else (k9 w14)))
def L_X12_comes_103 (x26 : Int32) (x27 : Int32) (x28 : Int32) (k126 : Wd → Option (Int32 × Wd)) : Nat → Int32 → Wd → Option (Int32 × Wd)
  | 0, _, _ => none
  | n29 + 1, x30, w31 =>
    if x28 ≤ x30 then (k126 w31) else (if ib x30 24 then (if ib x30 24 then bd (wI w31 151 x30.toNatClampNeg ((w31.1 151 x30.toNatClampNeg) + 1)) (fun w32 => bd (x30 + 1) fun x33 => L_X12_comes_103 x26 x27 x28 k126 n29 x33 w32) else none) else none)
def L_X12_comes_72 (x20 : Int32) (k134 : Int32 → Wd → Option (Int32 × Wd)) : Nat → Int32 → Int32 → Wd → Option (Int32 × Wd)
  | 0, _, _, _ => none
  | n21 + 1, x22, x23, w24 =>
    if x20 < x23 then (k134 x22 w24) else (if ib x23 24 then (if (w24.1 151 x23.toNatClampNeg) = x23 then (if ib x23 24 then bd (wI w24 151 x23.toNatClampNeg 0) (fun w25 => L_X12_comes_103 x20 x22 x23 (fun w34 => bd (x22 + 1) fun x35 => L_X12_comes_72 x20 k134 n21 x35 1 w34) FU 1 w25) else none) else (bd (x23 + 1) fun x36 => L_X12_comes_72 x20 k134 n21 x22 x36 w24)) else none)
def L_X12_comes_140 (x39 : Int32) (x40 : Int32) (k164 : Int32 → Wd → Option (Int32 × Wd)) : Nat → Int32 → Int32 → Wd → Option (Int32 × Wd)
  | 0, _, _, _ => none
  | n41 + 1, x42, x43, w44 =>
    if x39 < x43 then (k164 x42 w44) else (if ib x43 24 then (bd (x42 + (w44.1 151 x43.toNatClampNeg)) fun x45 => bd (x43 + 1) fun x46 => L_X12_comes_140 x39 x40 k164 n41 x45 x46 w44) else none)
def D_X12_comes  : Wd → Option (Int32 × Wd) := fun w =>
  bd (wI w 119 7 0) fun w1 => bv (D_X12_beginText 20 w1) fun w2 => L_X12_comes_13 (fun x16 w17 => bc (D_X12_wasRight w17) fun x19 w18 => if x19 = 0 then (some ((-1) - (w18.1 119 12), w18)) else (L_X12_comes_72 x16 (fun x37 w38 => L_X12_comes_140 x16 x37 (fun x47 w48 => bd (wI w48 119 6 0) fun w49 => bv (D_X12_tell x37.toInt64 w49) fun w50 => bv (D_X12_tell x47.toInt64 w50) fun w51 => some (x37, w51)) FU 0 1 w38) FU 0 1 w18)) FU 0 w2
set_option maxRecDepth 20000 in
theorem Q_X12_comes_13 {l0 : Launch} {ρ : Nat → Nat} {cs : Nat → ClassId} {G : va_G} {X : Cx} (hρ : injN ρ) (hn : X.2.2.2.2.2.2.2.2.2.2.1 = 6) (h : Okx l0 ρ cs G X prog_14_method_82_code "SowingBoardsModel" 3) {rr : (Int32 × Wd)} (hR : ∀ pc L, decode prog_14_method_82_code pc = .ok (.ireturn, 1) → narrow .int (.int rr.1) = .int rr.1 → gG ρ cs G X pc L [.int rr.1] rr.2)  {k54 : Int32 → Wd → Option (Int32 × Wd)} (hk54 : ∀ (z1 : Int32) (w1 : Wd), k54 z1 w1 = some rr → gG ρ cs G X 54 [(0, .ref (ρ 119)), (1, .int z1)] [] w1) : ∀ (n : Nat) (x4 : Int32) (w : Wd), L_X12_comes_13 k54 n x4 w = some rr → gG ρ cs G X 13 [(0, .ref (ρ 119)), (1, .int x4)] [] w := by
  intro n
  induction n with
  | zero =>
    intro x4 w hD
    cases hD
  | succ n3 ih =>
    intro x4 w5 hD
    unfold L_X12_comes_13 at hD
    refine g_aload_n h 0 t_X12_comes_13 rfl ?_
    refine g_callVI h 119 (As := []) (st := []) my_X12_fine mi_X12_fine ml_12_141 rfl (by decide) rfl rfl rfl (Nat.le_of_ble_eq_true rfl) (by decide) t_X12_comes_14 hD (fun _ _ e => S_X12_fine hρ  e) (fun x7 w6 hD => ?_)
    refine g_if_eq (tgt := 54) h t_X12_comes_17 (by decide) hD (fun hD => ?_) (fun hD => ?_)
    · refine g_loc (L' := [(0, .ref (ρ 119)), (1, .int x4)]) h [0, 1] rfl ?_
      exact hk54 x4 _ hD
    · refine g_iload_n h 1 t_X12_comes_20 rfl ?_
      refine g_join (P := fun k9 => ∀ (w8 : Wd), k9 w8 = some rr → gG ρ cs G X 32 [(0, .ref (ρ 119)), (1, .int x4)] [] w8) hD ?_ (fun k9 hk9 hD => ?_)
      · intro w8 hD
        refine g_aload_n h 0 t_X12_comes_32 rfl ?_
        refine g_getR h 119 40 151 fl_12_78 rfl (by decide) rfl t_X12_comes_33 ?_
        refine g_iload_n h 1 t_X12_comes_36 rfl ?_
        refine g_iconst (v := 1) h t_X12_comes_37 (by decide) ?_
        refine g_iadd h t_X12_comes_38 ?_
        refine g_aload_n h 0 t_X12_comes_39 rfl ?_
        refine g_bipush (v := 48) h t_X12_comes_40 (by decide) ?_
        refine g_bipush (v := 10) h t_X12_comes_42 (by decide) ?_
        refine g_callVI h 119 (As := [.int 48, .int 10]) (st := [.int (x4 + 1), .ref (ρ 151)]) my_X12_oneOf mi_X12_oneOf ml_12_157 rfl (by decide) rfl rfl rfl (Nat.le_of_ble_eq_true rfl) (by decide) t_X12_comes_44 hD (fun _ _ e => S_X12_oneOf hρ  e) (fun x11 w10 hD => ?_)
        refine g_iast h 151 rfl (by decide) t_X12_comes_47 hD (fun w12 hD => ?_)
        obtain ⟨x13, ex13, hD⟩ := bd_ex hD
        refine g_iinc (v := x13) (L' := [(1, .int x13), (0, .ref (ρ 119))]) h hn t_X12_comes_48 (k := 1) rfl (by rw [ex13]; rfl) (by decide) rfl ?_
        refine g_goto (tgt := 13) h t_X12_comes_51 (by decide) ?_
        refine g_loc (L' := [(0, .ref (ρ 119)), (1, .int x13)]) h [1, 0] rfl ?_
        exact ih x13 _ hD
      · refine g_if_eq (tgt := 32) h t_X12_comes_21 (by decide) hD (fun hD => ?_) (fun hD => ?_)
        · refine g_loc (L' := [(0, .ref (ρ 119)), (1, .int x4)]) h [0, 1] rfl ?_
          exact hk9 _ hD
        · refine g_aload_n h 0 t_X12_comes_24 rfl ?_
          refine g_callVI h 119 (As := []) (st := []) my_X12_here mi_X12_here ml_12_145 rfl (by decide) rfl rfl rfl (Nat.le_of_ble_eq_true rfl) (by decide) t_X12_comes_25 hD (fun _ _ e => S_X12_here hρ  e) (fun x15 w14 hD => ?_)
          refine g_iconst (v := (-1)) h t_X12_comes_28 (by decide) ?_
          refine g_icmp_eq (tgt := 54) h t_X12_comes_29 (by decide) hD (fun hD => ?_) (fun hD => ?_)
          · refine g_loc (L' := [(0, .ref (ρ 119)), (1, .int x4)]) h [0, 1] rfl ?_
            exact hk54 x4 _ hD
          · refine g_loc (L' := [(0, .ref (ρ 119)), (1, .int x4)]) h [0, 1] rfl ?_
            exact hk9 _ hD
set_option maxRecDepth 20000 in
theorem Q_X12_comes_103 {l0 : Launch} {ρ : Nat → Nat} {cs : Nat → ClassId} {G : va_G} {X : Cx} (hρ : injN ρ) (hn : X.2.2.2.2.2.2.2.2.2.2.1 = 6) (h : Okx l0 ρ cs G X prog_14_method_82_code "SowingBoardsModel" 3) {rr : (Int32 × Wd)} (hR : ∀ pc L, decode prog_14_method_82_code pc = .ok (.ireturn, 1) → narrow .int (.int rr.1) = .int rr.1 → gG ρ cs G X pc L [.int rr.1] rr.2) {x26 : Int32} {x27 : Int32} {x28 : Int32} {k126 : Wd → Option (Int32 × Wd)} (hk126 : ∀ (w1 : Wd), k126 w1 = some rr → gG ρ cs G X 126 [(0, .ref (ρ 119)), (1, .int x26), (2, .int x27)] [] w1) : ∀ (n : Nat) (x30 : Int32) (w : Wd), L_X12_comes_103 x26 x27 x28 k126 n x30 w = some rr → gG ρ cs G X 103 [(0, .ref (ρ 119)), (1, .int x26), (2, .int x27), (3, .int x28), (4, .int x30)] [] w := by
  intro n
  induction n with
  | zero =>
    intro x30 w hD
    cases hD
  | succ n29 ih =>
    intro x30 w31 hD
    unfold L_X12_comes_103 at hD
    refine g_iload h 4 t_X12_comes_103 rfl ?_
    refine g_iload_n h 3 t_X12_comes_105 rfl ?_
    refine g_icmp_ge (tgt := 126) h t_X12_comes_106 (by decide) hD (fun hD => ?_) (fun hD => ?_)
    · refine g_loc (L' := [(0, .ref (ρ 119)), (1, .int x26), (2, .int x27)]) h [0, 1, 2] rfl ?_
      exact hk126 _ hD
    · refine g_aload_n h 0 t_X12_comes_109 rfl ?_
      refine g_getR h 119 40 151 fl_12_78 rfl (by decide) rfl t_X12_comes_110 ?_
      refine g_iload h 4 t_X12_comes_113 rfl ?_
      refine g_dup2 h t_X12_comes_115 rfl rfl ?_
      refine g_iald h 151 rfl (by decide) t_X12_comes_116 hD (fun hD => ?_)
      refine g_iconst (v := 1) h t_X12_comes_117 (by decide) ?_
      refine g_iadd h t_X12_comes_118 ?_
      refine g_iast h 151 rfl (by decide) t_X12_comes_119 hD (fun w32 hD => ?_)
      obtain ⟨x33, ex33, hD⟩ := bd_ex hD
      refine g_iinc (v := x33) (L' := [(4, .int x33), (0, .ref (ρ 119)), (1, .int x26), (2, .int x27), (3, .int x28)]) h hn t_X12_comes_120 (k := 4) rfl (by rw [ex33]; rfl) (by decide) rfl ?_
      refine g_goto (tgt := 103) h t_X12_comes_123 (by decide) ?_
      refine g_loc (L' := [(0, .ref (ρ 119)), (1, .int x26), (2, .int x27), (3, .int x28), (4, .int x33)]) h [1, 2, 3, 4, 0] rfl ?_
      exact ih x33 _ hD
set_option maxRecDepth 20000 in
theorem Q_X12_comes_72 {l0 : Launch} {ρ : Nat → Nat} {cs : Nat → ClassId} {G : va_G} {X : Cx} (hρ : injN ρ) (hn : X.2.2.2.2.2.2.2.2.2.2.1 = 6) (h : Okx l0 ρ cs G X prog_14_method_82_code "SowingBoardsModel" 3) {rr : (Int32 × Wd)} (hR : ∀ pc L, decode prog_14_method_82_code pc = .ok (.ireturn, 1) → narrow .int (.int rr.1) = .int rr.1 → gG ρ cs G X pc L [.int rr.1] rr.2) {x20 : Int32} {k134 : Int32 → Wd → Option (Int32 × Wd)} (hk134 : ∀ (z2 : Int32) (w1 : Wd), k134 z2 w1 = some rr → gG ρ cs G X 134 [(0, .ref (ρ 119)), (1, .int x20), (2, .int z2)] [] w1) : ∀ (n : Nat) (x22 : Int32) (x23 : Int32) (w : Wd), L_X12_comes_72 x20 k134 n x22 x23 w = some rr → gG ρ cs G X 72 [(0, .ref (ρ 119)), (1, .int x20), (2, .int x22), (3, .int x23)] [] w := by
  intro n
  induction n with
  | zero =>
    intro x22 x23 w hD
    cases hD
  | succ n21 ih =>
    intro x22 x23 w24 hD
    unfold L_X12_comes_72 at hD
    refine g_iload_n h 3 t_X12_comes_72 rfl ?_
    refine g_iload_n h 1 t_X12_comes_73 rfl ?_
    refine g_icmp_gt (tgt := 134) h t_X12_comes_74 (by decide) hD (fun hD => ?_) (fun hD => ?_)
    · refine g_loc (L' := [(0, .ref (ρ 119)), (1, .int x20), (2, .int x22)]) h [0, 1, 2] rfl ?_
      exact hk134 x22 _ hD
    · refine g_aload_n h 0 t_X12_comes_77 rfl ?_
      refine g_getR h 119 40 151 fl_12_78 rfl (by decide) rfl t_X12_comes_78 ?_
      refine g_iload_n h 3 t_X12_comes_81 rfl ?_
      refine g_iald h 151 rfl (by decide) t_X12_comes_82 hD (fun hD => ?_)
      refine g_iload_n h 3 t_X12_comes_83 rfl ?_
      refine g_icmp_eq (tgt := 93) h t_X12_comes_84 (by decide) hD (fun hD => ?_) (fun hD => ?_)
      · refine g_aload_n h 0 t_X12_comes_93 rfl ?_
        refine g_getR h 119 40 151 fl_12_78 rfl (by decide) rfl t_X12_comes_94 ?_
        refine g_iload_n h 3 t_X12_comes_97 rfl ?_
        refine g_iconst (v := 0) h t_X12_comes_98 (by decide) ?_
        refine g_iast h 151 rfl (by decide) t_X12_comes_99 hD (fun w25 hD => ?_)
        refine g_iconst (v := 1) h t_X12_comes_100 (by decide) ?_
        refine g_istore (L' := [(4, .int 1), (0, .ref (ρ 119)), (1, .int x20), (2, .int x22), (3, .int x23)]) h hn t_X12_comes_101 (by decide) rfl ?_
        refine g_loc (L' := [(0, .ref (ρ 119)), (1, .int x20), (2, .int x22), (3, .int x23), (4, .int 1)]) h [1, 2, 3, 4, 0] rfl ?_
        refine Q_X12_comes_103 hρ hn h hR  ?_ _ _ _ hD
        · intro w34 hD
          obtain ⟨x35, ex35, hD⟩ := bd_ex hD
          refine g_iinc (v := x35) (L' := [(2, .int x35), (0, .ref (ρ 119)), (1, .int x20)]) h hn t_X12_comes_126 (k := 2) rfl (by rw [ex35]; rfl) (by decide) rfl ?_
          refine g_iconst (v := 1) h t_X12_comes_129 (by decide) ?_
          refine g_istore_n (L' := [(3, .int 1), (2, .int x35), (0, .ref (ρ 119)), (1, .int x20)]) h hn t_X12_comes_130 rfl (by decide) rfl ?_
          refine g_goto (tgt := 72) h t_X12_comes_131 (by decide) ?_
          refine g_loc (L' := [(0, .ref (ρ 119)), (1, .int x20), (2, .int x35), (3, .int 1)]) h [2, 3, 1, 0] rfl ?_
          exact ih x35 1 _ hD
      · obtain ⟨x36, ex36, hD⟩ := bd_ex hD
        refine g_iinc (v := x36) (L' := [(3, .int x36), (0, .ref (ρ 119)), (1, .int x20), (2, .int x22)]) h hn t_X12_comes_87 (k := 3) rfl (by rw [ex36]; rfl) (by decide) rfl ?_
        refine g_goto (tgt := 72) h t_X12_comes_90 (by decide) ?_
        refine g_loc (L' := [(0, .ref (ρ 119)), (1, .int x20), (2, .int x22), (3, .int x36)]) h [1, 2, 3, 0] rfl ?_
        exact ih x22 x36 _ hD
set_option maxRecDepth 20000 in
theorem Q_X12_comes_140 {l0 : Launch} {ρ : Nat → Nat} {cs : Nat → ClassId} {G : va_G} {X : Cx} (hρ : injN ρ) (hn : X.2.2.2.2.2.2.2.2.2.2.1 = 6) (h : Okx l0 ρ cs G X prog_14_method_82_code "SowingBoardsModel" 3) {rr : (Int32 × Wd)} (hR : ∀ pc L, decode prog_14_method_82_code pc = .ok (.ireturn, 1) → narrow .int (.int rr.1) = .int rr.1 → gG ρ cs G X pc L [.int rr.1] rr.2) {x39 : Int32} {x40 : Int32} {k164 : Int32 → Wd → Option (Int32 × Wd)} (hk164 : ∀ (z4 : Int32) (w1 : Wd), k164 z4 w1 = some rr → gG ρ cs G X 164 [(0, .ref (ρ 119)), (2, .int x40), (4, .int z4)] [] w1) : ∀ (n : Nat) (x42 : Int32) (x43 : Int32) (w : Wd), L_X12_comes_140 x39 x40 k164 n x42 x43 w = some rr → gG ρ cs G X 140 [(0, .ref (ρ 119)), (1, .int x39), (2, .int x40), (4, .int x42), (5, .int x43)] [] w := by
  intro n
  induction n with
  | zero =>
    intro x42 x43 w hD
    cases hD
  | succ n41 ih =>
    intro x42 x43 w44 hD
    unfold L_X12_comes_140 at hD
    refine g_iload h 4 t_X12_comes_140 rfl ?_
    refine g_iload_n h 1 t_X12_comes_142 rfl ?_
    refine g_icmp_gt (tgt := 164) h t_X12_comes_143 (by decide) hD (fun hD => ?_) (fun hD => ?_)
    · refine g_loc (L' := [(0, .ref (ρ 119)), (2, .int x40), (4, .int x42)]) h [0, 2, 3] rfl ?_
      exact hk164 x42 _ hD
    · refine g_iload h 3 t_X12_comes_146 rfl ?_
      refine g_aload_n h 0 t_X12_comes_148 rfl ?_
      refine g_getR h 119 40 151 fl_12_78 rfl (by decide) rfl t_X12_comes_149 ?_
      refine g_iload h 4 t_X12_comes_152 rfl ?_
      refine g_iald h 151 rfl (by decide) t_X12_comes_154 hD (fun hD => ?_)
      refine g_iadd h t_X12_comes_155 ?_
      refine g_bdI hD (fun x45 hD => ?_)
      refine g_istore (L' := [(4, .int x45), (0, .ref (ρ 119)), (1, .int x39), (2, .int x40), (5, .int x43)]) h hn t_X12_comes_156 (by decide) rfl ?_
      obtain ⟨x46, ex46, hD⟩ := bd_ex hD
      refine g_iinc (v := x46) (L' := [(5, .int x46), (4, .int x45), (0, .ref (ρ 119)), (1, .int x39), (2, .int x40)]) h hn t_X12_comes_158 (k := 4) rfl (by rw [ex46]; rfl) (by decide) rfl ?_
      refine g_goto (tgt := 140) h t_X12_comes_161 (by decide) ?_
      refine g_loc (L' := [(0, .ref (ρ 119)), (1, .int x39), (2, .int x40), (4, .int x45), (5, .int x46)]) h [2, 3, 4, 1, 0] rfl ?_
      exact ih x45 x46 _ hD
set_option maxRecDepth 20000 in
theorem S_X12_comes {l0 : Launch} {ρ : Nat → Nat} {cs : Nat → ClassId} {G : va_G} (hρ : injN ρ)  {w : Wd} {rr : (Int32 × Wd)} (hD : D_X12_comes w = some rr) : CtI l0 ρ cs G y_X12_comes prog_14_method_82_code 6 .int 3 [.ref (ρ 119)] w rr.1 rr.2 := by
  refine ctI_of hρ (by decide) (Nat.le_of_ble_eq_true rfl) (fun X hn h hR => ?_)
  unfold D_X12_comes at hD
  show gG ρ cs G X 0 [(0, .ref (ρ 119))] [] w
  refine g_aload_n h 0 t_X12_comes_0 rfl ?_
  refine g_iconst (v := 0) h t_X12_comes_1 (by decide) ?_
  refine g_putI h 119 7 fl_12_109 fp_12_7 rfl (by decide) rfl t_X12_comes_2 hD (fun w1 hD => ?_)
  refine g_aload_n h 0 t_X12_comes_5 rfl ?_
  refine g_bipush (v := 20) h t_X12_comes_6 (by decide) ?_
  refine g_callVV h 119 (As := [.int 20]) (st := []) my_X12_beginText mi_X12_beginText ml_12_161 rfl (by decide) rfl rfl rfl (Nat.le_of_ble_eq_true rfl) (by decide) t_X12_comes_8 hD (fun _ e => S_X12_beginText hρ  e) (fun w2 hD => ?_)
  refine g_iconst (v := 0) h t_X12_comes_11 (by decide) ?_
  refine g_istore_n (L' := [(1, .int 0), (0, .ref (ρ 119))]) h hn t_X12_comes_12 rfl (by decide) rfl ?_
  refine g_loc (L' := [(0, .ref (ρ 119)), (1, .int 0)]) h [1, 0] rfl ?_
  refine Q_X12_comes_13 hρ hn h hR  ?_ _ _ _ hD
  · intro x16 w17 hD
    refine g_aload_n h 0 t_X12_comes_54 rfl ?_
    refine g_callVI h 119 (As := []) (st := []) my_X12_wasRight mi_X12_wasRight ml_12_164 rfl (by decide) rfl rfl rfl (Nat.le_of_ble_eq_true rfl) (by decide) t_X12_comes_55 hD (fun _ _ e => S_X12_wasRight hρ  e) (fun x19 w18 hD => ?_)
    refine g_if_ne (tgt := 68) h t_X12_comes_58 (by decide) hD (fun hD => ?_) (fun hD => ?_)
    · refine g_iconst (v := 0) h t_X12_comes_68 (by decide) ?_
      refine g_istore_n (L' := [(2, .int 0), (0, .ref (ρ 119)), (1, .int x16)]) h hn t_X12_comes_69 rfl (by decide) rfl ?_
      refine g_iconst (v := 1) h t_X12_comes_70 (by decide) ?_
      refine g_istore_n (L' := [(3, .int 1), (2, .int 0), (0, .ref (ρ 119)), (1, .int x16)]) h hn t_X12_comes_71 rfl (by decide) rfl ?_
      refine g_loc (L' := [(0, .ref (ρ 119)), (1, .int x16), (2, .int 0), (3, .int 1)]) h [2, 3, 1, 0] rfl ?_
      refine Q_X12_comes_72 hρ hn h hR  ?_ _ _ _ _ hD
      · intro x37 w38 hD
        refine g_iconst (v := 0) h t_X12_comes_134 (by decide) ?_
        refine g_istore (L' := [(4, .int 0), (0, .ref (ρ 119)), (1, .int x16), (2, .int x37)]) h hn t_X12_comes_135 (by decide) rfl ?_
        refine g_iconst (v := 1) h t_X12_comes_137 (by decide) ?_
        refine g_istore (L' := [(5, .int 1), (4, .int 0), (0, .ref (ρ 119)), (1, .int x16), (2, .int x37)]) h hn t_X12_comes_138 (by decide) rfl ?_
        refine g_loc (L' := [(0, .ref (ρ 119)), (1, .int x16), (2, .int x37), (4, .int 0), (5, .int 1)]) h [2, 3, 4, 1, 0] rfl ?_
        refine Q_X12_comes_140 hρ hn h hR  ?_ _ _ _ _ hD
        · intro x47 w48 hD
          refine g_aload_n h 0 t_X12_comes_164 rfl ?_
          refine g_iconst (v := 0) h t_X12_comes_165 (by decide) ?_
          refine g_putI h 119 6 fl_12_112 fp_12_6 rfl (by decide) rfl t_X12_comes_166 hD (fun w49 hD => ?_)
          refine g_aload_n h 0 t_X12_comes_169 rfl ?_
          refine g_iload_n h 1 t_X12_comes_170 rfl ?_
          refine g_i2l h t_X12_comes_171 ?_
          refine g_callVV h 119 (As := [.long x37.toInt64]) (st := []) my_X12_tell mi_X12_tell ml_12_260 rfl (by decide) rfl rfl rfl (Nat.le_of_ble_eq_true rfl) (by decide) t_X12_comes_172 hD (fun _ e => S_X12_tell hρ  e) (fun w50 hD => ?_)
          refine g_aload_n h 0 t_X12_comes_175 rfl ?_
          refine g_iload h 2 t_X12_comes_176 rfl ?_
          refine g_i2l h t_X12_comes_178 ?_
          refine g_callVV h 119 (As := [.long x47.toInt64]) (st := []) my_X12_tell mi_X12_tell ml_12_260 rfl (by decide) rfl rfl rfl (Nat.le_of_ble_eq_true rfl) (by decide) t_X12_comes_179 hD (fun _ e => S_X12_tell hρ  e) (fun w51 hD => ?_)
          refine g_iload_n h 1 t_X12_comes_182 rfl ?_
          obtain rfl := Option.some.inj hD
          exact hR _ _ t_X12_comes_183 rfl
    · refine g_iconst (v := (-1)) h t_X12_comes_61 (by decide) ?_
      refine g_aload_n h 0 t_X12_comes_62 rfl ?_
      refine g_getI h 119 12 fl_12_134 rfl (by decide) rfl t_X12_comes_63 ?_
      refine g_isub h t_X12_comes_66 ?_
      obtain rfl := Option.some.inj hD
      exact hR _ _ t_X12_comes_67 rfl
def D_X12_highOf (p0 : Int32) : Wd → Option (Int32 × Wd) := fun w =>
  if p0 = 0 then (some (1, w)) else (if p0 = 4 then (some (1, w)) else (if p0 = 3 then (some (5, w)) else (some (9, w))))
set_option maxRecDepth 20000 in
theorem S_X12_highOf {l0 : Launch} {ρ : Nat → Nat} {cs : Nat → ClassId} {G : va_G} (hρ : injN ρ) {p0 : Int32} {w : Wd} {rr : (Int32 × Wd)} (hD : D_X12_highOf p0 w = some rr) : CtI l0 ρ cs G y_X12_highOf prog_14_method_83_code 1 .int 0 [.int p0] w rr.1 rr.2 := by
  refine ctI_of hρ (by decide) (Nat.le_of_ble_eq_true rfl) (fun X hn h hR => ?_)
  unfold D_X12_highOf at hD
  show gG ρ cs G X 0 [(0, .int p0)] [] w
  refine g_iload_n h 0 t_X12_highOf_0 rfl ?_
  refine g_if_eq (tgt := 9) h t_X12_highOf_1 (by decide) hD (fun hD => ?_) (fun hD => ?_)
  · refine g_iconst (v := 1) h t_X12_highOf_9 (by decide) ?_
    refine g_goto (tgt := 24) h t_X12_highOf_10 (by decide) ?_
    obtain rfl := Option.some.inj hD
    exact hR _ _ t_X12_highOf_24 rfl
  · refine g_iload_n h 0 t_X12_highOf_4 rfl ?_
    refine g_iconst (v := 4) h t_X12_highOf_5 (by decide) ?_
    refine g_icmp_ne (tgt := 13) h t_X12_highOf_6 (by decide) hD (fun hD => ?_) (fun hD => ?_)
    · refine g_iload_n h 0 t_X12_highOf_13 rfl ?_
      refine g_iconst (v := 3) h t_X12_highOf_14 (by decide) ?_
      refine g_icmp_ne (tgt := 22) h t_X12_highOf_15 (by decide) hD (fun hD => ?_) (fun hD => ?_)
      · refine g_bipush (v := 9) h t_X12_highOf_22 (by decide) ?_
        obtain rfl := Option.some.inj hD
        exact hR _ _ t_X12_highOf_24 rfl
      · refine g_iconst (v := 5) h t_X12_highOf_18 (by decide) ?_
        refine g_goto (tgt := 24) h t_X12_highOf_19 (by decide) ?_
        obtain rfl := Option.some.inj hD
        exact hR _ _ t_X12_highOf_24 rfl
    · refine g_iconst (v := 1) h t_X12_highOf_9 (by decide) ?_
      refine g_goto (tgt := 24) h t_X12_highOf_10 (by decide) ?_
      obtain rfl := Option.some.inj hD
      exact hR _ _ t_X12_highOf_24 rfl
def D_X12_heard (p1 : Int32) (p2 : Int32) : Wd → Option (Int32 × Wd) := fun w =>
  bd (wI w 119 7 0) fun w1 => bc (D_X12_in p1 0 4 w1) fun x3 w2 => if x3 = 0 then (some ((-1), w2)) else (bc (D_X12_highOf p1 w2) fun x5 w4 => bc (D_X12_in p2 0 x5 w4) fun x7 w6 => if x7 = 0 then (some ((-1), w6)) else (if (w6.1 119 43) = 12 then (some ((-1), w6)) else (if ib (w6.1 119 43) 12 then bd (wI w6 152 (w6.1 119 43).toNatClampNeg p1) (fun w8 => if ib (w8.1 119 43) 12 then bd (wI w8 153 (w8.1 119 43).toNatClampNeg p2) (fun w9 => bd (wI w9 119 43 ((w9.1 119 43) + 1)) fun w10 => some (w10.1 119 43, w10)) else none) else none)))
set_option maxRecDepth 20000 in
theorem S_X12_heard {l0 : Launch} {ρ : Nat → Nat} {cs : Nat → ClassId} {G : va_G} (hρ : injN ρ) {p1 : Int32} {p2 : Int32} {w : Wd} {rr : (Int32 × Wd)} (hD : D_X12_heard p1 p2 w = some rr) : CtI l0 ρ cs G y_X12_heard prog_14_method_84_code 3 .int 1 [.ref (ρ 119), .int p1, .int p2] w rr.1 rr.2 := by
  refine ctI_of hρ (by decide) (Nat.le_of_ble_eq_true rfl) (fun X hn h hR => ?_)
  unfold D_X12_heard at hD
  show gG ρ cs G X 0 [(0, .ref (ρ 119)), (1, .int p1), (2, .int p2)] [] w
  refine g_aload_n h 0 t_X12_heard_0 rfl ?_
  refine g_iconst (v := 0) h t_X12_heard_1 (by decide) ?_
  refine g_putI h 119 7 fl_12_109 fp_12_7 rfl (by decide) rfl t_X12_heard_2 hD (fun w1 hD => ?_)
  refine g_iload_n h 1 t_X12_heard_5 rfl ?_
  refine g_iconst (v := 0) h t_X12_heard_6 (by decide) ?_
  refine g_iconst (v := 4) h t_X12_heard_7 (by decide) ?_
  refine g_callSI h (As := [.int p1, .int 0, .int 4]) (st := []) my_X12_in ms_X12_in ml_12_118 rfl rfl (Nat.le_of_ble_eq_true rfl) (by decide) t_X12_heard_8 hD (fun _ _ e => S_X12_in hρ  e) (fun x3 w2 hD => ?_)
  refine g_if_eq (tgt := 35) h t_X12_heard_11 (by decide) hD (fun hD => ?_) (fun hD => ?_)
  · refine g_iconst (v := (-1)) h t_X12_heard_35 (by decide) ?_
    obtain rfl := Option.some.inj hD
    exact hR _ _ t_X12_heard_36 rfl
  · refine g_iload_n h 2 t_X12_heard_14 rfl ?_
    refine g_iconst (v := 0) h t_X12_heard_15 (by decide) ?_
    refine g_iload_n h 1 t_X12_heard_16 rfl ?_
    refine g_callSI h (As := [.int p1]) (st := [.int 0, .int p2]) my_X12_highOf ms_X12_highOf ml_12_351 rfl rfl (Nat.le_of_ble_eq_true rfl) (by decide) t_X12_heard_17 hD (fun _ _ e => S_X12_highOf hρ  e) (fun x5 w4 hD => ?_)
    refine g_callSI h (As := [.int p2, .int 0, .int x5]) (st := []) my_X12_in ms_X12_in ml_12_118 rfl rfl (Nat.le_of_ble_eq_true rfl) (by decide) t_X12_heard_20 hD (fun _ _ e => S_X12_in hρ  e) (fun x7 w6 hD => ?_)
    refine g_if_eq (tgt := 35) h t_X12_heard_23 (by decide) hD (fun hD => ?_) (fun hD => ?_)
    · refine g_iconst (v := (-1)) h t_X12_heard_35 (by decide) ?_
      obtain rfl := Option.some.inj hD
      exact hR _ _ t_X12_heard_36 rfl
    · refine g_aload_n h 0 t_X12_heard_26 rfl ?_
      refine g_getI h 119 43 fl_12_354 rfl (by decide) rfl t_X12_heard_27 ?_
      refine g_bipush (v := 12) h t_X12_heard_30 (by decide) ?_
      refine g_icmp_ne (tgt := 37) h t_X12_heard_32 (by decide) hD (fun hD => ?_) (fun hD => ?_)
      · refine g_aload_n h 0 t_X12_heard_37 rfl ?_
        refine g_getR h 119 41 152 fl_12_81 rfl (by decide) rfl t_X12_heard_38 ?_
        refine g_aload_n h 0 t_X12_heard_41 rfl ?_
        refine g_getI h 119 43 fl_12_354 rfl (by decide) rfl t_X12_heard_42 ?_
        refine g_iload_n h 1 t_X12_heard_45 rfl ?_
        refine g_iast h 152 rfl (by decide) t_X12_heard_46 hD (fun w8 hD => ?_)
        refine g_aload_n h 0 t_X12_heard_47 rfl ?_
        refine g_getR h 119 42 153 fl_12_84 rfl (by decide) rfl t_X12_heard_48 ?_
        refine g_aload_n h 0 t_X12_heard_51 rfl ?_
        refine g_getI h 119 43 fl_12_354 rfl (by decide) rfl t_X12_heard_52 ?_
        refine g_iload_n h 2 t_X12_heard_55 rfl ?_
        refine g_iast h 153 rfl (by decide) t_X12_heard_56 hD (fun w9 hD => ?_)
        refine g_aload_n h 0 t_X12_heard_57 rfl ?_
        refine g_dup h t_X12_heard_58 rfl ?_
        refine g_getI h 119 43 fl_12_354 rfl (by decide) rfl t_X12_heard_59 ?_
        refine g_iconst (v := 1) h t_X12_heard_62 (by decide) ?_
        refine g_iadd h t_X12_heard_63 ?_
        refine g_putI h 119 43 fl_12_354 fp_12_43 rfl (by decide) rfl t_X12_heard_64 hD (fun w10 hD => ?_)
        refine g_aload_n h 0 t_X12_heard_67 rfl ?_
        refine g_getI h 119 43 fl_12_354 rfl (by decide) rfl t_X12_heard_68 ?_
        obtain rfl := Option.some.inj hD
        exact hR _ _ t_X12_heard_71 rfl
      · refine g_iconst (v := (-1)) h t_X12_heard_35 (by decide) ?_
        obtain rfl := Option.some.inj hD
        exact hR _ _ t_X12_heard_36 rfl
def D_X12_forget  : Wd → Option (Int32 × Wd) := fun w =>
  bd (wI w 119 7 0) fun w1 => bd (w1.1 119 43) fun x2 => bd (wI w1 119 43 0) fun w3 => some (x2, w3)
set_option maxRecDepth 20000 in
theorem S_X12_forget {l0 : Launch} {ρ : Nat → Nat} {cs : Nat → ClassId} {G : va_G} (hρ : injN ρ)  {w : Wd} {rr : (Int32 × Wd)} (hD : D_X12_forget w = some rr) : CtI l0 ρ cs G y_X12_forget prog_14_method_85_code 2 .int 0 [.ref (ρ 119)] w rr.1 rr.2 := by
  refine ctI_of hρ (by decide) (Nat.le_of_ble_eq_true rfl) (fun X hn h hR => ?_)
  unfold D_X12_forget at hD
  show gG ρ cs G X 0 [(0, .ref (ρ 119))] [] w
  refine g_aload_n h 0 t_X12_forget_0 rfl ?_
  refine g_iconst (v := 0) h t_X12_forget_1 (by decide) ?_
  refine g_putI h 119 7 fl_12_109 fp_12_7 rfl (by decide) rfl t_X12_forget_2 hD (fun w1 hD => ?_)
  refine g_aload_n h 0 t_X12_forget_5 rfl ?_
  refine g_getI h 119 43 fl_12_354 rfl (by decide) rfl t_X12_forget_6 ?_
  refine g_bdI hD (fun x2 hD => ?_)
  refine g_istore_n (L' := [(1, .int x2), (0, .ref (ρ 119))]) h hn t_X12_forget_9 rfl (by decide) rfl ?_
  refine g_aload_n h 1 t_X12_forget_10 rfl ?_
  refine g_iconst (v := 0) h t_X12_forget_11 (by decide) ?_
  refine g_putI h 119 43 fl_12_354 fp_12_43 rfl (by decide) rfl t_X12_forget_12 hD (fun w3 hD => ?_)
  refine g_iload_n h 0 t_X12_forget_15 rfl ?_
  obtain rfl := Option.some.inj hD
  exact hR _ _ t_X12_forget_16 rfl
