def y_X6_bind : MethodName := ⟨"SowingBoards$Rule", "bind", "(III)I"⟩
theorem t_X6_bind_0 : decode prog_8_method_9_code 0 = .ok (.iload_n 0, 1) := by decide +kernel
theorem t_X6_bind_1 : decode prog_8_method_9_code 1 = .ok (.lookupswitch 104 #[(42, 100), (43, 92), (45, 96), (60, 59), (61, 81), (62, 70)], 59) := by decide +kernel
theorem t_X6_bind_60 : decode prog_8_method_9_code 60 = .ok (.iload_n 1, 1) := by decide +kernel
theorem t_X6_bind_61 : decode prog_8_method_9_code 61 = .ok (.iload_n 2, 1) := by decide +kernel
theorem t_X6_bind_62 : decode prog_8_method_9_code 62 = .ok (.if_icmp .ge 7, 3) := by decide +kernel
theorem t_X6_bind_65 : decode prog_8_method_9_code 65 = .ok (.iconst 1, 1) := by decide +kernel
theorem t_X6_bind_66 : decode prog_8_method_9_code 66 = .ok (.goto 4, 3) := by decide +kernel
theorem t_X6_bind_69 : decode prog_8_method_9_code 69 = .ok (.iconst 0, 1) := by decide +kernel
theorem t_X6_bind_70 : decode prog_8_method_9_code 70 = .ok (.ireturn, 1) := by decide +kernel
theorem t_X6_bind_71 : decode prog_8_method_9_code 71 = .ok (.iload_n 1, 1) := by decide +kernel
theorem t_X6_bind_72 : decode prog_8_method_9_code 72 = .ok (.iload_n 2, 1) := by decide +kernel
theorem t_X6_bind_73 : decode prog_8_method_9_code 73 = .ok (.if_icmp .le 7, 3) := by decide +kernel
theorem t_X6_bind_76 : decode prog_8_method_9_code 76 = .ok (.iconst 1, 1) := by decide +kernel
theorem t_X6_bind_77 : decode prog_8_method_9_code 77 = .ok (.goto 4, 3) := by decide +kernel
theorem t_X6_bind_80 : decode prog_8_method_9_code 80 = .ok (.iconst 0, 1) := by decide +kernel
theorem t_X6_bind_81 : decode prog_8_method_9_code 81 = .ok (.ireturn, 1) := by decide +kernel
theorem t_X6_bind_82 : decode prog_8_method_9_code 82 = .ok (.iload_n 1, 1) := by decide +kernel
theorem t_X6_bind_83 : decode prog_8_method_9_code 83 = .ok (.iload_n 2, 1) := by decide +kernel
theorem t_X6_bind_84 : decode prog_8_method_9_code 84 = .ok (.if_icmp .ne 7, 3) := by decide +kernel
theorem t_X6_bind_87 : decode prog_8_method_9_code 87 = .ok (.iconst 1, 1) := by decide +kernel
theorem t_X6_bind_88 : decode prog_8_method_9_code 88 = .ok (.goto 4, 3) := by decide +kernel
theorem t_X6_bind_91 : decode prog_8_method_9_code 91 = .ok (.iconst 0, 1) := by decide +kernel
theorem t_X6_bind_92 : decode prog_8_method_9_code 92 = .ok (.ireturn, 1) := by decide +kernel
theorem t_X6_bind_93 : decode prog_8_method_9_code 93 = .ok (.iload_n 1, 1) := by decide +kernel
theorem t_X6_bind_94 : decode prog_8_method_9_code 94 = .ok (.iload_n 2, 1) := by decide +kernel
theorem t_X6_bind_95 : decode prog_8_method_9_code 95 = .ok (.iadd, 1) := by decide +kernel
theorem t_X6_bind_96 : decode prog_8_method_9_code 96 = .ok (.ireturn, 1) := by decide +kernel
theorem t_X6_bind_97 : decode prog_8_method_9_code 97 = .ok (.iload_n 1, 1) := by decide +kernel
theorem t_X6_bind_98 : decode prog_8_method_9_code 98 = .ok (.iload_n 2, 1) := by decide +kernel
theorem t_X6_bind_99 : decode prog_8_method_9_code 99 = .ok (.isub, 1) := by decide +kernel
theorem t_X6_bind_100 : decode prog_8_method_9_code 100 = .ok (.ireturn, 1) := by decide +kernel
theorem t_X6_bind_101 : decode prog_8_method_9_code 101 = .ok (.iload_n 1, 1) := by decide +kernel
theorem t_X6_bind_102 : decode prog_8_method_9_code 102 = .ok (.iload_n 2, 1) := by decide +kernel
theorem t_X6_bind_103 : decode prog_8_method_9_code 103 = .ok (.imul, 1) := by decide +kernel
theorem t_X6_bind_104 : decode prog_8_method_9_code 104 = .ok (.ireturn, 1) := by decide +kernel
theorem t_X6_bind_105 : decode prog_8_method_9_code 105 = .ok (.iload_n 2, 1) := by decide +kernel
theorem t_X6_bind_106 : decode prog_8_method_9_code 106 = .ok (.ifCond .ne 7, 3) := by decide +kernel
theorem t_X6_bind_109 : decode prog_8_method_9_code 109 = .ok (.iconst 0, 1) := by decide +kernel
theorem t_X6_bind_110 : decode prog_8_method_9_code 110 = .ok (.goto 6, 3) := by decide +kernel
theorem t_X6_bind_113 : decode prog_8_method_9_code 113 = .ok (.iload_n 1, 1) := by decide +kernel
theorem t_X6_bind_114 : decode prog_8_method_9_code 114 = .ok (.iload_n 2, 1) := by decide +kernel
theorem t_X6_bind_115 : decode prog_8_method_9_code 115 = .ok (.idiv, 1) := by decide +kernel
theorem t_X6_bind_116 : decode prog_8_method_9_code 116 = .ok (.ireturn, 1) := by decide +kernel
def y_X6_isThing : MethodName := ⟨"SowingBoards$Rule", "isThing", "(I)Z"⟩
theorem t_X6_isThing_0 : decode prog_8_method_7_code 0 = .ok (.ldc 51, 2) := by decide +kernel
theorem t_X6_isThing_2 : decode prog_8_method_7_code 2 = .ok (.iload_n 0, 1) := by decide +kernel
theorem t_X6_isThing_3 : decode prog_8_method_7_code 3 = .ok (.i2c, 1) := by decide +kernel
theorem t_X6_isThing_4 : decode prog_8_method_7_code 4 = .ok (.invokevirtual 53, 3) := by decide +kernel
theorem t_X6_isThing_7 : decode prog_8_method_7_code 7 = .ok (.ifCond .lt 7, 3) := by decide +kernel
theorem t_X6_isThing_10 : decode prog_8_method_7_code 10 = .ok (.iconst 1, 1) := by decide +kernel
theorem t_X6_isThing_11 : decode prog_8_method_7_code 11 = .ok (.goto 4, 3) := by decide +kernel
theorem t_X6_isThing_14 : decode prog_8_method_7_code 14 = .ok (.iconst 0, 1) := by decide +kernel
theorem t_X6_isThing_15 : decode prog_8_method_7_code 15 = .ok (.ireturn, 1) := by decide +kernel
def y_X6_thing : MethodName := ⟨"SowingBoards$Rule", "thing", "(ILSowingBoards$Move;)I"⟩
theorem t_X6_thing_0 : decode prog_8_method_8_code 0 = .ok (.iload_n 0, 1) := by decide +kernel
theorem t_X6_thing_1 : decode prog_8_method_8_code 1 = .ok (.tableswitch 133 97 116 #[100, 133, 133, 133, 128, 133, 133, 133, 133, 133, 133, 123, 133, 118, 133, 113, 133, 133, 133, 95], 95) := by decide +kernel
theorem t_X6_thing_96 : decode prog_8_method_8_code 96 = .ok (.aload_n 1, 1) := by decide +kernel
theorem t_X6_thing_97 : decode prog_8_method_8_code 97 = .ok (.getfield 30, 3) := by decide +kernel
theorem t_X6_thing_100 : decode prog_8_method_8_code 100 = .ok (.ireturn, 1) := by decide +kernel
theorem t_X6_thing_101 : decode prog_8_method_8_code 101 = .ok (.aload_n 1, 1) := by decide +kernel
theorem t_X6_thing_102 : decode prog_8_method_8_code 102 = .ok (.getfield 35, 3) := by decide +kernel
theorem t_X6_thing_105 : decode prog_8_method_8_code 105 = .ok (.ifCond .eq 7, 3) := by decide +kernel
theorem t_X6_thing_108 : decode prog_8_method_8_code 108 = .ok (.iconst 1, 1) := by decide +kernel
theorem t_X6_thing_109 : decode prog_8_method_8_code 109 = .ok (.goto 4, 3) := by decide +kernel
theorem t_X6_thing_112 : decode prog_8_method_8_code 112 = .ok (.iconst 0, 1) := by decide +kernel
theorem t_X6_thing_113 : decode prog_8_method_8_code 113 = .ok (.ireturn, 1) := by decide +kernel
theorem t_X6_thing_114 : decode prog_8_method_8_code 114 = .ok (.aload_n 1, 1) := by decide +kernel
theorem t_X6_thing_115 : decode prog_8_method_8_code 115 = .ok (.getfield 59, 3) := by decide +kernel
theorem t_X6_thing_118 : decode prog_8_method_8_code 118 = .ok (.ireturn, 1) := by decide +kernel
theorem t_X6_thing_119 : decode prog_8_method_8_code 119 = .ok (.aload_n 1, 1) := by decide +kernel
theorem t_X6_thing_120 : decode prog_8_method_8_code 120 = .ok (.getfield 62, 3) := by decide +kernel
theorem t_X6_thing_123 : decode prog_8_method_8_code 123 = .ok (.ireturn, 1) := by decide +kernel
theorem t_X6_thing_124 : decode prog_8_method_8_code 124 = .ok (.aload_n 1, 1) := by decide +kernel
theorem t_X6_thing_125 : decode prog_8_method_8_code 125 = .ok (.getfield 65, 3) := by decide +kernel
theorem t_X6_thing_128 : decode prog_8_method_8_code 128 = .ok (.ireturn, 1) := by decide +kernel
theorem t_X6_thing_129 : decode prog_8_method_8_code 129 = .ok (.aload_n 1, 1) := by decide +kernel
theorem t_X6_thing_130 : decode prog_8_method_8_code 130 = .ok (.getfield 68, 3) := by decide +kernel
theorem t_X6_thing_133 : decode prog_8_method_8_code 133 = .ok (.ireturn, 1) := by decide +kernel
theorem t_X6_thing_134 : decode prog_8_method_8_code 134 = .ok (.aload_n 1, 1) := by decide +kernel
theorem t_X6_thing_135 : decode prog_8_method_8_code 135 = .ok (.getfield 71, 3) := by decide +kernel
theorem t_X6_thing_138 : decode prog_8_method_8_code 138 = .ok (.ireturn, 1) := by decide +kernel
def y_X6_judge : MethodName := ⟨"SowingBoards$Rule", "judge", "(LSowingBoards$Move;)I"⟩
theorem t_X6_judge_0 : decode prog_8_method_6_code 0 = .ok (.aload_n 0, 1) := by decide +kernel
theorem t_X6_judge_1 : decode prog_8_method_6_code 1 = .ok (.getfield 16, 3) := by decide +kernel
theorem t_X6_judge_4 : decode prog_8_method_6_code 4 = .ok (.ifCond .ne 23, 3) := by decide +kernel
theorem t_X6_judge_7 : decode prog_8_method_6_code 7 = .ok (.aload_n 1, 1) := by decide +kernel
theorem t_X6_judge_8 : decode prog_8_method_6_code 8 = .ok (.getfield 30, 3) := by decide +kernel
theorem t_X6_judge_11 : decode prog_8_method_6_code 11 = .ok (.iconst 3, 1) := by decide +kernel
theorem t_X6_judge_12 : decode prog_8_method_6_code 12 = .ok (.imul, 1) := by decide +kernel
theorem t_X6_judge_13 : decode prog_8_method_6_code 13 = .ok (.aload_n 1, 1) := by decide +kernel
theorem t_X6_judge_14 : decode prog_8_method_6_code 14 = .ok (.getfield 35, 3) := by decide +kernel
theorem t_X6_judge_17 : decode prog_8_method_6_code 17 = .ok (.ifCond .eq 7, 3) := by decide +kernel
theorem t_X6_judge_20 : decode prog_8_method_6_code 20 = .ok (.iconst 2, 1) := by decide +kernel
theorem t_X6_judge_21 : decode prog_8_method_6_code 21 = .ok (.goto 4, 3) := by decide +kernel
theorem t_X6_judge_24 : decode prog_8_method_6_code 24 = .ok (.iconst 0, 1) := by decide +kernel
theorem t_X6_judge_25 : decode prog_8_method_6_code 25 = .ok (.iadd, 1) := by decide +kernel
theorem t_X6_judge_26 : decode prog_8_method_6_code 26 = .ok (.ireturn, 1) := by decide +kernel
theorem t_X6_judge_27 : decode prog_8_method_6_code 27 = .ok (.iconst 0, 1) := by decide +kernel
theorem t_X6_judge_28 : decode prog_8_method_6_code 28 = .ok (.istore_n 2, 1) := by decide +kernel
theorem t_X6_judge_29 : decode prog_8_method_6_code 29 = .ok (.iconst 0, 1) := by decide +kernel
theorem t_X6_judge_30 : decode prog_8_method_6_code 30 = .ok (.istore_n 3, 1) := by decide +kernel
theorem t_X6_judge_31 : decode prog_8_method_6_code 31 = .ok (.iload_n 3, 1) := by decide +kernel
theorem t_X6_judge_32 : decode prog_8_method_6_code 32 = .ok (.aload_n 0, 1) := by decide +kernel
theorem t_X6_judge_33 : decode prog_8_method_6_code 33 = .ok (.getfield 16, 3) := by decide +kernel
theorem t_X6_judge_36 : decode prog_8_method_6_code 36 = .ok (.if_icmp .ge 128, 3) := by decide +kernel
theorem t_X6_judge_39 : decode prog_8_method_6_code 39 = .ok (.aload_n 0, 1) := by decide +kernel
theorem t_X6_judge_40 : decode prog_8_method_6_code 40 = .ok (.getfield 9, 3) := by decide +kernel
theorem t_X6_judge_43 : decode prog_8_method_6_code 43 = .ok (.iload_n 3, 1) := by decide +kernel
theorem t_X6_judge_44 : decode prog_8_method_6_code 44 = .ok (.iaload, 1) := by decide +kernel
theorem t_X6_judge_45 : decode prog_8_method_6_code 45 = .ok (.istore 4, 2) := by decide +kernel
theorem t_X6_judge_47 : decode prog_8_method_6_code 47 = .ok (.iload 4, 2) := by decide +kernel
theorem t_X6_judge_49 : decode prog_8_method_6_code 49 = .ok (.sipush (-256), 3) := by decide +kernel
theorem t_X6_judge_52 : decode prog_8_method_6_code 52 = .ok (.if_icmp .ne 27, 3) := by decide +kernel
theorem t_X6_judge_55 : decode prog_8_method_6_code 55 = .ok (.iload_n 2, 1) := by decide +kernel
theorem t_X6_judge_56 : decode prog_8_method_6_code 56 = .ok (.ifCond .le 102, 3) := by decide +kernel
theorem t_X6_judge_59 : decode prog_8_method_6_code 59 = .ok (.aload_n 0, 1) := by decide +kernel
theorem t_X6_judge_60 : decode prog_8_method_6_code 60 = .ok (.getfield 13, 3) := by decide +kernel
theorem t_X6_judge_63 : decode prog_8_method_6_code 63 = .ok (.iload_n 2, 1) := by decide +kernel
theorem t_X6_judge_64 : decode prog_8_method_6_code 64 = .ok (.iconst 1, 1) := by decide +kernel
theorem t_X6_judge_65 : decode prog_8_method_6_code 65 = .ok (.isub, 1) := by decide +kernel
theorem t_X6_judge_66 : decode prog_8_method_6_code 66 = .ok (.aload_n 0, 1) := by decide +kernel
theorem t_X6_judge_67 : decode prog_8_method_6_code 67 = .ok (.getfield 13, 3) := by decide +kernel
theorem t_X6_judge_70 : decode prog_8_method_6_code 70 = .ok (.iload_n 2, 1) := by decide +kernel
theorem t_X6_judge_71 : decode prog_8_method_6_code 71 = .ok (.iconst 1, 1) := by decide +kernel
theorem t_X6_judge_72 : decode prog_8_method_6_code 72 = .ok (.isub, 1) := by decide +kernel
theorem t_X6_judge_73 : decode prog_8_method_6_code 73 = .ok (.iaload, 1) := by decide +kernel
theorem t_X6_judge_74 : decode prog_8_method_6_code 74 = .ok (.ineg, 1) := by decide +kernel
theorem t_X6_judge_75 : decode prog_8_method_6_code 75 = .ok (.iastore, 1) := by decide +kernel
theorem t_X6_judge_76 : decode prog_8_method_6_code 76 = .ok (.goto 82, 3) := by decide +kernel
theorem t_X6_judge_79 : decode prog_8_method_6_code 79 = .ok (.iload 4, 2) := by decide +kernel
theorem t_X6_judge_81 : decode prog_8_method_6_code 81 = .ok (.ifCond .ge 12, 3) := by decide +kernel
theorem t_X6_judge_84 : decode prog_8_method_6_code 84 = .ok (.iload 4, 2) := by decide +kernel
theorem t_X6_judge_86 : decode prog_8_method_6_code 86 = .ok (.ineg, 1) := by decide +kernel
theorem t_X6_judge_87 : decode prog_8_method_6_code 87 = .ok (.invokestatic 39, 3) := by decide +kernel
theorem t_X6_judge_90 : decode prog_8_method_6_code 90 = .ok (.ifCond .eq 32, 3) := by decide +kernel
theorem t_X6_judge_93 : decode prog_8_method_6_code 93 = .ok (.aload_n 0, 1) := by decide +kernel
theorem t_X6_judge_94 : decode prog_8_method_6_code 94 = .ok (.getfield 13, 3) := by decide +kernel
theorem t_X6_judge_97 : decode prog_8_method_6_code 97 = .ok (.iload_n 2, 1) := by decide +kernel
theorem t_X6_judge_98 : decode prog_8_method_6_code 98 = .ok (.iload 4, 2) := by decide +kernel
theorem t_X6_judge_100 : decode prog_8_method_6_code 100 = .ok (.ifCond .lt 8, 3) := by decide +kernel
theorem t_X6_judge_103 : decode prog_8_method_6_code 103 = .ok (.iload 4, 2) := by decide +kernel
theorem t_X6_judge_105 : decode prog_8_method_6_code 105 = .ok (.goto 10, 3) := by decide +kernel
theorem t_X6_judge_108 : decode prog_8_method_6_code 108 = .ok (.iload 4, 2) := by decide +kernel
theorem t_X6_judge_110 : decode prog_8_method_6_code 110 = .ok (.ineg, 1) := by decide +kernel
theorem t_X6_judge_111 : decode prog_8_method_6_code 111 = .ok (.aload_n 1, 1) := by decide +kernel
theorem t_X6_judge_112 : decode prog_8_method_6_code 112 = .ok (.invokestatic 43, 3) := by decide +kernel
theorem t_X6_judge_115 : decode prog_8_method_6_code 115 = .ok (.iastore, 1) := by decide +kernel
theorem t_X6_judge_116 : decode prog_8_method_6_code 116 = .ok (.iinc 2 1, 3) := by decide +kernel
theorem t_X6_judge_119 : decode prog_8_method_6_code 119 = .ok (.goto 39, 3) := by decide +kernel
theorem t_X6_judge_122 : decode prog_8_method_6_code 122 = .ok (.iload_n 2, 1) := by decide +kernel
theorem t_X6_judge_123 : decode prog_8_method_6_code 123 = .ok (.iconst 1, 1) := by decide +kernel
theorem t_X6_judge_124 : decode prog_8_method_6_code 124 = .ok (.if_icmp .le 34, 3) := by decide +kernel
theorem t_X6_judge_127 : decode prog_8_method_6_code 127 = .ok (.iinc 2 (-1), 3) := by decide +kernel
theorem t_X6_judge_130 : decode prog_8_method_6_code 130 = .ok (.aload_n 0, 1) := by decide +kernel
theorem t_X6_judge_131 : decode prog_8_method_6_code 131 = .ok (.getfield 13, 3) := by decide +kernel
theorem t_X6_judge_134 : decode prog_8_method_6_code 134 = .ok (.iload_n 2, 1) := by decide +kernel
theorem t_X6_judge_135 : decode prog_8_method_6_code 135 = .ok (.iconst 1, 1) := by decide +kernel
theorem t_X6_judge_136 : decode prog_8_method_6_code 136 = .ok (.isub, 1) := by decide +kernel
theorem t_X6_judge_137 : decode prog_8_method_6_code 137 = .ok (.iload 4, 2) := by decide +kernel
theorem t_X6_judge_139 : decode prog_8_method_6_code 139 = .ok (.ineg, 1) := by decide +kernel
theorem t_X6_judge_140 : decode prog_8_method_6_code 140 = .ok (.aload_n 0, 1) := by decide +kernel
theorem t_X6_judge_141 : decode prog_8_method_6_code 141 = .ok (.getfield 13, 3) := by decide +kernel
theorem t_X6_judge_144 : decode prog_8_method_6_code 144 = .ok (.iload_n 2, 1) := by decide +kernel
theorem t_X6_judge_145 : decode prog_8_method_6_code 145 = .ok (.iconst 1, 1) := by decide +kernel
theorem t_X6_judge_146 : decode prog_8_method_6_code 146 = .ok (.isub, 1) := by decide +kernel
theorem t_X6_judge_147 : decode prog_8_method_6_code 147 = .ok (.iaload, 1) := by decide +kernel
theorem t_X6_judge_148 : decode prog_8_method_6_code 148 = .ok (.aload_n 0, 1) := by decide +kernel
theorem t_X6_judge_149 : decode prog_8_method_6_code 149 = .ok (.getfield 13, 3) := by decide +kernel
theorem t_X6_judge_152 : decode prog_8_method_6_code 152 = .ok (.iload_n 2, 1) := by decide +kernel
theorem t_X6_judge_153 : decode prog_8_method_6_code 153 = .ok (.iaload, 1) := by decide +kernel
theorem t_X6_judge_154 : decode prog_8_method_6_code 154 = .ok (.invokestatic 47, 3) := by decide +kernel
theorem t_X6_judge_157 : decode prog_8_method_6_code 157 = .ok (.iastore, 1) := by decide +kernel
theorem t_X6_judge_158 : decode prog_8_method_6_code 158 = .ok (.iinc 3 1, 3) := by decide +kernel
theorem t_X6_judge_161 : decode prog_8_method_6_code 161 = .ok (.goto (-130), 3) := by decide +kernel
theorem t_X6_judge_164 : decode prog_8_method_6_code 164 = .ok (.aload_n 0, 1) := by decide +kernel
theorem t_X6_judge_165 : decode prog_8_method_6_code 165 = .ok (.getfield 13, 3) := by decide +kernel
theorem t_X6_judge_168 : decode prog_8_method_6_code 168 = .ok (.iconst 0, 1) := by decide +kernel
theorem t_X6_judge_169 : decode prog_8_method_6_code 169 = .ok (.iaload, 1) := by decide +kernel
theorem t_X6_judge_170 : decode prog_8_method_6_code 170 = .ok (.ireturn, 1) := by decide +kernel
def y_X6_put : MethodName := ⟨"SowingBoards$Rule", "put", "(I)V"⟩
theorem t_X6_put_0 : decode prog_8_method_4_code 0 = .ok (.aload_n 0, 1) := by decide +kernel
theorem t_X6_put_1 : decode prog_8_method_4_code 1 = .ok (.getfield 16, 3) := by decide +kernel
theorem t_X6_put_4 : decode prog_8_method_4_code 4 = .ok (.bipush 40, 2) := by decide +kernel
theorem t_X6_put_6 : decode prog_8_method_4_code 6 = .ok (.if_icmp .ge 23, 3) := by decide +kernel
theorem t_X6_put_9 : decode prog_8_method_4_code 9 = .ok (.aload_n 0, 1) := by decide +kernel
theorem t_X6_put_10 : decode prog_8_method_4_code 10 = .ok (.getfield 9, 3) := by decide +kernel
theorem t_X6_put_13 : decode prog_8_method_4_code 13 = .ok (.aload_n 0, 1) := by decide +kernel
theorem t_X6_put_14 : decode prog_8_method_4_code 14 = .ok (.getfield 16, 3) := by decide +kernel
theorem t_X6_put_17 : decode prog_8_method_4_code 17 = .ok (.iload_n 1, 1) := by decide +kernel
theorem t_X6_put_18 : decode prog_8_method_4_code 18 = .ok (.iastore, 1) := by decide +kernel
theorem t_X6_put_19 : decode prog_8_method_4_code 19 = .ok (.aload_n 0, 1) := by decide +kernel
theorem t_X6_put_20 : decode prog_8_method_4_code 20 = .ok (.dup, 1) := by decide +kernel
theorem t_X6_put_21 : decode prog_8_method_4_code 21 = .ok (.getfield 16, 3) := by decide +kernel
theorem t_X6_put_24 : decode prog_8_method_4_code 24 = .ok (.iconst 1, 1) := by decide +kernel
theorem t_X6_put_25 : decode prog_8_method_4_code 25 = .ok (.iadd, 1) := by decide +kernel
theorem t_X6_put_26 : decode prog_8_method_4_code 26 = .ok (.putfield 16, 3) := by decide +kernel
theorem t_X6_put_29 : decode prog_8_method_4_code 29 = .ok (.return_, 1) := by decide +kernel
def y_X6_becomesThing : MethodName := ⟨"SowingBoards$Rule", "becomesThing", "(I)V"⟩
theorem t_X6_becomesThing_0 : decode prog_8_method_2_code 0 = .ok (.aload_n 0, 1) := by decide +kernel
theorem t_X6_becomesThing_1 : decode prog_8_method_2_code 1 = .ok (.iconst 0, 1) := by decide +kernel
theorem t_X6_becomesThing_2 : decode prog_8_method_2_code 2 = .ok (.putfield 16, 3) := by decide +kernel
theorem t_X6_becomesThing_5 : decode prog_8_method_2_code 5 = .ok (.aload_n 0, 1) := by decide +kernel
theorem t_X6_becomesThing_6 : decode prog_8_method_2_code 6 = .ok (.iload_n 1, 1) := by decide +kernel
theorem t_X6_becomesThing_7 : decode prog_8_method_2_code 7 = .ok (.ineg, 1) := by decide +kernel
theorem t_X6_becomesThing_8 : decode prog_8_method_2_code 8 = .ok (.invokevirtual 20, 3) := by decide +kernel
theorem t_X6_becomesThing_11 : decode prog_8_method_2_code 11 = .ok (.return_, 1) := by decide +kernel
def y_X6_take : MethodName := ⟨"SowingBoards$Rule", "take", "(LSowingBoards$Rule;)V"⟩
theorem t_X6_take_0 : decode prog_8_method_3_code 0 = .ok (.aload_n 0, 1) := by decide +kernel
theorem t_X6_take_1 : decode prog_8_method_3_code 1 = .ok (.aload_n 1, 1) := by decide +kernel
theorem t_X6_take_2 : decode prog_8_method_3_code 2 = .ok (.getfield 16, 3) := by decide +kernel
theorem t_X6_take_5 : decode prog_8_method_3_code 5 = .ok (.putfield 16, 3) := by decide +kernel
theorem t_X6_take_8 : decode prog_8_method_3_code 8 = .ok (.aload_n 1, 1) := by decide +kernel
theorem t_X6_take_9 : decode prog_8_method_3_code 9 = .ok (.getfield 9, 3) := by decide +kernel
theorem t_X6_take_12 : decode prog_8_method_3_code 12 = .ok (.iconst 0, 1) := by decide +kernel
theorem t_X6_take_13 : decode prog_8_method_3_code 13 = .ok (.aload_n 0, 1) := by decide +kernel
theorem t_X6_take_14 : decode prog_8_method_3_code 14 = .ok (.getfield 9, 3) := by decide +kernel
theorem t_X6_take_17 : decode prog_8_method_3_code 17 = .ok (.iconst 0, 1) := by decide +kernel
theorem t_X6_take_18 : decode prog_8_method_3_code 18 = .ok (.bipush 40, 2) := by decide +kernel
theorem t_X6_take_20 : decode prog_8_method_3_code 20 = .ok (.invokestatic 24, 3) := by decide +kernel
theorem t_X6_take_23 : decode prog_8_method_3_code 23 = .ok (.return_, 1) := by decide +kernel
def y_X6_addDigit : MethodName := ⟨"SowingBoards$Rule", "addDigit", "(I)V"⟩
theorem t_X6_addDigit_0 : decode prog_8_method_5_code 0 = .ok (.aload_n 0, 1) := by decide +kernel
theorem t_X6_addDigit_1 : decode prog_8_method_5_code 1 = .ok (.getfield 16, 3) := by decide +kernel
theorem t_X6_addDigit_4 : decode prog_8_method_5_code 4 = .ok (.ifCond .le 30, 3) := by decide +kernel
theorem t_X6_addDigit_7 : decode prog_8_method_5_code 7 = .ok (.aload_n 0, 1) := by decide +kernel
theorem t_X6_addDigit_8 : decode prog_8_method_5_code 8 = .ok (.getfield 9, 3) := by decide +kernel
theorem t_X6_addDigit_11 : decode prog_8_method_5_code 11 = .ok (.aload_n 0, 1) := by decide +kernel
theorem t_X6_addDigit_12 : decode prog_8_method_5_code 12 = .ok (.getfield 16, 3) := by decide +kernel
theorem t_X6_addDigit_15 : decode prog_8_method_5_code 15 = .ok (.iconst 1, 1) := by decide +kernel
theorem t_X6_addDigit_16 : decode prog_8_method_5_code 16 = .ok (.isub, 1) := by decide +kernel
theorem t_X6_addDigit_17 : decode prog_8_method_5_code 17 = .ok (.aload_n 0, 1) := by decide +kernel
theorem t_X6_addDigit_18 : decode prog_8_method_5_code 18 = .ok (.getfield 9, 3) := by decide +kernel
theorem t_X6_addDigit_21 : decode prog_8_method_5_code 21 = .ok (.aload_n 0, 1) := by decide +kernel
theorem t_X6_addDigit_22 : decode prog_8_method_5_code 22 = .ok (.getfield 16, 3) := by decide +kernel
theorem t_X6_addDigit_25 : decode prog_8_method_5_code 25 = .ok (.iconst 1, 1) := by decide +kernel
theorem t_X6_addDigit_26 : decode prog_8_method_5_code 26 = .ok (.isub, 1) := by decide +kernel
theorem t_X6_addDigit_27 : decode prog_8_method_5_code 27 = .ok (.iaload, 1) := by decide +kernel
theorem t_X6_addDigit_28 : decode prog_8_method_5_code 28 = .ok (.bipush 10, 2) := by decide +kernel
theorem t_X6_addDigit_30 : decode prog_8_method_5_code 30 = .ok (.imul, 1) := by decide +kernel
theorem t_X6_addDigit_31 : decode prog_8_method_5_code 31 = .ok (.iload_n 1, 1) := by decide +kernel
theorem t_X6_addDigit_32 : decode prog_8_method_5_code 32 = .ok (.iadd, 1) := by decide +kernel
theorem t_X6_addDigit_33 : decode prog_8_method_5_code 33 = .ok (.iastore, 1) := by decide +kernel
theorem t_X6_addDigit_34 : decode prog_8_method_5_code 34 = .ok (.return_, 1) := by decide +kernel
def y_X7_await : MethodName := ⟨"SowingBoards$RuleReader", "await", "(I)V"⟩
theorem t_X7_await_0 : decode prog_9_method_8_code 0 = .ok (.aload_n 0, 1) := by decide +kernel
theorem t_X7_await_1 : decode prog_9_method_8_code 1 = .ok (.getfield 30, 3) := by decide +kernel
theorem t_X7_await_4 : decode prog_9_method_8_code 4 = .ok (.aload_n 0, 1) := by decide +kernel
theorem t_X7_await_5 : decode prog_9_method_8_code 5 = .ok (.getfield 11, 3) := by decide +kernel
theorem t_X7_await_8 : decode prog_9_method_8_code 8 = .ok (.arraylength, 1) := by decide +kernel
theorem t_X7_await_9 : decode prog_9_method_8_code 9 = .ok (.if_icmp .ge 23, 3) := by decide +kernel
theorem t_X7_await_12 : decode prog_9_method_8_code 12 = .ok (.aload_n 0, 1) := by decide +kernel
theorem t_X7_await_13 : decode prog_9_method_8_code 13 = .ok (.getfield 11, 3) := by decide +kernel
theorem t_X7_await_16 : decode prog_9_method_8_code 16 = .ok (.aload_n 0, 1) := by decide +kernel
theorem t_X7_await_17 : decode prog_9_method_8_code 17 = .ok (.getfield 30, 3) := by decide +kernel
theorem t_X7_await_20 : decode prog_9_method_8_code 20 = .ok (.iload_n 1, 1) := by decide +kernel
theorem t_X7_await_21 : decode prog_9_method_8_code 21 = .ok (.iastore, 1) := by decide +kernel
theorem t_X7_await_22 : decode prog_9_method_8_code 22 = .ok (.aload_n 0, 1) := by decide +kernel
theorem t_X7_await_23 : decode prog_9_method_8_code 23 = .ok (.dup, 1) := by decide +kernel
theorem t_X7_await_24 : decode prog_9_method_8_code 24 = .ok (.getfield 30, 3) := by decide +kernel
theorem t_X7_await_27 : decode prog_9_method_8_code 27 = .ok (.iconst 1, 1) := by decide +kernel
theorem t_X7_await_28 : decode prog_9_method_8_code 28 = .ok (.iadd, 1) := by decide +kernel
theorem t_X7_await_29 : decode prog_9_method_8_code 29 = .ok (.putfield 30, 3) := by decide +kernel
theorem t_X7_await_32 : decode prog_9_method_8_code 32 = .ok (.return_, 1) := by decide +kernel
def y_X7_acceptAhead : MethodName := ⟨"SowingBoards$RuleReader", "acceptAhead", "(I)Z"⟩
theorem t_X7_acceptAhead_0 : decode prog_9_method_5_code 0 = .ok (.iload_n 1, 1) := by decide +kernel
theorem t_X7_acceptAhead_1 : decode prog_9_method_5_code 1 = .ok (.bipush 45, 2) := by decide +kernel
theorem t_X7_acceptAhead_3 : decode prog_9_method_5_code 3 = .ok (.if_icmp .ne 12, 3) := by decide +kernel
theorem t_X7_acceptAhead_6 : decode prog_9_method_5_code 6 = .ok (.aload_n 0, 1) := by decide +kernel
theorem t_X7_acceptAhead_7 : decode prog_9_method_5_code 7 = .ok (.sipush 256, 3) := by decide +kernel
theorem t_X7_acceptAhead_10 : decode prog_9_method_5_code 10 = .ok (.invokevirtual 75, 3) := by decide +kernel
theorem t_X7_acceptAhead_13 : decode prog_9_method_5_code 13 = .ok (.iconst 1, 1) := by decide +kernel
theorem t_X7_acceptAhead_14 : decode prog_9_method_5_code 14 = .ok (.ireturn, 1) := by decide +kernel
theorem t_X7_acceptAhead_15 : decode prog_9_method_5_code 15 = .ok (.iload_n 1, 1) := by decide +kernel
theorem t_X7_acceptAhead_16 : decode prog_9_method_5_code 16 = .ok (.bipush 40, 2) := by decide +kernel
theorem t_X7_acceptAhead_18 : decode prog_9_method_5_code 18 = .ok (.if_icmp .ne 38, 3) := by decide +kernel
theorem t_X7_acceptAhead_21 : decode prog_9_method_5_code 21 = .ok (.aload_n 0, 1) := by decide +kernel
theorem t_X7_acceptAhead_22 : decode prog_9_method_5_code 22 = .ok (.getfield 33, 3) := by decide +kernel
theorem t_X7_acceptAhead_25 : decode prog_9_method_5_code 25 = .ok (.iconst 4, 1) := by decide +kernel
theorem t_X7_acceptAhead_26 : decode prog_9_method_5_code 26 = .ok (.if_icmp .ge 30, 3) := by decide +kernel
theorem t_X7_acceptAhead_29 : decode prog_9_method_5_code 29 = .ok (.aload_n 0, 1) := by decide +kernel
theorem t_X7_acceptAhead_30 : decode prog_9_method_5_code 30 = .ok (.iload_n 1, 1) := by decide +kernel
theorem t_X7_acceptAhead_31 : decode prog_9_method_5_code 31 = .ok (.invokevirtual 75, 3) := by decide +kernel
theorem t_X7_acceptAhead_34 : decode prog_9_method_5_code 34 = .ok (.aload_n 0, 1) := by decide +kernel
theorem t_X7_acceptAhead_35 : decode prog_9_method_5_code 35 = .ok (.dup, 1) := by decide +kernel
theorem t_X7_acceptAhead_36 : decode prog_9_method_5_code 36 = .ok (.getfield 33, 3) := by decide +kernel
theorem t_X7_acceptAhead_39 : decode prog_9_method_5_code 39 = .ok (.iconst 1, 1) := by decide +kernel
theorem t_X7_acceptAhead_40 : decode prog_9_method_5_code 40 = .ok (.iadd, 1) := by decide +kernel
theorem t_X7_acceptAhead_41 : decode prog_9_method_5_code 41 = .ok (.putfield 33, 3) := by decide +kernel
theorem t_X7_acceptAhead_44 : decode prog_9_method_5_code 44 = .ok (.aload_n 0, 1) := by decide +kernel
theorem t_X7_acceptAhead_45 : decode prog_9_method_5_code 45 = .ok (.getfield 17, 3) := by decide +kernel
theorem t_X7_acceptAhead_48 : decode prog_9_method_5_code 48 = .ok (.aload_n 0, 1) := by decide +kernel
theorem t_X7_acceptAhead_49 : decode prog_9_method_5_code 49 = .ok (.getfield 33, 3) := by decide +kernel
theorem t_X7_acceptAhead_52 : decode prog_9_method_5_code 52 = .ok (.iconst 0, 1) := by decide +kernel
theorem t_X7_acceptAhead_53 : decode prog_9_method_5_code 53 = .ok (.bastore, 1) := by decide +kernel
theorem t_X7_acceptAhead_54 : decode prog_9_method_5_code 54 = .ok (.iconst 1, 1) := by decide +kernel
theorem t_X7_acceptAhead_55 : decode prog_9_method_5_code 55 = .ok (.ireturn, 1) := by decide +kernel
theorem t_X7_acceptAhead_56 : decode prog_9_method_5_code 56 = .ok (.iload_n 1, 1) := by decide +kernel
theorem t_X7_acceptAhead_57 : decode prog_9_method_5_code 57 = .ok (.invokestatic 78, 3) := by decide +kernel
theorem t_X7_acceptAhead_60 : decode prog_9_method_5_code 60 = .ok (.ifCond .ne 5, 3) := by decide +kernel
theorem t_X7_acceptAhead_63 : decode prog_9_method_5_code 63 = .ok (.iconst 0, 1) := by decide +kernel
theorem t_X7_acceptAhead_64 : decode prog_9_method_5_code 64 = .ok (.ireturn, 1) := by decide +kernel
theorem t_X7_acceptAhead_65 : decode prog_9_method_5_code 65 = .ok (.aload_n 0, 1) := by decide +kernel
theorem t_X7_acceptAhead_66 : decode prog_9_method_5_code 66 = .ok (.getfield 22, 3) := by decide +kernel
theorem t_X7_acceptAhead_69 : decode prog_9_method_5_code 69 = .ok (.iload_n 1, 1) := by decide +kernel
theorem t_X7_acceptAhead_70 : decode prog_9_method_5_code 70 = .ok (.ineg, 1) := by decide +kernel
theorem t_X7_acceptAhead_71 : decode prog_9_method_5_code 71 = .ok (.invokevirtual 69, 3) := by decide +kernel
theorem t_X7_acceptAhead_74 : decode prog_9_method_5_code 74 = .ok (.aload_n 0, 1) := by decide +kernel
theorem t_X7_acceptAhead_75 : decode prog_9_method_5_code 75 = .ok (.iconst 0, 1) := by decide +kernel
theorem t_X7_acceptAhead_76 : decode prog_9_method_5_code 76 = .ok (.putfield 39, 3) := by decide +kernel
theorem t_X7_acceptAhead_79 : decode prog_9_method_5_code 79 = .ok (.iconst 1, 1) := by decide +kernel
theorem t_X7_acceptAhead_80 : decode prog_9_method_5_code 80 = .ok (.ireturn, 1) := by decide +kernel
def y_X7_strength : MethodName := ⟨"SowingBoards$RuleReader", "strength", "(I)I"⟩
theorem t_X7_strength_0 : decode prog_9_method_10_code 0 = .ok (.iload_n 0, 1) := by decide +kernel
theorem t_X7_strength_1 : decode prog_9_method_10_code 1 = .ok (.lookupswitch 83 #[(42, 79), (43, 77), (45, 77), (47, 79), (60, 75), (61, 75), (62, 75), (256, 81)], 75) := by decide +kernel
theorem t_X7_strength_76 : decode prog_9_method_10_code 76 = .ok (.iconst 1, 1) := by decide +kernel
theorem t_X7_strength_77 : decode prog_9_method_10_code 77 = .ok (.ireturn, 1) := by decide +kernel
theorem t_X7_strength_78 : decode prog_9_method_10_code 78 = .ok (.iconst 2, 1) := by decide +kernel
theorem t_X7_strength_79 : decode prog_9_method_10_code 79 = .ok (.ireturn, 1) := by decide +kernel
theorem t_X7_strength_80 : decode prog_9_method_10_code 80 = .ok (.iconst 3, 1) := by decide +kernel
theorem t_X7_strength_81 : decode prog_9_method_10_code 81 = .ok (.ireturn, 1) := by decide +kernel
theorem t_X7_strength_82 : decode prog_9_method_10_code 82 = .ok (.iconst 4, 1) := by decide +kernel
theorem t_X7_strength_83 : decode prog_9_method_10_code 83 = .ok (.ireturn, 1) := by decide +kernel
theorem t_X7_strength_84 : decode prog_9_method_10_code 84 = .ok (.iconst 0, 1) := by decide +kernel
theorem t_X7_strength_85 : decode prog_9_method_10_code 85 = .ok (.ireturn, 1) := by decide +kernel
def y_X7_bindWaiting : MethodName := ⟨"SowingBoards$RuleReader", "bindWaiting", "(I)V"⟩
theorem t_X7_bindWaiting_0 : decode prog_9_method_9_code 0 = .ok (.aload_n 0, 1) := by decide +kernel
theorem t_X7_bindWaiting_1 : decode prog_9_method_9_code 1 = .ok (.getfield 30, 3) := by decide +kernel
theorem t_X7_bindWaiting_4 : decode prog_9_method_9_code 4 = .ok (.ifCond .le 53, 3) := by decide +kernel
theorem t_X7_bindWaiting_7 : decode prog_9_method_9_code 7 = .ok (.aload_n 0, 1) := by decide +kernel
theorem t_X7_bindWaiting_8 : decode prog_9_method_9_code 8 = .ok (.getfield 11, 3) := by decide +kernel
theorem t_X7_bindWaiting_11 : decode prog_9_method_9_code 11 = .ok (.aload_n 0, 1) := by decide +kernel
theorem t_X7_bindWaiting_12 : decode prog_9_method_9_code 12 = .ok (.getfield 30, 3) := by decide +kernel
theorem t_X7_bindWaiting_15 : decode prog_9_method_9_code 15 = .ok (.iconst 1, 1) := by decide +kernel
theorem t_X7_bindWaiting_16 : decode prog_9_method_9_code 16 = .ok (.isub, 1) := by decide +kernel
theorem t_X7_bindWaiting_17 : decode prog_9_method_9_code 17 = .ok (.iaload, 1) := by decide +kernel
theorem t_X7_bindWaiting_18 : decode prog_9_method_9_code 18 = .ok (.invokestatic 84, 3) := by decide +kernel
theorem t_X7_bindWaiting_21 : decode prog_9_method_9_code 21 = .ok (.iload_n 1, 1) := by decide +kernel
theorem t_X7_bindWaiting_22 : decode prog_9_method_9_code 22 = .ok (.if_icmp .lt 35, 3) := by decide +kernel
theorem t_X7_bindWaiting_25 : decode prog_9_method_9_code 25 = .ok (.aload_n 0, 1) := by decide +kernel
theorem t_X7_bindWaiting_26 : decode prog_9_method_9_code 26 = .ok (.getfield 22, 3) := by decide +kernel
theorem t_X7_bindWaiting_29 : decode prog_9_method_9_code 29 = .ok (.aload_n 0, 1) := by decide +kernel
theorem t_X7_bindWaiting_30 : decode prog_9_method_9_code 30 = .ok (.getfield 11, 3) := by decide +kernel
theorem t_X7_bindWaiting_33 : decode prog_9_method_9_code 33 = .ok (.aload_n 0, 1) := by decide +kernel
theorem t_X7_bindWaiting_34 : decode prog_9_method_9_code 34 = .ok (.getfield 30, 3) := by decide +kernel
theorem t_X7_bindWaiting_37 : decode prog_9_method_9_code 37 = .ok (.iconst 1, 1) := by decide +kernel
theorem t_X7_bindWaiting_38 : decode prog_9_method_9_code 38 = .ok (.isub, 1) := by decide +kernel
theorem t_X7_bindWaiting_39 : decode prog_9_method_9_code 39 = .ok (.iaload, 1) := by decide +kernel
theorem t_X7_bindWaiting_40 : decode prog_9_method_9_code 40 = .ok (.ineg, 1) := by decide +kernel
theorem t_X7_bindWaiting_41 : decode prog_9_method_9_code 41 = .ok (.invokevirtual 69, 3) := by decide +kernel
theorem t_X7_bindWaiting_44 : decode prog_9_method_9_code 44 = .ok (.aload_n 0, 1) := by decide +kernel
theorem t_X7_bindWaiting_45 : decode prog_9_method_9_code 45 = .ok (.dup, 1) := by decide +kernel
theorem t_X7_bindWaiting_46 : decode prog_9_method_9_code 46 = .ok (.getfield 30, 3) := by decide +kernel
theorem t_X7_bindWaiting_49 : decode prog_9_method_9_code 49 = .ok (.iconst 1, 1) := by decide +kernel
theorem t_X7_bindWaiting_50 : decode prog_9_method_9_code 50 = .ok (.isub, 1) := by decide +kernel
theorem t_X7_bindWaiting_51 : decode prog_9_method_9_code 51 = .ok (.putfield 30, 3) := by decide +kernel
theorem t_X7_bindWaiting_54 : decode prog_9_method_9_code 54 = .ok (.goto (-54), 3) := by decide +kernel
theorem t_X7_bindWaiting_57 : decode prog_9_method_9_code 57 = .ok (.return_, 1) := by decide +kernel
def y_X7_dropOpening : MethodName := ⟨"SowingBoards$RuleReader", "dropOpening", "()V"⟩
theorem t_X7_dropOpening_0 : decode prog_9_method_7_code 0 = .ok (.aload_n 0, 1) := by decide +kernel
theorem t_X7_dropOpening_1 : decode prog_9_method_7_code 1 = .ok (.getfield 30, 3) := by decide +kernel
theorem t_X7_dropOpening_4 : decode prog_9_method_7_code 4 = .ok (.ifCond .le 13, 3) := by decide +kernel
theorem t_X7_dropOpening_7 : decode prog_9_method_7_code 7 = .ok (.aload_n 0, 1) := by decide +kernel
theorem t_X7_dropOpening_8 : decode prog_9_method_7_code 8 = .ok (.dup, 1) := by decide +kernel
theorem t_X7_dropOpening_9 : decode prog_9_method_7_code 9 = .ok (.getfield 30, 3) := by decide +kernel
theorem t_X7_dropOpening_12 : decode prog_9_method_7_code 12 = .ok (.iconst 1, 1) := by decide +kernel
theorem t_X7_dropOpening_13 : decode prog_9_method_7_code 13 = .ok (.isub, 1) := by decide +kernel
theorem t_X7_dropOpening_14 : decode prog_9_method_7_code 14 = .ok (.putfield 30, 3) := by decide +kernel
theorem t_X7_dropOpening_17 : decode prog_9_method_7_code 17 = .ok (.return_, 1) := by decide +kernel
def y_X7_acceptBehind : MethodName := ⟨"SowingBoards$RuleReader", "acceptBehind", "(I)Z"⟩
theorem t_X7_acceptBehind_0 : decode prog_9_method_6_code 0 = .ok (.iload_n 1, 1) := by decide +kernel
theorem t_X7_acceptBehind_1 : decode prog_9_method_6_code 1 = .ok (.bipush 41, 2) := by decide +kernel
theorem t_X7_acceptBehind_3 : decode prog_9_method_6_code 3 = .ok (.if_icmp .ne 31, 3) := by decide +kernel
theorem t_X7_acceptBehind_6 : decode prog_9_method_6_code 6 = .ok (.aload_n 0, 1) := by decide +kernel
theorem t_X7_acceptBehind_7 : decode prog_9_method_6_code 7 = .ok (.getfield 33, 3) := by decide +kernel
theorem t_X7_acceptBehind_10 : decode prog_9_method_6_code 10 = .ok (.ifCond .le 24, 3) := by decide +kernel
theorem t_X7_acceptBehind_13 : decode prog_9_method_6_code 13 = .ok (.aload_n 0, 1) := by decide +kernel
theorem t_X7_acceptBehind_14 : decode prog_9_method_6_code 14 = .ok (.iconst 1, 1) := by decide +kernel
theorem t_X7_acceptBehind_15 : decode prog_9_method_6_code 15 = .ok (.invokevirtual 56, 3) := by decide +kernel
theorem t_X7_acceptBehind_18 : decode prog_9_method_6_code 18 = .ok (.aload_n 0, 1) := by decide +kernel
theorem t_X7_acceptBehind_19 : decode prog_9_method_6_code 19 = .ok (.invokevirtual 81, 3) := by decide +kernel
theorem t_X7_acceptBehind_22 : decode prog_9_method_6_code 22 = .ok (.aload_n 0, 1) := by decide +kernel
theorem t_X7_acceptBehind_23 : decode prog_9_method_6_code 23 = .ok (.dup, 1) := by decide +kernel
theorem t_X7_acceptBehind_24 : decode prog_9_method_6_code 24 = .ok (.getfield 33, 3) := by decide +kernel
theorem t_X7_acceptBehind_27 : decode prog_9_method_6_code 27 = .ok (.iconst 1, 1) := by decide +kernel
theorem t_X7_acceptBehind_28 : decode prog_9_method_6_code 28 = .ok (.isub, 1) := by decide +kernel
theorem t_X7_acceptBehind_29 : decode prog_9_method_6_code 29 = .ok (.putfield 33, 3) := by decide +kernel
theorem t_X7_acceptBehind_32 : decode prog_9_method_6_code 32 = .ok (.iconst 1, 1) := by decide +kernel
theorem t_X7_acceptBehind_33 : decode prog_9_method_6_code 33 = .ok (.ireturn, 1) := by decide +kernel
theorem t_X7_acceptBehind_34 : decode prog_9_method_6_code 34 = .ok (.iload_n 1, 1) := by decide +kernel
theorem t_X7_acceptBehind_35 : decode prog_9_method_6_code 35 = .ok (.invokestatic 84, 3) := by decide +kernel
theorem t_X7_acceptBehind_38 : decode prog_9_method_6_code 38 = .ok (.istore_n 2, 1) := by decide +kernel
theorem t_X7_acceptBehind_39 : decode prog_9_method_6_code 39 = .ok (.iload_n 2, 1) := by decide +kernel
theorem t_X7_acceptBehind_40 : decode prog_9_method_6_code 40 = .ok (.ifCond .eq 20, 3) := by decide +kernel
theorem t_X7_acceptBehind_43 : decode prog_9_method_6_code 43 = .ok (.iload_n 2, 1) := by decide +kernel
theorem t_X7_acceptBehind_44 : decode prog_9_method_6_code 44 = .ok (.iconst 1, 1) := by decide +kernel
theorem t_X7_acceptBehind_45 : decode prog_9_method_6_code 45 = .ok (.if_icmp .ne 17, 3) := by decide +kernel
theorem t_X7_acceptBehind_48 : decode prog_9_method_6_code 48 = .ok (.aload_n 0, 1) := by decide +kernel
theorem t_X7_acceptBehind_49 : decode prog_9_method_6_code 49 = .ok (.getfield 17, 3) := by decide +kernel
theorem t_X7_acceptBehind_52 : decode prog_9_method_6_code 52 = .ok (.aload_n 0, 1) := by decide +kernel
theorem t_X7_acceptBehind_53 : decode prog_9_method_6_code 53 = .ok (.getfield 33, 3) := by decide +kernel
theorem t_X7_acceptBehind_56 : decode prog_9_method_6_code 56 = .ok (.baload, 1) := by decide +kernel
theorem t_X7_acceptBehind_57 : decode prog_9_method_6_code 57 = .ok (.ifCond .eq 5, 3) := by decide +kernel
theorem t_X7_acceptBehind_60 : decode prog_9_method_6_code 60 = .ok (.iconst 0, 1) := by decide +kernel
theorem t_X7_acceptBehind_61 : decode prog_9_method_6_code 61 = .ok (.ireturn, 1) := by decide +kernel
theorem t_X7_acceptBehind_62 : decode prog_9_method_6_code 62 = .ok (.iload_n 2, 1) := by decide +kernel
theorem t_X7_acceptBehind_63 : decode prog_9_method_6_code 63 = .ok (.iconst 1, 1) := by decide +kernel
theorem t_X7_acceptBehind_64 : decode prog_9_method_6_code 64 = .ok (.if_icmp .ne 13, 3) := by decide +kernel
theorem t_X7_acceptBehind_67 : decode prog_9_method_6_code 67 = .ok (.aload_n 0, 1) := by decide +kernel
theorem t_X7_acceptBehind_68 : decode prog_9_method_6_code 68 = .ok (.getfield 17, 3) := by decide +kernel
theorem t_X7_acceptBehind_71 : decode prog_9_method_6_code 71 = .ok (.aload_n 0, 1) := by decide +kernel
theorem t_X7_acceptBehind_72 : decode prog_9_method_6_code 72 = .ok (.getfield 33, 3) := by decide +kernel
theorem t_X7_acceptBehind_75 : decode prog_9_method_6_code 75 = .ok (.iconst 1, 1) := by decide +kernel
theorem t_X7_acceptBehind_76 : decode prog_9_method_6_code 76 = .ok (.bastore, 1) := by decide +kernel
theorem t_X7_acceptBehind_77 : decode prog_9_method_6_code 77 = .ok (.aload_n 0, 1) := by decide +kernel
theorem t_X7_acceptBehind_78 : decode prog_9_method_6_code 78 = .ok (.iload_n 2, 1) := by decide +kernel
theorem t_X7_acceptBehind_79 : decode prog_9_method_6_code 79 = .ok (.invokevirtual 56, 3) := by decide +kernel
theorem t_X7_acceptBehind_82 : decode prog_9_method_6_code 82 = .ok (.aload_n 0, 1) := by decide +kernel
theorem t_X7_acceptBehind_83 : decode prog_9_method_6_code 83 = .ok (.iload_n 1, 1) := by decide +kernel
theorem t_X7_acceptBehind_84 : decode prog_9_method_6_code 84 = .ok (.invokevirtual 75, 3) := by decide +kernel
theorem t_X7_acceptBehind_87 : decode prog_9_method_6_code 87 = .ok (.aload_n 0, 1) := by decide +kernel
theorem t_X7_acceptBehind_88 : decode prog_9_method_6_code 88 = .ok (.iconst 1, 1) := by decide +kernel
theorem t_X7_acceptBehind_89 : decode prog_9_method_6_code 89 = .ok (.putfield 39, 3) := by decide +kernel
theorem t_X7_acceptBehind_92 : decode prog_9_method_6_code 92 = .ok (.iconst 1, 1) := by decide +kernel
theorem t_X7_acceptBehind_93 : decode prog_9_method_6_code 93 = .ok (.ireturn, 1) := by decide +kernel
def y_X7_acceptDigit : MethodName := ⟨"SowingBoards$RuleReader", "acceptDigit", "(I)Z"⟩
theorem t_X7_acceptDigit_0 : decode prog_9_method_4_code 0 = .ok (.aload_n 0, 1) := by decide +kernel
theorem t_X7_acceptDigit_1 : decode prog_9_method_4_code 1 = .ok (.getfield 39, 3) := by decide +kernel
theorem t_X7_acceptDigit_4 : decode prog_9_method_4_code 4 = .ok (.ifCond .eq 23, 3) := by decide +kernel
theorem t_X7_acceptDigit_7 : decode prog_9_method_4_code 7 = .ok (.aload_n 0, 1) := by decide +kernel
theorem t_X7_acceptDigit_8 : decode prog_9_method_4_code 8 = .ok (.getfield 22, 3) := by decide +kernel
theorem t_X7_acceptDigit_11 : decode prog_9_method_4_code 11 = .ok (.iload_n 1, 1) := by decide +kernel
theorem t_X7_acceptDigit_12 : decode prog_9_method_4_code 12 = .ok (.invokevirtual 69, 3) := by decide +kernel
theorem t_X7_acceptDigit_15 : decode prog_9_method_4_code 15 = .ok (.aload_n 0, 1) := by decide +kernel
theorem t_X7_acceptDigit_16 : decode prog_9_method_4_code 16 = .ok (.iconst 1, 1) := by decide +kernel
theorem t_X7_acceptDigit_17 : decode prog_9_method_4_code 17 = .ok (.putfield 36, 3) := by decide +kernel
theorem t_X7_acceptDigit_20 : decode prog_9_method_4_code 20 = .ok (.aload_n 0, 1) := by decide +kernel
theorem t_X7_acceptDigit_21 : decode prog_9_method_4_code 21 = .ok (.iconst 0, 1) := by decide +kernel
theorem t_X7_acceptDigit_22 : decode prog_9_method_4_code 22 = .ok (.putfield 39, 3) := by decide +kernel
theorem t_X7_acceptDigit_25 : decode prog_9_method_4_code 25 = .ok (.iconst 1, 1) := by decide +kernel
theorem t_X7_acceptDigit_26 : decode prog_9_method_4_code 26 = .ok (.ireturn, 1) := by decide +kernel
theorem t_X7_acceptDigit_27 : decode prog_9_method_4_code 27 = .ok (.aload_n 0, 1) := by decide +kernel
theorem t_X7_acceptDigit_28 : decode prog_9_method_4_code 28 = .ok (.getfield 36, 3) := by decide +kernel
theorem t_X7_acceptDigit_31 : decode prog_9_method_4_code 31 = .ok (.ifCond .eq 11, 3) := by decide +kernel
theorem t_X7_acceptDigit_34 : decode prog_9_method_4_code 34 = .ok (.aload_n 0, 1) := by decide +kernel
theorem t_X7_acceptDigit_35 : decode prog_9_method_4_code 35 = .ok (.getfield 36, 3) := by decide +kernel
theorem t_X7_acceptDigit_38 : decode prog_9_method_4_code 38 = .ok (.iconst 3, 1) := by decide +kernel
theorem t_X7_acceptDigit_39 : decode prog_9_method_4_code 39 = .ok (.if_icmp .ne 5, 3) := by decide +kernel
theorem t_X7_acceptDigit_42 : decode prog_9_method_4_code 42 = .ok (.iconst 0, 1) := by decide +kernel
theorem t_X7_acceptDigit_43 : decode prog_9_method_4_code 43 = .ok (.ireturn, 1) := by decide +kernel
theorem t_X7_acceptDigit_44 : decode prog_9_method_4_code 44 = .ok (.aload_n 0, 1) := by decide +kernel
theorem t_X7_acceptDigit_45 : decode prog_9_method_4_code 45 = .ok (.getfield 22, 3) := by decide +kernel
theorem t_X7_acceptDigit_48 : decode prog_9_method_4_code 48 = .ok (.iload_n 1, 1) := by decide +kernel
theorem t_X7_acceptDigit_49 : decode prog_9_method_4_code 49 = .ok (.invokevirtual 72, 3) := by decide +kernel
theorem t_X7_acceptDigit_52 : decode prog_9_method_4_code 52 = .ok (.aload_n 0, 1) := by decide +kernel
theorem t_X7_acceptDigit_53 : decode prog_9_method_4_code 53 = .ok (.dup, 1) := by decide +kernel
theorem t_X7_acceptDigit_54 : decode prog_9_method_4_code 54 = .ok (.getfield 36, 3) := by decide +kernel
theorem t_X7_acceptDigit_57 : decode prog_9_method_4_code 57 = .ok (.iconst 1, 1) := by decide +kernel
theorem t_X7_acceptDigit_58 : decode prog_9_method_4_code 58 = .ok (.iadd, 1) := by decide +kernel
theorem t_X7_acceptDigit_59 : decode prog_9_method_4_code 59 = .ok (.putfield 36, 3) := by decide +kernel
theorem t_X7_acceptDigit_62 : decode prog_9_method_4_code 62 = .ok (.iconst 1, 1) := by decide +kernel
theorem t_X7_acceptDigit_63 : decode prog_9_method_4_code 63 = .ok (.ireturn, 1) := by decide +kernel
def y_X7_accept : MethodName := ⟨"SowingBoards$RuleReader", "accept", "(I)Z"⟩
theorem t_X7_accept_0 : decode prog_9_method_3_code 0 = .ok (.iload_n 1, 1) := by decide +kernel
theorem t_X7_accept_1 : decode prog_9_method_3_code 1 = .ok (.bipush 48, 2) := by decide +kernel
theorem t_X7_accept_3 : decode prog_9_method_3_code 3 = .ok (.if_icmp .lt 18, 3) := by decide +kernel
theorem t_X7_accept_6 : decode prog_9_method_3_code 6 = .ok (.iload_n 1, 1) := by decide +kernel
theorem t_X7_accept_7 : decode prog_9_method_3_code 7 = .ok (.bipush 57, 2) := by decide +kernel
theorem t_X7_accept_9 : decode prog_9_method_3_code 9 = .ok (.if_icmp .gt 12, 3) := by decide +kernel
theorem t_X7_accept_12 : decode prog_9_method_3_code 12 = .ok (.aload_n 0, 1) := by decide +kernel
theorem t_X7_accept_13 : decode prog_9_method_3_code 13 = .ok (.iload_n 1, 1) := by decide +kernel
theorem t_X7_accept_14 : decode prog_9_method_3_code 14 = .ok (.bipush 48, 2) := by decide +kernel
theorem t_X7_accept_16 : decode prog_9_method_3_code 16 = .ok (.isub, 1) := by decide +kernel
theorem t_X7_accept_17 : decode prog_9_method_3_code 17 = .ok (.invokevirtual 60, 3) := by decide +kernel
theorem t_X7_accept_20 : decode prog_9_method_3_code 20 = .ok (.ireturn, 1) := by decide +kernel
theorem t_X7_accept_21 : decode prog_9_method_3_code 21 = .ok (.aload_n 0, 1) := by decide +kernel
theorem t_X7_accept_22 : decode prog_9_method_3_code 22 = .ok (.iconst 0, 1) := by decide +kernel
theorem t_X7_accept_23 : decode prog_9_method_3_code 23 = .ok (.putfield 36, 3) := by decide +kernel
theorem t_X7_accept_26 : decode prog_9_method_3_code 26 = .ok (.aload_n 0, 1) := by decide +kernel
theorem t_X7_accept_27 : decode prog_9_method_3_code 27 = .ok (.getfield 39, 3) := by decide +kernel
theorem t_X7_accept_30 : decode prog_9_method_3_code 30 = .ok (.ifCond .eq 11, 3) := by decide +kernel
theorem t_X7_accept_33 : decode prog_9_method_3_code 33 = .ok (.aload_n 0, 1) := by decide +kernel
theorem t_X7_accept_34 : decode prog_9_method_3_code 34 = .ok (.iload_n 1, 1) := by decide +kernel
theorem t_X7_accept_35 : decode prog_9_method_3_code 35 = .ok (.invokevirtual 63, 3) := by decide +kernel
theorem t_X7_accept_38 : decode prog_9_method_3_code 38 = .ok (.goto 8, 3) := by decide +kernel
theorem t_X7_accept_41 : decode prog_9_method_3_code 41 = .ok (.aload_n 0, 1) := by decide +kernel
theorem t_X7_accept_42 : decode prog_9_method_3_code 42 = .ok (.iload_n 1, 1) := by decide +kernel
theorem t_X7_accept_43 : decode prog_9_method_3_code 43 = .ok (.invokevirtual 66, 3) := by decide +kernel
theorem t_X7_accept_46 : decode prog_9_method_3_code 46 = .ok (.ireturn, 1) := by decide +kernel
def y_X7_read : MethodName := ⟨"SowingBoards$RuleReader", "read", "(LSowingBoards$Signs;)I"⟩
theorem t_X7_read_0 : decode prog_9_method_2_code 0 = .ok (.aload_n 0, 1) := by decide +kernel
theorem t_X7_read_1 : decode prog_9_method_2_code 1 = .ok (.getfield 22, 3) := by decide +kernel
theorem t_X7_read_4 : decode prog_9_method_2_code 4 = .ok (.iconst 0, 1) := by decide +kernel
theorem t_X7_read_5 : decode prog_9_method_2_code 5 = .ok (.putfield 26, 3) := by decide +kernel
theorem t_X7_read_8 : decode prog_9_method_2_code 8 = .ok (.aload_n 0, 1) := by decide +kernel
theorem t_X7_read_9 : decode prog_9_method_2_code 9 = .ok (.iconst 0, 1) := by decide +kernel
theorem t_X7_read_10 : decode prog_9_method_2_code 10 = .ok (.putfield 30, 3) := by decide +kernel
theorem t_X7_read_13 : decode prog_9_method_2_code 13 = .ok (.aload_n 0, 1) := by decide +kernel
theorem t_X7_read_14 : decode prog_9_method_2_code 14 = .ok (.iconst 0, 1) := by decide +kernel
theorem t_X7_read_15 : decode prog_9_method_2_code 15 = .ok (.putfield 33, 3) := by decide +kernel
theorem t_X7_read_18 : decode prog_9_method_2_code 18 = .ok (.aload_n 0, 1) := by decide +kernel
theorem t_X7_read_19 : decode prog_9_method_2_code 19 = .ok (.iconst 0, 1) := by decide +kernel
theorem t_X7_read_20 : decode prog_9_method_2_code 20 = .ok (.putfield 36, 3) := by decide +kernel
theorem t_X7_read_23 : decode prog_9_method_2_code 23 = .ok (.aload_n 0, 1) := by decide +kernel
theorem t_X7_read_24 : decode prog_9_method_2_code 24 = .ok (.getfield 17, 3) := by decide +kernel
theorem t_X7_read_27 : decode prog_9_method_2_code 27 = .ok (.iconst 0, 1) := by decide +kernel
theorem t_X7_read_28 : decode prog_9_method_2_code 28 = .ok (.iconst 0, 1) := by decide +kernel
theorem t_X7_read_29 : decode prog_9_method_2_code 29 = .ok (.bastore, 1) := by decide +kernel
theorem t_X7_read_30 : decode prog_9_method_2_code 30 = .ok (.aload_n 0, 1) := by decide +kernel
theorem t_X7_read_31 : decode prog_9_method_2_code 31 = .ok (.iconst 1, 1) := by decide +kernel
theorem t_X7_read_32 : decode prog_9_method_2_code 32 = .ok (.putfield 39, 3) := by decide +kernel
theorem t_X7_read_35 : decode prog_9_method_2_code 35 = .ok (.iconst 0, 1) := by decide +kernel
theorem t_X7_read_36 : decode prog_9_method_2_code 36 = .ok (.istore_n 2, 1) := by decide +kernel
theorem t_X7_read_37 : decode prog_9_method_2_code 37 = .ok (.iload_n 2, 1) := by decide +kernel
theorem t_X7_read_38 : decode prog_9_method_2_code 38 = .ok (.aload_n 1, 1) := by decide +kernel
theorem t_X7_read_39 : decode prog_9_method_2_code 39 = .ok (.getfield 43, 3) := by decide +kernel
theorem t_X7_read_42 : decode prog_9_method_2_code 42 = .ok (.if_icmp .ge 29, 3) := by decide +kernel
theorem t_X7_read_45 : decode prog_9_method_2_code 45 = .ok (.iload_n 2, 1) := by decide +kernel
theorem t_X7_read_46 : decode prog_9_method_2_code 46 = .ok (.bipush 40, 2) := by decide +kernel
theorem t_X7_read_48 : decode prog_9_method_2_code 48 = .ok (.if_icmp .eq 15, 3) := by decide +kernel
theorem t_X7_read_51 : decode prog_9_method_2_code 51 = .ok (.aload_n 0, 1) := by decide +kernel
theorem t_X7_read_52 : decode prog_9_method_2_code 52 = .ok (.aload_n 1, 1) := by decide +kernel
theorem t_X7_read_53 : decode prog_9_method_2_code 53 = .ok (.iload_n 2, 1) := by decide +kernel
theorem t_X7_read_54 : decode prog_9_method_2_code 54 = .ok (.invokevirtual 48, 3) := by decide +kernel
theorem t_X7_read_57 : decode prog_9_method_2_code 57 = .ok (.invokevirtual 52, 3) := by decide +kernel
theorem t_X7_read_60 : decode prog_9_method_2_code 60 = .ok (.ifCond .ne 5, 3) := by decide +kernel
theorem t_X7_read_63 : decode prog_9_method_2_code 63 = .ok (.iload_n 2, 1) := by decide +kernel
theorem t_X7_read_64 : decode prog_9_method_2_code 64 = .ok (.ireturn, 1) := by decide +kernel
theorem t_X7_read_65 : decode prog_9_method_2_code 65 = .ok (.iinc 2 1, 3) := by decide +kernel
theorem t_X7_read_68 : decode prog_9_method_2_code 68 = .ok (.goto (-31), 3) := by decide +kernel
theorem t_X7_read_71 : decode prog_9_method_2_code 71 = .ok (.aload_n 1, 1) := by decide +kernel
theorem t_X7_read_72 : decode prog_9_method_2_code 72 = .ok (.getfield 43, 3) := by decide +kernel
theorem t_X7_read_75 : decode prog_9_method_2_code 75 = .ok (.ifCond .le 22, 3) := by decide +kernel
theorem t_X7_read_78 : decode prog_9_method_2_code 78 = .ok (.aload_n 0, 1) := by decide +kernel
theorem t_X7_read_79 : decode prog_9_method_2_code 79 = .ok (.getfield 39, 3) := by decide +kernel
theorem t_X7_read_82 : decode prog_9_method_2_code 82 = .ok (.ifCond .ne 10, 3) := by decide +kernel
theorem t_X7_read_85 : decode prog_9_method_2_code 85 = .ok (.aload_n 0, 1) := by decide +kernel
theorem t_X7_read_86 : decode prog_9_method_2_code 86 = .ok (.getfield 33, 3) := by decide +kernel
theorem t_X7_read_89 : decode prog_9_method_2_code 89 = .ok (.ifCond .le 8, 3) := by decide +kernel
theorem t_X7_read_92 : decode prog_9_method_2_code 92 = .ok (.aload_n 1, 1) := by decide +kernel
theorem t_X7_read_93 : decode prog_9_method_2_code 93 = .ok (.getfield 43, 3) := by decide +kernel
theorem t_X7_read_96 : decode prog_9_method_2_code 96 = .ok (.ireturn, 1) := by decide +kernel
theorem t_X7_read_97 : decode prog_9_method_2_code 97 = .ok (.aload_n 0, 1) := by decide +kernel
theorem t_X7_read_98 : decode prog_9_method_2_code 98 = .ok (.iconst 1, 1) := by decide +kernel
theorem t_X7_read_99 : decode prog_9_method_2_code 99 = .ok (.invokevirtual 56, 3) := by decide +kernel
theorem t_X7_read_102 : decode prog_9_method_2_code 102 = .ok (.iconst (-1), 1) := by decide +kernel
theorem t_X7_read_103 : decode prog_9_method_2_code 103 = .ok (.ireturn, 1) := by decide +kernel
theorem fl_6_9 : FLk "SowingBoards$Rule" 9 6 0 := ⟨_, rfl, by decide, Or.inl (vtb_at 402 (by decide +kernel) rfl)⟩
theorem fl_6_13 : FLk "SowingBoards$Rule" 13 6 1 := ⟨_, rfl, by decide, Or.inl (vtb_at 403 (by decide +kernel) rfl)⟩
theorem fl_6_16 : FLk "SowingBoards$Rule" 16 6 2 := ⟨_, rfl, by decide, Or.inl (vtb_at 404 (by decide +kernel) rfl)⟩
theorem fl_6_30 : FLk "SowingBoards$Rule" 30 1 4 := ⟨_, rfl, by decide, Or.inr ⟨"SowingBoards", vnl_at 279 (by decide +kernel) rfl⟩⟩
theorem fl_6_35 : FLk "SowingBoards$Rule" 35 1 7 := ⟨_, rfl, by decide, Or.inr ⟨"SowingBoards", vnl_at 286 (by decide +kernel) rfl⟩⟩
theorem fl_6_59 : FLk "SowingBoards$Rule" 59 1 2 := ⟨_, rfl, by decide, Or.inr ⟨"SowingBoards", vnl_at 275 (by decide +kernel) rfl⟩⟩
theorem fl_6_62 : FLk "SowingBoards$Rule" 62 1 3 := ⟨_, rfl, by decide, Or.inr ⟨"SowingBoards", vnl_at 277 (by decide +kernel) rfl⟩⟩
theorem fl_6_65 : FLk "SowingBoards$Rule" 65 1 5 := ⟨_, rfl, by decide, Or.inr ⟨"SowingBoards", vnl_at 282 (by decide +kernel) rfl⟩⟩
theorem fl_6_68 : FLk "SowingBoards$Rule" 68 1 8 := ⟨_, rfl, by decide, Or.inr ⟨"SowingBoards", vnl_at 290 (by decide +kernel) rfl⟩⟩
theorem fl_6_71 : FLk "SowingBoards$Rule" 71 1 9 := ⟨_, rfl, by decide, Or.inr ⟨"SowingBoards", vnl_at 292 (by decide +kernel) rfl⟩⟩
theorem fl_7_11 : FLk "SowingBoards$RuleReader" 11 7 0 := ⟨_, rfl, by decide, Or.inl (vtb_at 413 (by decide +kernel) rfl)⟩
theorem fl_7_17 : FLk "SowingBoards$RuleReader" 17 7 1 := ⟨_, rfl, by decide, Or.inl (vtb_at 414 (by decide +kernel) rfl)⟩
theorem fl_7_22 : FLk "SowingBoards$RuleReader" 22 7 2 := ⟨_, rfl, by decide, Or.inl (vtb_at 415 (by decide +kernel) rfl)⟩
theorem fl_7_26 : FLk "SowingBoards$RuleReader" 26 6 2 := ⟨_, rfl, by decide, Or.inr ⟨"SowingBoards", vnl_at 405 (by decide +kernel) rfl⟩⟩
theorem fl_7_30 : FLk "SowingBoards$RuleReader" 30 7 3 := ⟨_, rfl, by decide, Or.inl (vtb_at 417 (by decide +kernel) rfl)⟩
theorem fl_7_33 : FLk "SowingBoards$RuleReader" 33 7 4 := ⟨_, rfl, by decide, Or.inl (vtb_at 418 (by decide +kernel) rfl)⟩
theorem fl_7_36 : FLk "SowingBoards$RuleReader" 36 7 5 := ⟨_, rfl, by decide, Or.inl (vtb_at 419 (by decide +kernel) rfl)⟩
theorem fl_7_39 : FLk "SowingBoards$RuleReader" 39 7 6 := ⟨_, rfl, by decide, Or.inl (vtb_at 420 (by decide +kernel) rfl)⟩
theorem fl_7_43 : FLk "SowingBoards$RuleReader" 43 9 1 := ⟨_, rfl, by decide, Or.inr ⟨"SowingBoards", vnl_at 244 (by decide +kernel) rfl⟩⟩
theorem fp_6_2 : FPk 6 2 "I" := ⟨_, rfl, rfl, rfl⟩
theorem fp_7_3 : FPk 7 3 "I" := ⟨_, rfl, rfl, rfl⟩
theorem fp_7_4 : FPk 7 4 "I" := ⟨_, rfl, rfl, rfl⟩
theorem fp_7_5 : FPk 7 5 "I" := ⟨_, rfl, rfl, rfl⟩
theorem fp_7_6 : FPk 7 6 "Z" := ⟨_, rfl, rfl, rfl⟩
theorem my_X6_thing : MY y_X6_thing prog_8_method_8_code 2 (some .int) 2 := ⟨vtb_at 869 (by decide +kernel) rfl, vtb_at 149 (by decide +kernel) rfl, ⟨by decide, by decide, by decide +kernel⟩, by decide⟩
theorem ms_X6_thing : Cond.static y_X6_thing ∈ vtb := vtb_at 868 (by decide +kernel) rfl
theorem my_X6_isThing : MY y_X6_isThing prog_8_method_7_code 1 (some .boolean) 1 := ⟨vtb_at 718 (by decide +kernel) rfl, vtb_at 149 (by decide +kernel) rfl, ⟨by decide, by decide, by decide +kernel⟩, by decide⟩
theorem ms_X6_isThing : Cond.static y_X6_isThing ∈ vtb := vtb_at 717 (by decide +kernel) rfl
theorem my_X6_bind : MY y_X6_bind prog_8_method_9_code 3 (some .int) 3 := ⟨vtb_at 872 (by decide +kernel) rfl, vtb_at 149 (by decide +kernel) rfl, ⟨by decide, by decide, by decide +kernel⟩, by decide⟩
theorem ms_X6_bind : Cond.static y_X6_bind ∈ vtb := vtb_at 871 (by decide +kernel) rfl
theorem my_X6_put : MY y_X6_put prog_8_method_4_code 2 none 1 := ⟨vtb_at 474 (by decide +kernel) rfl, vtb_at 149 (by decide +kernel) rfl, ⟨by decide, by decide, by decide +kernel⟩, by decide⟩
theorem mi_X6_put : MI y_X6_put := ⟨vtb_at 473 (by decide +kernel) rfl, vtb_at 2 (by decide +kernel) rfl⟩
theorem my_X7_await : MY y_X7_await prog_9_method_8_code 2 none 1 := ⟨vtb_at 715 (by decide +kernel) rfl, vtb_at 148 (by decide +kernel) rfl, ⟨by decide, by decide, by decide +kernel⟩, by decide⟩
theorem mi_X7_await : MI y_X7_await := ⟨vtb_at 714 (by decide +kernel) rfl, vtb_at 19 (by decide +kernel) rfl⟩
theorem my_X7_strength : MY y_X7_strength prog_9_method_10_code 1 (some .int) 1 := ⟨vtb_at 731 (by decide +kernel) rfl, vtb_at 148 (by decide +kernel) rfl, ⟨by decide, by decide, by decide +kernel⟩, by decide⟩
theorem ms_X7_strength : Cond.static y_X7_strength ∈ vtb := vtb_at 730 (by decide +kernel) rfl
theorem my_X7_bindWaiting : MY y_X7_bindWaiting prog_9_method_9_code 2 none 1 := ⟨vtb_at 728 (by decide +kernel) rfl, vtb_at 148 (by decide +kernel) rfl, ⟨by decide, by decide, by decide +kernel⟩, by decide⟩
theorem mi_X7_bindWaiting : MI y_X7_bindWaiting := ⟨vtb_at 727 (by decide +kernel) rfl, vtb_at 21 (by decide +kernel) rfl⟩
theorem my_X7_dropOpening : MY y_X7_dropOpening prog_9_method_7_code 1 none 0 := ⟨vtb_at 735 (by decide +kernel) rfl, vtb_at 148 (by decide +kernel) rfl, ⟨by decide, by decide, by decide +kernel⟩, by decide⟩
theorem mi_X7_dropOpening : MI y_X7_dropOpening := ⟨vtb_at 734 (by decide +kernel) rfl, vtb_at 22 (by decide +kernel) rfl⟩
theorem my_X6_addDigit : MY y_X6_addDigit prog_8_method_5_code 2 none 1 := ⟨vtb_at 707 (by decide +kernel) rfl, vtb_at 149 (by decide +kernel) rfl, ⟨by decide, by decide, by decide +kernel⟩, by decide⟩
theorem mi_X6_addDigit : MI y_X6_addDigit := ⟨vtb_at 706 (by decide +kernel) rfl, vtb_at 17 (by decide +kernel) rfl⟩
theorem my_X7_acceptBehind : MY y_X7_acceptBehind prog_9_method_6_code 3 (some .boolean) 1 := ⟨vtb_at 724 (by decide +kernel) rfl, vtb_at 148 (by decide +kernel) rfl, ⟨by decide, by decide, by decide +kernel⟩, by decide⟩
theorem mi_X7_acceptBehind : MI y_X7_acceptBehind := ⟨vtb_at 723 (by decide +kernel) rfl, vtb_at 20 (by decide +kernel) rfl⟩
theorem my_X7_acceptAhead : MY y_X7_acceptAhead prog_9_method_5_code 2 (some .boolean) 1 := ⟨vtb_at 711 (by decide +kernel) rfl, vtb_at 148 (by decide +kernel) rfl, ⟨by decide, by decide, by decide +kernel⟩, by decide⟩
theorem mi_X7_acceptAhead : MI y_X7_acceptAhead := ⟨vtb_at 710 (by decide +kernel) rfl, vtb_at 18 (by decide +kernel) rfl⟩
theorem my_X7_acceptDigit : MY y_X7_acceptDigit prog_9_method_4_code 2 (some .boolean) 1 := ⟨vtb_at 702 (by decide +kernel) rfl, vtb_at 148 (by decide +kernel) rfl, ⟨by decide, by decide, by decide +kernel⟩, by decide⟩
theorem mi_X7_acceptDigit : MI y_X7_acceptDigit := ⟨vtb_at 701 (by decide +kernel) rfl, vtb_at 16 (by decide +kernel) rfl⟩
theorem my_X7_accept : MY y_X7_accept prog_9_method_3_code 2 (some .boolean) 1 := ⟨vtb_at 698 (by decide +kernel) rfl, vtb_at 148 (by decide +kernel) rfl, ⟨by decide, by decide, by decide +kernel⟩, by decide⟩
theorem mi_X7_accept : MI y_X7_accept := ⟨vtb_at 697 (by decide +kernel) rfl, vtb_at 15 (by decide +kernel) rfl⟩
theorem ml_6_20 : ML "SowingBoards$Rule" 20 y_X6_put := Or.inl (vtb_at 471 (by decide +kernel) rfl)
theorem ml_6_24 : Cond.methodLink "SowingBoards$Rule" 24 arraycopyName ∈ vtb := vtb_at 740 (by decide +kernel) rfl
theorem ml_6_39 : ML "SowingBoards$Rule" 39 y_X6_isThing := Or.inl (vtb_at 866 (by decide +kernel) rfl)
theorem ml_6_43 : ML "SowingBoards$Rule" 43 y_X6_thing := Or.inl (vtb_at 867 (by decide +kernel) rfl)
theorem ml_6_47 : ML "SowingBoards$Rule" 47 y_X6_bind := Or.inl (vtb_at 870 (by decide +kernel) rfl)
theorem ml_7_48 : ML "SowingBoards$RuleReader" 48 y_X9_at := Or.inr ⟨"SowingBoards", vnl_at 694 (by decide +kernel) rfl⟩
theorem ml_7_52 : ML "SowingBoards$RuleReader" 52 y_X7_accept := Or.inl (vtb_at 695 (by decide +kernel) rfl)
theorem ml_7_56 : ML "SowingBoards$RuleReader" 56 y_X7_bindWaiting := Or.inl (vtb_at 725 (by decide +kernel) rfl)
theorem ml_7_60 : ML "SowingBoards$RuleReader" 60 y_X7_acceptDigit := Or.inl (vtb_at 699 (by decide +kernel) rfl)
theorem ml_7_63 : ML "SowingBoards$RuleReader" 63 y_X7_acceptAhead := Or.inl (vtb_at 708 (by decide +kernel) rfl)
theorem ml_7_66 : ML "SowingBoards$RuleReader" 66 y_X7_acceptBehind := Or.inl (vtb_at 721 (by decide +kernel) rfl)
theorem ml_7_69 : ML "SowingBoards$RuleReader" 69 y_X6_put := Or.inr ⟨"SowingBoards", vnl_at 703 (by decide +kernel) rfl⟩
theorem ml_7_72 : ML "SowingBoards$RuleReader" 72 y_X6_addDigit := Or.inr ⟨"SowingBoards", vnl_at 704 (by decide +kernel) rfl⟩
theorem ml_7_75 : ML "SowingBoards$RuleReader" 75 y_X7_await := Or.inl (vtb_at 712 (by decide +kernel) rfl)
theorem ml_7_78 : ML "SowingBoards$RuleReader" 78 y_X6_isThing := Or.inr ⟨"SowingBoards", vnl_at 716 (by decide +kernel) rfl⟩
theorem ml_7_81 : ML "SowingBoards$RuleReader" 81 y_X7_dropOpening := Or.inl (vtb_at 732 (by decide +kernel) rfl)
theorem ml_7_84 : ML "SowingBoards$RuleReader" 84 y_X7_strength := Or.inl (vtb_at 729 (by decide +kernel) rfl)
def D_X6_bind (p0 : Int32) (p1 : Int32) (p2 : Int32) : Wd → Option (Int32 × Wd) := fun w =>
  if p0 = 42 then (some (p1 * p2, w)) else (if p0 = 43 then (some (p1 + p2, w)) else (if p0 = 45 then (some (p1 - p2, w)) else (if p0 = 60 then (if p2 ≤ p1 then (some (0, w)) else (some (1, w))) else (if p0 = 61 then (if p1 = p2 then (some (1, w)) else (some (0, w))) else (if p0 = 62 then (if p1 ≤ p2 then (some (0, w)) else (some (1, w))) else (if p2 = 0 then (some (0, w)) else (if ¬ (p2) = 0 then (some (p1 / p2, w)) else none)))))))
set_option maxRecDepth 20000 in
theorem S_X6_bind {l0 : Launch} {ρ : Nat → Nat} {cs : Nat → ClassId} {G : va_G} (hρ : injN ρ) {p0 : Int32} {p1 : Int32} {p2 : Int32} {w : Wd} {rr : (Int32 × Wd)} (hD : D_X6_bind p0 p1 p2 w = some rr) : CtI l0 ρ cs G y_X6_bind prog_8_method_9_code 3 .int 0 [.int p0, .int p1, .int p2] w rr.1 rr.2 := by
  refine ctI_of hρ (by decide) (Nat.le_of_ble_eq_true rfl) (fun X hn h hR => ?_)
  unfold D_X6_bind at hD
  show gG ρ cs G X 0 [(0, .int p0), (1, .int p1), (2, .int p2)] [] w
  refine g_iload_n h 0 t_X6_bind_0 rfl ?_
  refine g_cas hD (fun hc0 hD => ?_) (fun hc0 hD => ?_)
  · refine g_lsw (off := 100) (tgt := 101) h t_X6_bind_1 (by decide) (by show Op.lookupswitch.offset [((42 : Int), (100 : Int)), ((43 : Int), (92 : Int)), ((45 : Int), (96 : Int)), ((60 : Int), (59 : Int)), ((61 : Int), (81 : Int)), ((62 : Int), (70 : Int))] 104 _ = _; rw [hc0]; rfl) (by decide) ?_
    refine g_iload_n h 1 t_X6_bind_101 rfl ?_
    refine g_iload_n h 2 t_X6_bind_102 rfl ?_
    refine g_imul h t_X6_bind_103 ?_
    obtain rfl := Option.some.inj hD
    exact hR _ _ t_X6_bind_104 rfl
  · refine g_cas hD (fun hc1 hD => ?_) (fun hc1 hD => ?_)
    · refine g_lsw (off := 92) (tgt := 93) h t_X6_bind_1 (by decide) (by show Op.lookupswitch.offset [((42 : Int), (100 : Int)), ((43 : Int), (92 : Int)), ((45 : Int), (96 : Int)), ((60 : Int), (59 : Int)), ((61 : Int), (81 : Int)), ((62 : Int), (70 : Int))] 104 _ = _; rw [lv_osw hc0 (by decide)]; rw [hc1]; rfl) (by decide) ?_
      refine g_iload_n h 1 t_X6_bind_93 rfl ?_
      refine g_iload_n h 2 t_X6_bind_94 rfl ?_
      refine g_iadd h t_X6_bind_95 ?_
      obtain rfl := Option.some.inj hD
      exact hR _ _ t_X6_bind_96 rfl
    · refine g_cas hD (fun hc2 hD => ?_) (fun hc2 hD => ?_)
      · refine g_lsw (off := 96) (tgt := 97) h t_X6_bind_1 (by decide) (by show Op.lookupswitch.offset [((42 : Int), (100 : Int)), ((43 : Int), (92 : Int)), ((45 : Int), (96 : Int)), ((60 : Int), (59 : Int)), ((61 : Int), (81 : Int)), ((62 : Int), (70 : Int))] 104 _ = _; rw [lv_osw hc0 (by decide), lv_osw hc1 (by decide)]; rw [hc2]; rfl) (by decide) ?_
        refine g_iload_n h 1 t_X6_bind_97 rfl ?_
        refine g_iload_n h 2 t_X6_bind_98 rfl ?_
        refine g_isub h t_X6_bind_99 ?_
        obtain rfl := Option.some.inj hD
        exact hR _ _ t_X6_bind_100 rfl
      · refine g_cas hD (fun hc3 hD => ?_) (fun hc3 hD => ?_)
        · refine g_lsw (off := 59) (tgt := 60) h t_X6_bind_1 (by decide) (by show Op.lookupswitch.offset [((42 : Int), (100 : Int)), ((43 : Int), (92 : Int)), ((45 : Int), (96 : Int)), ((60 : Int), (59 : Int)), ((61 : Int), (81 : Int)), ((62 : Int), (70 : Int))] 104 _ = _; rw [lv_osw hc0 (by decide), lv_osw hc1 (by decide), lv_osw hc2 (by decide)]; rw [hc3]; rfl) (by decide) ?_
          refine g_iload_n h 1 t_X6_bind_60 rfl ?_
          refine g_iload_n h 2 t_X6_bind_61 rfl ?_
          refine g_icmp_ge (tgt := 69) h t_X6_bind_62 (by decide) hD (fun hD => ?_) (fun hD => ?_)
          · refine g_iconst (v := 0) h t_X6_bind_69 (by decide) ?_
            obtain rfl := Option.some.inj hD
            exact hR _ _ t_X6_bind_70 rfl
          · refine g_iconst (v := 1) h t_X6_bind_65 (by decide) ?_
            refine g_goto (tgt := 70) h t_X6_bind_66 (by decide) ?_
            obtain rfl := Option.some.inj hD
            exact hR _ _ t_X6_bind_70 rfl
        · refine g_cas hD (fun hc4 hD => ?_) (fun hc4 hD => ?_)
          · refine g_lsw (off := 81) (tgt := 82) h t_X6_bind_1 (by decide) (by show Op.lookupswitch.offset [((42 : Int), (100 : Int)), ((43 : Int), (92 : Int)), ((45 : Int), (96 : Int)), ((60 : Int), (59 : Int)), ((61 : Int), (81 : Int)), ((62 : Int), (70 : Int))] 104 _ = _; rw [lv_osw hc0 (by decide), lv_osw hc1 (by decide), lv_osw hc2 (by decide), lv_osw hc3 (by decide)]; rw [hc4]; rfl) (by decide) ?_
            refine g_iload_n h 1 t_X6_bind_82 rfl ?_
            refine g_iload_n h 2 t_X6_bind_83 rfl ?_
            refine g_icmp_ne (tgt := 91) h t_X6_bind_84 (by decide) hD (fun hD => ?_) (fun hD => ?_)
            · refine g_iconst (v := 0) h t_X6_bind_91 (by decide) ?_
              obtain rfl := Option.some.inj hD
              exact hR _ _ t_X6_bind_92 rfl
            · refine g_iconst (v := 1) h t_X6_bind_87 (by decide) ?_
              refine g_goto (tgt := 92) h t_X6_bind_88 (by decide) ?_
              obtain rfl := Option.some.inj hD
              exact hR _ _ t_X6_bind_92 rfl
          · refine g_cas hD (fun hc5 hD => ?_) (fun hc5 hD => ?_)
            · refine g_lsw (off := 70) (tgt := 71) h t_X6_bind_1 (by decide) (by show Op.lookupswitch.offset [((42 : Int), (100 : Int)), ((43 : Int), (92 : Int)), ((45 : Int), (96 : Int)), ((60 : Int), (59 : Int)), ((61 : Int), (81 : Int)), ((62 : Int), (70 : Int))] 104 _ = _; rw [lv_osw hc0 (by decide), lv_osw hc1 (by decide), lv_osw hc2 (by decide), lv_osw hc3 (by decide), lv_osw hc4 (by decide)]; rw [hc5]; rfl) (by decide) ?_
              refine g_iload_n h 1 t_X6_bind_71 rfl ?_
              refine g_iload_n h 2 t_X6_bind_72 rfl ?_
              refine g_icmp_le (tgt := 80) h t_X6_bind_73 (by decide) hD (fun hD => ?_) (fun hD => ?_)
              · refine g_iconst (v := 0) h t_X6_bind_80 (by decide) ?_
                obtain rfl := Option.some.inj hD
                exact hR _ _ t_X6_bind_81 rfl
              · refine g_iconst (v := 1) h t_X6_bind_76 (by decide) ?_
                refine g_goto (tgt := 81) h t_X6_bind_77 (by decide) ?_
                obtain rfl := Option.some.inj hD
                exact hR _ _ t_X6_bind_81 rfl
            · refine g_lsw (off := 104) (tgt := 105) h t_X6_bind_1 (by decide) (by show Op.lookupswitch.offset [((42 : Int), (100 : Int)), ((43 : Int), (92 : Int)), ((45 : Int), (96 : Int)), ((60 : Int), (59 : Int)), ((61 : Int), (81 : Int)), ((62 : Int), (70 : Int))] 104 _ = _; rw [lv_osw hc0 (by decide), lv_osw hc1 (by decide), lv_osw hc2 (by decide), lv_osw hc3 (by decide), lv_osw hc4 (by decide), lv_osw hc5 (by decide)]; rfl) (by decide) ?_
              refine g_iload_n h 2 t_X6_bind_105 rfl ?_
              refine g_if_ne (tgt := 113) h t_X6_bind_106 (by decide) hD (fun hD => ?_) (fun hD => ?_)
              · refine g_iload_n h 1 t_X6_bind_113 rfl ?_
                refine g_iload_n h 2 t_X6_bind_114 rfl ?_
                refine g_idiv h t_X6_bind_115 hD (fun hD => ?_)
                obtain rfl := Option.some.inj hD
                exact hR _ _ t_X6_bind_116 rfl
              · refine g_iconst (v := 0) h t_X6_bind_109 (by decide) ?_
                refine g_goto (tgt := 116) h t_X6_bind_110 (by decide) ?_
                obtain rfl := Option.some.inj hD
                exact hR _ _ t_X6_bind_116 rfl
def D_X6_isThing (p0 : Int32) : Wd → Option (Int32 × Wd) := fun w =>
  if (sidx 1 ((p0.toUInt32 % 65536).toInt32)) < 0 then (some (0, w)) else (some (1, w))
set_option maxRecDepth 20000 in
theorem S_X6_isThing {l0 : Launch} {ρ : Nat → Nat} {cs : Nat → ClassId} {G : va_G} (hρ : injN ρ) {p0 : Int32} {w : Wd} {rr : (Int32 × Wd)} (hD : D_X6_isThing p0 w = some rr) : CtI l0 ρ cs G y_X6_isThing prog_8_method_7_code 1 .boolean 9 [.int p0] w rr.1 rr.2 := by
  refine ctI_of hρ (by decide) (Nat.le_of_ble_eq_true rfl) (fun X hn h hR => ?_)
  unfold D_X6_isThing at hD
  show gG ρ cs G X 0 [(0, .int p0)] [] w
  refine g_sldc (i := 1) h (Or.inr ⟨rfl, rfl, rfl⟩) t_X6_isThing_0 ?_
  refine g_iload_n h 0 t_X6_isThing_2 rfl ?_
  refine g_i2c h t_X6_isThing_3 ?_
  refine g_sidx h (st := []) 1 (by decide) (i2c_rng _) (by decide) (vtb_at 720 (by decide +kernel) rfl) (Nat.le_of_ble_eq_true rfl) t_X6_isThing_4 ?_
  refine g_if_lt (tgt := 14) h t_X6_isThing_7 (by decide) hD (fun hD => ?_) (fun hD => ?_)
  · refine g_iconst (v := 0) h t_X6_isThing_14 (by decide) ?_
    obtain rfl := Option.some.inj hD
    exact hR _ _ t_X6_isThing_15 (b01_n rfl)
  · refine g_iconst (v := 1) h t_X6_isThing_10 (by decide) ?_
    refine g_goto (tgt := 15) h t_X6_isThing_11 (by decide) ?_
    obtain rfl := Option.some.inj hD
    exact hR _ _ t_X6_isThing_15 (b01_n rfl)
def D_X6_thing (p0 : Int32) (o1 : Nat) : Wd → Option (Int32 × Wd) := fun w =>
  if p0 = 97 then (if (w.1 o1 7) = 0 then (some (0, w)) else (some (1, w))) else (if p0 = 98 then (some (w.1 o1 9, w)) else (if p0 = 99 then (some (w.1 o1 9, w)) else (if p0 = 100 then (some (w.1 o1 9, w)) else (if p0 = 101 then (some (w.1 o1 8, w)) else (if p0 = 102 then (some (w.1 o1 9, w)) else (if p0 = 103 then (some (w.1 o1 9, w)) else (if p0 = 104 then (some (w.1 o1 9, w)) else (if p0 = 105 then (some (w.1 o1 9, w)) else (if p0 = 106 then (some (w.1 o1 9, w)) else (if p0 = 107 then (some (w.1 o1 9, w)) else (if p0 = 108 then (some (w.1 o1 5, w)) else (if p0 = 109 then (some (w.1 o1 9, w)) else (if p0 = 110 then (some (w.1 o1 3, w)) else (if p0 = 111 then (some (w.1 o1 9, w)) else (if p0 = 112 then (some (w.1 o1 2, w)) else (if p0 = 113 then (some (w.1 o1 9, w)) else (if p0 = 114 then (some (w.1 o1 9, w)) else (if p0 = 115 then (some (w.1 o1 9, w)) else (if p0 = 116 then (some (w.1 o1 4, w)) else (some (w.1 o1 9, w)))))))))))))))))))))
set_option maxRecDepth 20000 in
theorem S_X6_thing {l0 : Launch} {ρ : Nat → Nat} {cs : Nat → ClassId} {G : va_G} (hρ : injN ρ) {o1 : Nat} (ho1 : isMove o1) {p0 : Int32} {w : Wd} {rr : (Int32 × Wd)} (hD : D_X6_thing p0 o1 w = some rr) : CtI l0 ρ cs G y_X6_thing prog_8_method_8_code 2 .int 0 [.int p0, .ref (ρ o1)] w rr.1 rr.2 := by
  refine ctI_of hρ (by decide) (Nat.le_of_ble_eq_true rfl) (fun X hn h hR => ?_)
  unfold D_X6_thing at hD
  show gG ρ cs G X 0 [(0, .int p0), (1, .ref (ρ o1))] [] w
  refine g_iload_n h 0 t_X6_thing_0 rfl ?_
  refine g_cas hD (fun hc0 hD => ?_) (fun hc0 hD => ?_)
  · refine g_tswI (off := 100) (tgt := 101) h t_X6_thing_1 (by rw [hc0]; decide) (by rw [hc0]; decide) (by rw [hc0]; rfl) (by decide) ?_
    refine g_aload_n h 1 t_X6_thing_101 rfl ?_
    refine g_getI h o1 7 fl_6_35 (isMove_sh ho1) (isMove_lt ho1) rfl t_X6_thing_102 ?_
    refine g_if_eq (tgt := 112) h t_X6_thing_105 (by decide) hD (fun hD => ?_) (fun hD => ?_)
    · refine g_iconst (v := 0) h t_X6_thing_112 (by decide) ?_
      obtain rfl := Option.some.inj hD
      exact hR _ _ t_X6_thing_113 rfl
    · refine g_iconst (v := 1) h t_X6_thing_108 (by decide) ?_
      refine g_goto (tgt := 113) h t_X6_thing_109 (by decide) ?_
      obtain rfl := Option.some.inj hD
      exact hR _ _ t_X6_thing_113 rfl
  · refine g_cas hD (fun hc1 hD => ?_) (fun hc1 hD => ?_)
    · refine g_tswI (off := 133) (tgt := 134) h t_X6_thing_1 (by rw [hc1]; decide) (by rw [hc1]; decide) (by rw [hc1]; rfl) (by decide) ?_
      refine g_aload_n h 1 t_X6_thing_134 rfl ?_
      refine g_getI h o1 9 fl_6_71 (isMove_sh ho1) (isMove_lt ho1) rfl t_X6_thing_135 ?_
      obtain rfl := Option.some.inj hD
      exact hR _ _ t_X6_thing_138 rfl
    · refine g_cas hD (fun hc2 hD => ?_) (fun hc2 hD => ?_)
      · refine g_tswI (off := 133) (tgt := 134) h t_X6_thing_1 (by rw [hc2]; decide) (by rw [hc2]; decide) (by rw [hc2]; rfl) (by decide) ?_
        refine g_aload_n h 1 t_X6_thing_134 rfl ?_
        refine g_getI h o1 9 fl_6_71 (isMove_sh ho1) (isMove_lt ho1) rfl t_X6_thing_135 ?_
        obtain rfl := Option.some.inj hD
        exact hR _ _ t_X6_thing_138 rfl
      · refine g_cas hD (fun hc3 hD => ?_) (fun hc3 hD => ?_)
        · refine g_tswI (off := 133) (tgt := 134) h t_X6_thing_1 (by rw [hc3]; decide) (by rw [hc3]; decide) (by rw [hc3]; rfl) (by decide) ?_
          refine g_aload_n h 1 t_X6_thing_134 rfl ?_
          refine g_getI h o1 9 fl_6_71 (isMove_sh ho1) (isMove_lt ho1) rfl t_X6_thing_135 ?_
          obtain rfl := Option.some.inj hD
          exact hR _ _ t_X6_thing_138 rfl
        · refine g_cas hD (fun hc4 hD => ?_) (fun hc4 hD => ?_)
          · refine g_tswI (off := 128) (tgt := 129) h t_X6_thing_1 (by rw [hc4]; decide) (by rw [hc4]; decide) (by rw [hc4]; rfl) (by decide) ?_
            refine g_aload_n h 1 t_X6_thing_129 rfl ?_
            refine g_getI h o1 8 fl_6_68 (isMove_sh ho1) (isMove_lt ho1) rfl t_X6_thing_130 ?_
            obtain rfl := Option.some.inj hD
            exact hR _ _ t_X6_thing_133 rfl
          · refine g_cas hD (fun hc5 hD => ?_) (fun hc5 hD => ?_)
            · refine g_tswI (off := 133) (tgt := 134) h t_X6_thing_1 (by rw [hc5]; decide) (by rw [hc5]; decide) (by rw [hc5]; rfl) (by decide) ?_
              refine g_aload_n h 1 t_X6_thing_134 rfl ?_
              refine g_getI h o1 9 fl_6_71 (isMove_sh ho1) (isMove_lt ho1) rfl t_X6_thing_135 ?_
              obtain rfl := Option.some.inj hD
              exact hR _ _ t_X6_thing_138 rfl
            · refine g_cas hD (fun hc6 hD => ?_) (fun hc6 hD => ?_)
              · refine g_tswI (off := 133) (tgt := 134) h t_X6_thing_1 (by rw [hc6]; decide) (by rw [hc6]; decide) (by rw [hc6]; rfl) (by decide) ?_
                refine g_aload_n h 1 t_X6_thing_134 rfl ?_
                refine g_getI h o1 9 fl_6_71 (isMove_sh ho1) (isMove_lt ho1) rfl t_X6_thing_135 ?_
                obtain rfl := Option.some.inj hD
                exact hR _ _ t_X6_thing_138 rfl
              · refine g_cas hD (fun hc7 hD => ?_) (fun hc7 hD => ?_)
                · refine g_tswI (off := 133) (tgt := 134) h t_X6_thing_1 (by rw [hc7]; decide) (by rw [hc7]; decide) (by rw [hc7]; rfl) (by decide) ?_
                  refine g_aload_n h 1 t_X6_thing_134 rfl ?_
                  refine g_getI h o1 9 fl_6_71 (isMove_sh ho1) (isMove_lt ho1) rfl t_X6_thing_135 ?_
                  obtain rfl := Option.some.inj hD
                  exact hR _ _ t_X6_thing_138 rfl
                · refine g_cas hD (fun hc8 hD => ?_) (fun hc8 hD => ?_)
                  · refine g_tswI (off := 133) (tgt := 134) h t_X6_thing_1 (by rw [hc8]; decide) (by rw [hc8]; decide) (by rw [hc8]; rfl) (by decide) ?_
                    refine g_aload_n h 1 t_X6_thing_134 rfl ?_
                    refine g_getI h o1 9 fl_6_71 (isMove_sh ho1) (isMove_lt ho1) rfl t_X6_thing_135 ?_
                    obtain rfl := Option.some.inj hD
                    exact hR _ _ t_X6_thing_138 rfl
                  · refine g_cas hD (fun hc9 hD => ?_) (fun hc9 hD => ?_)
                    · refine g_tswI (off := 133) (tgt := 134) h t_X6_thing_1 (by rw [hc9]; decide) (by rw [hc9]; decide) (by rw [hc9]; rfl) (by decide) ?_
                      refine g_aload_n h 1 t_X6_thing_134 rfl ?_
                      refine g_getI h o1 9 fl_6_71 (isMove_sh ho1) (isMove_lt ho1) rfl t_X6_thing_135 ?_
                      obtain rfl := Option.some.inj hD
                      exact hR _ _ t_X6_thing_138 rfl
                    · refine g_cas hD (fun hc10 hD => ?_) (fun hc10 hD => ?_)
                      · refine g_tswI (off := 133) (tgt := 134) h t_X6_thing_1 (by rw [hc10]; decide) (by rw [hc10]; decide) (by rw [hc10]; rfl) (by decide) ?_
                        refine g_aload_n h 1 t_X6_thing_134 rfl ?_
                        refine g_getI h o1 9 fl_6_71 (isMove_sh ho1) (isMove_lt ho1) rfl t_X6_thing_135 ?_
                        obtain rfl := Option.some.inj hD
                        exact hR _ _ t_X6_thing_138 rfl
                      · refine g_cas hD (fun hc11 hD => ?_) (fun hc11 hD => ?_)
                        · refine g_tswI (off := 123) (tgt := 124) h t_X6_thing_1 (by rw [hc11]; decide) (by rw [hc11]; decide) (by rw [hc11]; rfl) (by decide) ?_
                          refine g_aload_n h 1 t_X6_thing_124 rfl ?_
                          refine g_getI h o1 5 fl_6_65 (isMove_sh ho1) (isMove_lt ho1) rfl t_X6_thing_125 ?_
                          obtain rfl := Option.some.inj hD
                          exact hR _ _ t_X6_thing_128 rfl
                        · refine g_cas hD (fun hc12 hD => ?_) (fun hc12 hD => ?_)
                          · refine g_tswI (off := 133) (tgt := 134) h t_X6_thing_1 (by rw [hc12]; decide) (by rw [hc12]; decide) (by rw [hc12]; rfl) (by decide) ?_
                            refine g_aload_n h 1 t_X6_thing_134 rfl ?_
                            refine g_getI h o1 9 fl_6_71 (isMove_sh ho1) (isMove_lt ho1) rfl t_X6_thing_135 ?_
                            obtain rfl := Option.some.inj hD
                            exact hR _ _ t_X6_thing_138 rfl
                          · refine g_cas hD (fun hc13 hD => ?_) (fun hc13 hD => ?_)
                            · refine g_tswI (off := 118) (tgt := 119) h t_X6_thing_1 (by rw [hc13]; decide) (by rw [hc13]; decide) (by rw [hc13]; rfl) (by decide) ?_
                              refine g_aload_n h 1 t_X6_thing_119 rfl ?_
                              refine g_getI h o1 3 fl_6_62 (isMove_sh ho1) (isMove_lt ho1) rfl t_X6_thing_120 ?_
                              obtain rfl := Option.some.inj hD
                              exact hR _ _ t_X6_thing_123 rfl
                            · refine g_cas hD (fun hc14 hD => ?_) (fun hc14 hD => ?_)
                              · refine g_tswI (off := 133) (tgt := 134) h t_X6_thing_1 (by rw [hc14]; decide) (by rw [hc14]; decide) (by rw [hc14]; rfl) (by decide) ?_
                                refine g_aload_n h 1 t_X6_thing_134 rfl ?_
                                refine g_getI h o1 9 fl_6_71 (isMove_sh ho1) (isMove_lt ho1) rfl t_X6_thing_135 ?_
                                obtain rfl := Option.some.inj hD
                                exact hR _ _ t_X6_thing_138 rfl
                              · refine g_cas hD (fun hc15 hD => ?_) (fun hc15 hD => ?_)
                                · refine g_tswI (off := 113) (tgt := 114) h t_X6_thing_1 (by rw [hc15]; decide) (by rw [hc15]; decide) (by rw [hc15]; rfl) (by decide) ?_
                                  refine g_aload_n h 1 t_X6_thing_114 rfl ?_
                                  refine g_getI h o1 2 fl_6_59 (isMove_sh ho1) (isMove_lt ho1) rfl t_X6_thing_115 ?_
                                  obtain rfl := Option.some.inj hD
                                  exact hR _ _ t_X6_thing_118 rfl
                                · refine g_cas hD (fun hc16 hD => ?_) (fun hc16 hD => ?_)
                                  · refine g_tswI (off := 133) (tgt := 134) h t_X6_thing_1 (by rw [hc16]; decide) (by rw [hc16]; decide) (by rw [hc16]; rfl) (by decide) ?_
                                    refine g_aload_n h 1 t_X6_thing_134 rfl ?_
                                    refine g_getI h o1 9 fl_6_71 (isMove_sh ho1) (isMove_lt ho1) rfl t_X6_thing_135 ?_
                                    obtain rfl := Option.some.inj hD
                                    exact hR _ _ t_X6_thing_138 rfl
                                  · refine g_cas hD (fun hc17 hD => ?_) (fun hc17 hD => ?_)
                                    · refine g_tswI (off := 133) (tgt := 134) h t_X6_thing_1 (by rw [hc17]; decide) (by rw [hc17]; decide) (by rw [hc17]; rfl) (by decide) ?_
                                      refine g_aload_n h 1 t_X6_thing_134 rfl ?_
                                      refine g_getI h o1 9 fl_6_71 (isMove_sh ho1) (isMove_lt ho1) rfl t_X6_thing_135 ?_
                                      obtain rfl := Option.some.inj hD
                                      exact hR _ _ t_X6_thing_138 rfl
                                    · refine g_cas hD (fun hc18 hD => ?_) (fun hc18 hD => ?_)
                                      · refine g_tswI (off := 133) (tgt := 134) h t_X6_thing_1 (by rw [hc18]; decide) (by rw [hc18]; decide) (by rw [hc18]; rfl) (by decide) ?_
                                        refine g_aload_n h 1 t_X6_thing_134 rfl ?_
                                        refine g_getI h o1 9 fl_6_71 (isMove_sh ho1) (isMove_lt ho1) rfl t_X6_thing_135 ?_
                                        obtain rfl := Option.some.inj hD
                                        exact hR _ _ t_X6_thing_138 rfl
                                      · refine g_cas hD (fun hc19 hD => ?_) (fun hc19 hD => ?_)
                                        · refine g_tswI (off := 95) (tgt := 96) h t_X6_thing_1 (by rw [hc19]; decide) (by rw [hc19]; decide) (by rw [hc19]; rfl) (by decide) ?_
                                          refine g_aload_n h 1 t_X6_thing_96 rfl ?_
                                          refine g_getI h o1 4 fl_6_30 (isMove_sh ho1) (isMove_lt ho1) rfl t_X6_thing_97 ?_
                                          obtain rfl := Option.some.inj hD
                                          exact hR _ _ t_X6_thing_100 rfl
                                        · refine g_tswO (tgt := 134) h t_X6_thing_1 (by have n0 := lv_neT hc0 (a := 97) (by decide); have n1 := lv_neT hc1 (a := 98) (by decide); have n2 := lv_neT hc2 (a := 99) (by decide); have n3 := lv_neT hc3 (a := 100) (by decide); have n4 := lv_neT hc4 (a := 101) (by decide); have n5 := lv_neT hc5 (a := 102) (by decide); have n6 := lv_neT hc6 (a := 103) (by decide); have n7 := lv_neT hc7 (a := 104) (by decide); have n8 := lv_neT hc8 (a := 105) (by decide); have n9 := lv_neT hc9 (a := 106) (by decide); have n10 := lv_neT hc10 (a := 107) (by decide); have n11 := lv_neT hc11 (a := 108) (by decide); have n12 := lv_neT hc12 (a := 109) (by decide); have n13 := lv_neT hc13 (a := 110) (by decide); have n14 := lv_neT hc14 (a := 111) (by decide); have n15 := lv_neT hc15 (a := 112) (by decide); have n16 := lv_neT hc16 (a := 113) (by decide); have n17 := lv_neT hc17 (a := 114) (by decide); have n18 := lv_neT hc18 (a := 115) (by decide); have n19 := lv_neT hc19 (a := 116) (by decide); omega) (by decide) ?_
                                          refine g_aload_n h 1 t_X6_thing_134 rfl ?_
                                          refine g_getI h o1 9 fl_6_71 (isMove_sh ho1) (isMove_lt ho1) rfl t_X6_thing_135 ?_
                                          obtain rfl := Option.some.inj hD
                                          exact hR _ _ t_X6_thing_138 rfl
def J_X6_judge_j115_1 (x13 : Int32) (q1 : Nat) (k11 : Int32 → Wd → Option (Int32 × Wd)) : Int32 → Wd → Option (Int32 × Wd) := fun x16 w17 =>
  if ib x13 40 then bd (wI w17 (q1 + 2) x13.toNatClampNeg x16) (fun w19 => bd (x13 + 1) fun x20 => k11 x20 w19) else none
def J_X6_judge_j93_2 (q1 : Nat) (k11 : Int32 → Wd → Option (Int32 × Wd)) (x8 : Int32) (q2 : Nat) : Int32 → Wd → Option (Int32 × Wd) := fun x13 w14 =>
  bd (J_X6_judge_j115_1 x13 q1 k11) fun k18 => if x8 < 0 then (bc (D_X6_thing (-x8) q2 w14) fun x22 w21 => k18 x22 w21) else (k18 x8 w14)
def J_X6_judge_j158_3 (r31 : Int32 → Int32 → Wd → Option (Int32 × Wd)) (x6 : Int32) : Int32 → Wd → Option (Int32 × Wd) := fun x9 w10 =>
  bd (x6 + 1) fun x12 => r31 x9 x12 w10
def L_X6_judge_31 (q1 : Nat) (q2 : Nat) (k3 : Wd → Option (Int32 × Wd)) : Nat → Int32 → Int32 → Wd → Option (Int32 × Wd)
  | 0, _, _, _ => none
  | n4 + 1, x5, x6, w7 =>
    if (w7.1 q1 2) ≤ x6 then (k3 w7) else (if ib x6 40 then (bd (w7.1 (q1 + 1) x6.toNatClampNeg) fun x8 => bd (J_X6_judge_j158_3 (L_X6_judge_31 q1 q2 k3 n4) x6) fun k11 => if x8 = (-256) then (if x5 ≤ 0 then (k11 x5 w7) else (if ib (x5 - 1) 40 then (if ib (x5 - 1) 40 then bd (wI w7 (q1 + 2) (x5 - 1).toNatClampNeg (-(w7.1 (q1 + 2) (x5 - 1).toNatClampNeg))) (fun w29 => k11 x5 w29) else none) else none)) else (bd (J_X6_judge_j93_2 q1 k11 x8 q2) fun k15 => if 0 ≤ x8 then (k15 x5 w7) else (bc (D_X6_isThing (-x8) w7) fun x24 w23 => if x24 = 0 then (if x5 ≤ 1 then (k11 x5 w23) else (bd (x5 + (-1)) fun x25 => if ib (x25 - 1) 40 then (if ib x25 40 then (bc (D_X6_bind (-x8) (w23.1 (q1 + 2) (x25 - 1).toNatClampNeg) (w23.1 (q1 + 2) x25.toNatClampNeg) w23) fun x27 w26 => if ib (x25 - 1) 40 then bd (wI w26 (q1 + 2) (x25 - 1).toNatClampNeg x27) (fun w28 => k11 x25 w28) else none) else none) else none)) else (k15 x5 w23)))) else none)
def J_X6_judge_x164_4 (o0 : Nat) : Wd → Option (Int32 × Wd) := fun w30 =>
  if ib 0 40 then (some (w30.1 (o0 + 2) (0 : Int32).toNatClampNeg, w30)) else none
def D_X6_judge (o0 : Nat) (o1 : Nat) : Wd → Option (Int32 × Wd) := fun w =>
  if (w.1 o0 2) = 0 then (if (w.1 o1 7) = 0 then (some (((w.1 o1 4) * 3) + 0, w)) else (some (((w.1 o1 4) * 3) + 2, w))) else (L_X6_judge_31 o0 o1 (J_X6_judge_x164_4 o0) FU 0 0 w)
set_option maxRecDepth 20000 in
theorem Q_X6_judge_31 {l0 : Launch} {ρ : Nat → Nat} {cs : Nat → ClassId} {G : va_G} {X : Cx} (hρ : injN ρ) (hn : X.2.2.2.2.2.2.2.2.2.2.1 = 5) (h : Okx l0 ρ cs G X prog_8_method_6_code "SowingBoards$Rule" 10) {rr : (Int32 × Wd)} (hR : ∀ pc L, decode prog_8_method_6_code pc = .ok (.ireturn, 1) → narrow .int (.int rr.1) = .int rr.1 → gG ρ cs G X pc L [.int rr.1] rr.2) {q1 : Nat} (hq1 : isRule q1) {q2 : Nat} (hq2 : isMove q2) {k3 : Wd → Option (Int32 × Wd)} (hk3 : ∀ (w1 : Wd), k3 w1 = some rr → gG ρ cs G X 164 [(0, .ref (ρ q1))] [] w1) : ∀ (n : Nat) (x5 : Int32) (x6 : Int32) (w : Wd), L_X6_judge_31 q1 q2 k3 n x5 x6 w = some rr → gG ρ cs G X 31 [(0, .ref (ρ q1)), (1, .ref (ρ q2)), (2, .int x5), (3, .int x6)] [] w := by
  intro n
  induction n with
  | zero =>
    intro x5 x6 w hD
    cases hD
  | succ n4 ih =>
    intro x5 x6 w7 hD
    unfold L_X6_judge_31 at hD
    refine g_iload_n h 3 t_X6_judge_31 rfl ?_
    refine g_aload_n h 0 t_X6_judge_32 rfl ?_
    refine g_getI h q1 2 fl_6_16 (isRule_sh hq1) (isRule_lt hq1) rfl t_X6_judge_33 ?_
    refine g_icmp_ge (tgt := 164) h t_X6_judge_36 (by decide) hD (fun hD => ?_) (fun hD => ?_)
    · refine g_loc (L' := [(0, .ref (ρ q1))]) h [0] rfl ?_
      exact hk3 _ hD
    · refine g_aload_n h 0 t_X6_judge_39 rfl ?_
      refine g_getQ h q1 0 (q1 + 1) 1 (by decide) rfl fl_6_9 (isRule_sh hq1) (isRule_lt hq1) rfl t_X6_judge_40 ?_
      refine g_iload_n h 3 t_X6_judge_43 rfl ?_
      refine g_iald h (q1 + 1) (isRule_s1 hq1) (isRule_l1 hq1) t_X6_judge_44 hD (fun hD => ?_)
      refine g_bdI hD (fun x8 hD => ?_)
      refine g_istore (L' := [(4, .int x8), (0, .ref (ρ q1)), (1, .ref (ρ q2)), (2, .int x5), (3, .int x6)]) h hn t_X6_judge_45 (by decide) rfl ?_
      refine g_iload h 0 t_X6_judge_47 rfl ?_
      refine g_sipush (v := (-256)) h t_X6_judge_49 (by decide) ?_
      refine g_join (P := fun k11 => ∀ (x9 : Int32) (w10 : Wd), k11 x9 w10 = some rr → gG ρ cs G X 158 [(0, .ref (ρ q1)), (1, .ref (ρ q2)), (2, .int x9), (3, .int x6)] [] w10) hD ?_ (fun k11 hk11 hD => ?_)
      · intro x9 w10 hD
        unfold J_X6_judge_j158_3 at hD
        obtain ⟨x12, ex12, hD⟩ := bd_ex hD
        refine g_iinc (v := x12) (L' := [(3, .int x12), (0, .ref (ρ q1)), (1, .ref (ρ q2)), (2, .int x9)]) h hn t_X6_judge_158 (k := 3) rfl (by rw [ex12]; rfl) (by decide) rfl ?_
        refine g_goto (tgt := 31) h t_X6_judge_161 (by decide) ?_
        refine g_loc (L' := [(0, .ref (ρ q1)), (1, .ref (ρ q2)), (2, .int x9), (3, .int x12)]) h [1, 2, 3, 0] rfl ?_
        exact ih x9 x12 _ hD
      · refine g_icmp_ne (tgt := 79) h t_X6_judge_52 (by decide) hD (fun hD => ?_) (fun hD => ?_)
        · refine g_iload h 0 t_X6_judge_79 rfl ?_
          refine g_join (P := fun k15 => ∀ (x13 : Int32) (w14 : Wd), k15 x13 w14 = some rr → gG ρ cs G X 93 [(0, .ref (ρ q1)), (1, .ref (ρ q2)), (2, .int x13), (3, .int x6), (4, .int x8)] [] w14) hD ?_ (fun k15 hk15 hD => ?_)
          · intro x13 w14 hD
            unfold J_X6_judge_j93_2 at hD
            refine g_aload_n h 0 t_X6_judge_93 rfl ?_
            refine g_getQ h q1 1 (q1 + 2) 2 (by decide) rfl fl_6_13 (isRule_sh hq1) (isRule_lt hq1) rfl t_X6_judge_94 ?_
            refine g_iload_n h 2 t_X6_judge_97 rfl ?_
            refine g_iload h 4 t_X6_judge_98 rfl ?_
            refine g_join (P := fun k18 => ∀ (x16 : Int32) (w17 : Wd), k18 x16 w17 = some rr → gG ρ cs G X 115 [(0, .ref (ρ q1)), (1, .ref (ρ q2)), (2, .int x13), (3, .int x6)] [.int x16, .int x13, .ref (ρ (q1 + 2))] w17) hD ?_ (fun k18 hk18 hD => ?_)
            · intro x16 w17 hD
              unfold J_X6_judge_j115_1 at hD
              refine g_iast h (q1 + 2) (isRule_s2 hq1) (isRule_l2 hq1) t_X6_judge_115 hD (fun w19 hD => ?_)
              obtain ⟨x20, ex20, hD⟩ := bd_ex hD
              refine g_iinc (v := x20) (L' := [(2, .int x20), (0, .ref (ρ q1)), (1, .ref (ρ q2)), (3, .int x6)]) h hn t_X6_judge_116 (k := 2) rfl (by rw [ex20]; rfl) (by decide) rfl ?_
              refine g_goto (tgt := 158) h t_X6_judge_119 (by decide) ?_
              refine g_loc (L' := [(0, .ref (ρ q1)), (1, .ref (ρ q2)), (2, .int x20), (3, .int x6)]) h [1, 2, 0, 3] rfl ?_
              exact hk11 x20 _ hD
            · refine g_if_lt (tgt := 108) h t_X6_judge_100 (by decide) hD (fun hD => ?_) (fun hD => ?_)
              · refine g_iload h 4 t_X6_judge_108 rfl ?_
                refine g_ineg h t_X6_judge_110 ?_
                refine g_aload_n h 1 t_X6_judge_111 rfl ?_
                refine g_callSI h (As := [.int (-x8), .ref (ρ q2)]) (st := [.int x13, .ref (ρ (q1 + 2))]) my_X6_thing ms_X6_thing ml_6_43 rfl rfl (Nat.le_of_ble_eq_true rfl) (by decide) t_X6_judge_112 hD (fun _ _ e => S_X6_thing hρ hq2 e) (fun x22 w21 hD => ?_)
                refine g_loc (L' := [(0, .ref (ρ q1)), (1, .ref (ρ q2)), (2, .int x13), (3, .int x6)]) h [0, 1, 2, 3] rfl ?_
                exact hk18 x22 _ hD
              · refine g_iload h 4 t_X6_judge_103 rfl ?_
                refine g_goto (tgt := 115) h t_X6_judge_105 (by decide) ?_
                refine g_loc (L' := [(0, .ref (ρ q1)), (1, .ref (ρ q2)), (2, .int x13), (3, .int x6)]) h [0, 1, 2, 3] rfl ?_
                exact hk18 x8 _ hD
          · refine g_if_ge (tgt := 93) h t_X6_judge_81 (by decide) hD (fun hD => ?_) (fun hD => ?_)
            · refine g_loc (L' := [(0, .ref (ρ q1)), (1, .ref (ρ q2)), (2, .int x5), (3, .int x6), (4, .int x8)]) h [1, 2, 3, 4, 0] rfl ?_
              exact hk15 x5 _ hD
            · refine g_iload h 0 t_X6_judge_84 rfl ?_
              refine g_ineg h t_X6_judge_86 ?_
              refine g_callSI h (As := [.int (-x8)]) (st := []) my_X6_isThing ms_X6_isThing ml_6_39 rfl rfl (Nat.le_of_ble_eq_true rfl) (by decide) t_X6_judge_87 hD (fun _ _ e => S_X6_isThing hρ  e) (fun x24 w23 hD => ?_)
              refine g_if_eq (tgt := 122) h t_X6_judge_90 (by decide) hD (fun hD => ?_) (fun hD => ?_)
              · refine g_iload_n h 3 t_X6_judge_122 rfl ?_
                refine g_iconst (v := 1) h t_X6_judge_123 (by decide) ?_
                refine g_icmp_le (tgt := 158) h t_X6_judge_124 (by decide) hD (fun hD => ?_) (fun hD => ?_)
                · refine g_loc (L' := [(0, .ref (ρ q1)), (1, .ref (ρ q2)), (2, .int x5), (3, .int x6)]) h [1, 2, 3, 4] rfl ?_
                  exact hk11 x5 _ hD
                · obtain ⟨x25, ex25, hD⟩ := bd_ex hD
                  refine g_iinc (v := x25) (L' := [(2, .int x25), (4, .int x8), (0, .ref (ρ q1)), (1, .ref (ρ q2)), (3, .int x6)]) h hn t_X6_judge_127 (k := 3) rfl (by rw [ex25]; rfl) (by decide) rfl ?_
                  refine g_aload_n h 2 t_X6_judge_130 rfl ?_
                  refine g_getQ h q1 1 (q1 + 2) 2 (by decide) rfl fl_6_13 (isRule_sh hq1) (isRule_lt hq1) rfl t_X6_judge_131 ?_
                  refine g_iload_n h 0 t_X6_judge_134 rfl ?_
                  refine g_iconst (v := 1) h t_X6_judge_135 (by decide) ?_
                  refine g_isub h t_X6_judge_136 ?_
                  refine g_iload h 1 t_X6_judge_137 rfl ?_
                  refine g_ineg h t_X6_judge_139 ?_
                  refine g_aload_n h 2 t_X6_judge_140 rfl ?_
                  refine g_getQ h q1 1 (q1 + 2) 2 (by decide) rfl fl_6_13 (isRule_sh hq1) (isRule_lt hq1) rfl t_X6_judge_141 ?_
                  refine g_iload_n h 0 t_X6_judge_144 rfl ?_
                  refine g_iconst (v := 1) h t_X6_judge_145 (by decide) ?_
                  refine g_isub h t_X6_judge_146 ?_
                  refine g_iald h (q1 + 2) (isRule_s2 hq1) (isRule_l2 hq1) t_X6_judge_147 hD (fun hD => ?_)
                  refine g_aload_n h 2 t_X6_judge_148 rfl ?_
                  refine g_getQ h q1 1 (q1 + 2) 2 (by decide) rfl fl_6_13 (isRule_sh hq1) (isRule_lt hq1) rfl t_X6_judge_149 ?_
                  refine g_iload_n h 0 t_X6_judge_152 rfl ?_
                  refine g_iald h (q1 + 2) (isRule_s2 hq1) (isRule_l2 hq1) t_X6_judge_153 hD (fun hD => ?_)
                  refine g_callSI h (As := [.int (-x8), .int (w23.1 (q1 + 2) (x25 - 1).toNatClampNeg), .int (w23.1 (q1 + 2) x25.toNatClampNeg)]) (st := [.int (x25 - 1), .ref (ρ (q1 + 2))]) my_X6_bind ms_X6_bind ml_6_47 rfl rfl (Nat.le_of_ble_eq_true rfl) (by decide) t_X6_judge_154 hD (fun _ _ e => S_X6_bind hρ  e) (fun x27 w26 hD => ?_)
                  refine g_iast h (q1 + 2) (isRule_s2 hq1) (isRule_l2 hq1) t_X6_judge_157 hD (fun w28 hD => ?_)
                  refine g_loc (L' := [(0, .ref (ρ q1)), (1, .ref (ρ q2)), (2, .int x25), (3, .int x6)]) h [2, 3, 0, 4] rfl ?_
                  exact hk11 x25 _ hD
              · refine g_loc (L' := [(0, .ref (ρ q1)), (1, .ref (ρ q2)), (2, .int x5), (3, .int x6), (4, .int x8)]) h [1, 2, 3, 4, 0] rfl ?_
                exact hk15 x5 _ hD
        · refine g_iload_n h 3 t_X6_judge_55 rfl ?_
          refine g_if_le (tgt := 158) h t_X6_judge_56 (by decide) hD (fun hD => ?_) (fun hD => ?_)
          · refine g_loc (L' := [(0, .ref (ρ q1)), (1, .ref (ρ q2)), (2, .int x5), (3, .int x6)]) h [1, 2, 3, 4] rfl ?_
            exact hk11 x5 _ hD
          · refine g_aload_n h 1 t_X6_judge_59 rfl ?_
            refine g_getQ h q1 1 (q1 + 2) 2 (by decide) rfl fl_6_13 (isRule_sh hq1) (isRule_lt hq1) rfl t_X6_judge_60 ?_
            refine g_iload_n h 3 t_X6_judge_63 rfl ?_
            refine g_iconst (v := 1) h t_X6_judge_64 (by decide) ?_
            refine g_isub h t_X6_judge_65 ?_
            refine g_aload_n h 1 t_X6_judge_66 rfl ?_
            refine g_getQ h q1 1 (q1 + 2) 2 (by decide) rfl fl_6_13 (isRule_sh hq1) (isRule_lt hq1) rfl t_X6_judge_67 ?_
            refine g_iload_n h 3 t_X6_judge_70 rfl ?_
            refine g_iconst (v := 1) h t_X6_judge_71 (by decide) ?_
            refine g_isub h t_X6_judge_72 ?_
            refine g_iald h (q1 + 2) (isRule_s2 hq1) (isRule_l2 hq1) t_X6_judge_73 hD (fun hD => ?_)
            refine g_ineg h t_X6_judge_74 ?_
            refine g_iast h (q1 + 2) (isRule_s2 hq1) (isRule_l2 hq1) t_X6_judge_75 hD (fun w29 hD => ?_)
            refine g_goto (tgt := 158) h t_X6_judge_76 (by decide) ?_
            refine g_loc (L' := [(0, .ref (ρ q1)), (1, .ref (ρ q2)), (2, .int x5), (3, .int x6)]) h [1, 2, 3, 4] rfl ?_
            exact hk11 x5 _ hD
set_option maxRecDepth 20000 in
theorem S_X6_judge {l0 : Launch} {ρ : Nat → Nat} {cs : Nat → ClassId} {G : va_G} (hρ : injN ρ) {o0 : Nat} (ho0 : isRule o0) {o1 : Nat} (ho1 : isMove o1) {w : Wd} {rr : (Int32 × Wd)} (hD : D_X6_judge o0 o1 w = some rr) : CtI l0 ρ cs G y_X6_judge prog_8_method_6_code 5 .int 10 [.ref (ρ o0), .ref (ρ o1)] w rr.1 rr.2 := by
  refine ctI_of hρ (by decide) (Nat.le_of_ble_eq_true rfl) (fun X hn h hR => ?_)
  unfold D_X6_judge at hD
  show gG ρ cs G X 0 [(0, .ref (ρ o0)), (1, .ref (ρ o1))] [] w
  refine g_aload_n h 0 t_X6_judge_0 rfl ?_
  refine g_getI h o0 2 fl_6_16 (isRule_sh ho0) (isRule_lt ho0) rfl t_X6_judge_1 ?_
  refine g_if_ne (tgt := 27) h t_X6_judge_4 (by decide) hD (fun hD => ?_) (fun hD => ?_)
  · refine g_iconst (v := 0) h t_X6_judge_27 (by decide) ?_
    refine g_istore_n (L' := [(2, .int 0), (0, .ref (ρ o0)), (1, .ref (ρ o1))]) h hn t_X6_judge_28 rfl (by decide) rfl ?_
    refine g_iconst (v := 0) h t_X6_judge_29 (by decide) ?_
    refine g_istore_n (L' := [(3, .int 0), (2, .int 0), (0, .ref (ρ o0)), (1, .ref (ρ o1))]) h hn t_X6_judge_30 rfl (by decide) rfl ?_
    refine g_loc (L' := [(0, .ref (ρ o0)), (1, .ref (ρ o1)), (2, .int 0), (3, .int 0)]) h [2, 3, 1, 0] rfl ?_
    refine Q_X6_judge_31 hρ hn h hR ho0 ho1 ?_ _ _ _ _ hD
    · intro w30 hD
      unfold J_X6_judge_x164_4 at hD
      refine g_aload_n h 0 t_X6_judge_164 rfl ?_
      refine g_getQ h o0 1 (o0 + 2) 2 (by decide) rfl fl_6_13 (isRule_sh ho0) (isRule_lt ho0) rfl t_X6_judge_165 ?_
      refine g_iconst (v := 0) h t_X6_judge_168 (by decide) ?_
      refine g_iald h (o0 + 2) (isRule_s2 ho0) (isRule_l2 ho0) t_X6_judge_169 hD (fun hD => ?_)
      obtain rfl := Option.some.inj hD
      exact hR _ _ t_X6_judge_170 rfl
  · refine g_aload_n h 1 t_X6_judge_7 rfl ?_
    refine g_getI h o1 4 fl_6_30 (isMove_sh ho1) (isMove_lt ho1) rfl t_X6_judge_8 ?_
    refine g_iconst (v := 3) h t_X6_judge_11 (by decide) ?_
    refine g_imul h t_X6_judge_12 ?_
    refine g_aload_n h 1 t_X6_judge_13 rfl ?_
    refine g_getI h o1 7 fl_6_35 (isMove_sh ho1) (isMove_lt ho1) rfl t_X6_judge_14 ?_
    refine g_if_eq (tgt := 24) h t_X6_judge_17 (by decide) hD (fun hD => ?_) (fun hD => ?_)
    · refine g_iconst (v := 0) h t_X6_judge_24 (by decide) ?_
      refine g_iadd h t_X6_judge_25 ?_
      obtain rfl := Option.some.inj hD
      exact hR _ _ t_X6_judge_26 rfl
    · refine g_iconst (v := 2) h t_X6_judge_20 (by decide) ?_
      refine g_goto (tgt := 25) h t_X6_judge_21 (by decide) ?_
      refine g_iadd h t_X6_judge_25 ?_
      obtain rfl := Option.some.inj hD
      exact hR _ _ t_X6_judge_26 rfl
def D_X6_put (o0 : Nat) (p1 : Int32) : Wd → Option Wd := fun w =>
  if 40 ≤ (w.1 o0 2) then (some w) else (if ib (w.1 o0 2) 40 then bd (wI w (o0 + 1) (w.1 o0 2).toNatClampNeg p1) (fun w1 => bd (wI w1 o0 2 ((w1.1 o0 2) + 1)) fun w2 => some w2) else none)
set_option maxRecDepth 20000 in
theorem S_X6_put {l0 : Launch} {ρ : Nat → Nat} {cs : Nat → ClassId} {G : va_G} (hρ : injN ρ) {o0 : Nat} (ho0 : isRule o0) {p1 : Int32} {w : Wd} {rr : Wd} (hD : D_X6_put o0 p1 w = some rr) : CtV l0 ρ cs G y_X6_put prog_8_method_4_code 2 0 [.ref (ρ o0), .int p1] w rr := by
  refine ctV_of hρ (by decide) (Nat.le_of_ble_eq_true rfl) (fun X hn h hR => ?_)
  unfold D_X6_put at hD
  show gG ρ cs G X 0 [(0, .ref (ρ o0)), (1, .int p1)] [] w
  refine g_aload_n h 0 t_X6_put_0 rfl ?_
  refine g_getI h o0 2 fl_6_16 (isRule_sh ho0) (isRule_lt ho0) rfl t_X6_put_1 ?_
  refine g_bipush (v := 40) h t_X6_put_4 (by decide) ?_
  refine g_icmp_ge (tgt := 29) h t_X6_put_6 (by decide) hD (fun hD => ?_) (fun hD => ?_)
  · obtain rfl := Option.some.inj hD
    exact hR _ _ t_X6_put_29
  · refine g_aload_n h 0 t_X6_put_9 rfl ?_
    refine g_getQ h o0 0 (o0 + 1) 1 (by decide) rfl fl_6_9 (isRule_sh ho0) (isRule_lt ho0) rfl t_X6_put_10 ?_
    refine g_aload_n h 0 t_X6_put_13 rfl ?_
    refine g_getI h o0 2 fl_6_16 (isRule_sh ho0) (isRule_lt ho0) rfl t_X6_put_14 ?_
    refine g_iload_n h 1 t_X6_put_17 rfl ?_
    refine g_iast h (o0 + 1) (isRule_s1 ho0) (isRule_l1 ho0) t_X6_put_18 hD (fun w1 hD => ?_)
    refine g_aload_n h 0 t_X6_put_19 rfl ?_
    refine g_dup h t_X6_put_20 rfl ?_
    refine g_getI h o0 2 fl_6_16 (isRule_sh ho0) (isRule_lt ho0) rfl t_X6_put_21 ?_
    refine g_iconst (v := 1) h t_X6_put_24 (by decide) ?_
    refine g_iadd h t_X6_put_25 ?_
    refine g_putI h o0 2 fl_6_16 fp_6_2 (isRule_sh ho0) (isRule_lt ho0) rfl t_X6_put_26 hD (fun w2 hD => ?_)
    obtain rfl := Option.some.inj hD
    exact hR _ _ t_X6_put_29
def D_X6_becomesThing (o0 : Nat) (p1 : Int32) : Wd → Option Wd := fun w =>
  bd (wI w o0 2 0) fun w1 => bv (D_X6_put o0 (-p1) w1) fun w2 => some w2
set_option maxRecDepth 20000 in
theorem S_X6_becomesThing {l0 : Launch} {ρ : Nat → Nat} {cs : Nat → ClassId} {G : va_G} (hρ : injN ρ) {o0 : Nat} (ho0 : isRule o0) {p1 : Int32} {w : Wd} {rr : Wd} (hD : D_X6_becomesThing o0 p1 w = some rr) : CtV l0 ρ cs G y_X6_becomesThing prog_8_method_2_code 2 1 [.ref (ρ o0), .int p1] w rr := by
  refine ctV_of hρ (by decide) (Nat.le_of_ble_eq_true rfl) (fun X hn h hR => ?_)
  unfold D_X6_becomesThing at hD
  show gG ρ cs G X 0 [(0, .ref (ρ o0)), (1, .int p1)] [] w
  refine g_aload_n h 0 t_X6_becomesThing_0 rfl ?_
  refine g_iconst (v := 0) h t_X6_becomesThing_1 (by decide) ?_
  refine g_putI h o0 2 fl_6_16 fp_6_2 (isRule_sh ho0) (isRule_lt ho0) rfl t_X6_becomesThing_2 hD (fun w1 hD => ?_)
  refine g_aload_n h 0 t_X6_becomesThing_5 rfl ?_
  refine g_iload_n h 1 t_X6_becomesThing_6 rfl ?_
  refine g_ineg h t_X6_becomesThing_7 ?_
  refine g_callVV h o0 (As := [.int (-p1)]) (st := []) my_X6_put mi_X6_put ml_6_20 (isRule_sh ho0) (isRule_lt ho0) rfl rfl rfl (Nat.le_of_ble_eq_true rfl) (by decide) t_X6_becomesThing_8 hD (fun _ e => S_X6_put hρ ho0 e) (fun w2 hD => ?_)
  obtain rfl := Option.some.inj hD
  exact hR _ _ t_X6_becomesThing_11
def D_X6_take (o0 : Nat) (o1 : Nat) : Wd → Option Wd := fun w =>
  bd (wI w o0 2 (w.1 o1 2)) fun w1 => if cpb 0 0 40 40 40 then bd (wC w1 (o1 + 1) (o0 + 1) 0 0 40) (fun w2 => some w2) else none
set_option maxRecDepth 20000 in
theorem S_X6_take {l0 : Launch} {ρ : Nat → Nat} {cs : Nat → ClassId} {G : va_G} (hρ : injN ρ) {o0 : Nat} (ho0 : isRule o0) {o1 : Nat} (ho1 : isRule o1) {w : Wd} {rr : Wd} (hD : D_X6_take o0 o1 w = some rr) : CtV l0 ρ cs G y_X6_take prog_8_method_3_code 2 0 [.ref (ρ o0), .ref (ρ o1)] w rr := by
  refine ctV_of hρ (by decide) (Nat.le_of_ble_eq_true rfl) (fun X hn h hR => ?_)
  unfold D_X6_take at hD
  show gG ρ cs G X 0 [(0, .ref (ρ o0)), (1, .ref (ρ o1))] [] w
  refine g_aload_n h 0 t_X6_take_0 rfl ?_
  refine g_aload_n h 1 t_X6_take_1 rfl ?_
  refine g_getI h o1 2 fl_6_16 (isRule_sh ho1) (isRule_lt ho1) rfl t_X6_take_2 ?_
  refine g_putI h o0 2 fl_6_16 fp_6_2 (isRule_sh ho0) (isRule_lt ho0) rfl t_X6_take_5 hD (fun w1 hD => ?_)
  refine g_aload_n h 1 t_X6_take_8 rfl ?_
  refine g_getQ h o1 0 (o1 + 1) 1 (by decide) rfl fl_6_9 (isRule_sh ho1) (isRule_lt ho1) rfl t_X6_take_9 ?_
  refine g_iconst (v := 0) h t_X6_take_12 (by decide) ?_
  refine g_aload_n h 0 t_X6_take_13 rfl ?_
  refine g_getQ h o0 0 (o0 + 1) 1 (by decide) rfl fl_6_9 (isRule_sh ho0) (isRule_lt ho0) rfl t_X6_take_14 ?_
  refine g_iconst (v := 0) h t_X6_take_17 (by decide) ?_
  refine g_bipush (v := 40) h t_X6_take_18 (by decide) ?_
  refine g_acpy h hn (st := []) (o1 + 1) (o0 + 1) (isRule_s1 ho1) (isRule_l1 ho1) (isRule_s1 ho0) (isRule_l1 ho0) ml_6_24 (Nat.le_of_ble_eq_true rfl) t_X6_take_20 hD (fun w2 hD => ?_)
  obtain rfl := Option.some.inj hD
  exact hR _ _ t_X6_take_23
def D_X6_addDigit (o0 : Nat) (p1 : Int32) : Wd → Option Wd := fun w =>
  if (w.1 o0 2) ≤ 0 then (some w) else (if ib ((w.1 o0 2) - 1) 40 then (if ib ((w.1 o0 2) - 1) 40 then bd (wI w (o0 + 1) ((w.1 o0 2) - 1).toNatClampNeg (((w.1 (o0 + 1) ((w.1 o0 2) - 1).toNatClampNeg) * 10) + p1)) (fun w1 => some w1) else none) else none)
set_option maxRecDepth 20000 in
theorem S_X6_addDigit {l0 : Launch} {ρ : Nat → Nat} {cs : Nat → ClassId} {G : va_G} (hρ : injN ρ) {o0 : Nat} (ho0 : isRule o0) {p1 : Int32} {w : Wd} {rr : Wd} (hD : D_X6_addDigit o0 p1 w = some rr) : CtV l0 ρ cs G y_X6_addDigit prog_8_method_5_code 2 0 [.ref (ρ o0), .int p1] w rr := by
  refine ctV_of hρ (by decide) (Nat.le_of_ble_eq_true rfl) (fun X hn h hR => ?_)
  unfold D_X6_addDigit at hD
  show gG ρ cs G X 0 [(0, .ref (ρ o0)), (1, .int p1)] [] w
  refine g_aload_n h 0 t_X6_addDigit_0 rfl ?_
  refine g_getI h o0 2 fl_6_16 (isRule_sh ho0) (isRule_lt ho0) rfl t_X6_addDigit_1 ?_
  refine g_if_le (tgt := 34) h t_X6_addDigit_4 (by decide) hD (fun hD => ?_) (fun hD => ?_)
  · obtain rfl := Option.some.inj hD
    exact hR _ _ t_X6_addDigit_34
  · refine g_aload_n h 0 t_X6_addDigit_7 rfl ?_
    refine g_getQ h o0 0 (o0 + 1) 1 (by decide) rfl fl_6_9 (isRule_sh ho0) (isRule_lt ho0) rfl t_X6_addDigit_8 ?_
    refine g_aload_n h 0 t_X6_addDigit_11 rfl ?_
    refine g_getI h o0 2 fl_6_16 (isRule_sh ho0) (isRule_lt ho0) rfl t_X6_addDigit_12 ?_
    refine g_iconst (v := 1) h t_X6_addDigit_15 (by decide) ?_
    refine g_isub h t_X6_addDigit_16 ?_
    refine g_aload_n h 0 t_X6_addDigit_17 rfl ?_
    refine g_getQ h o0 0 (o0 + 1) 1 (by decide) rfl fl_6_9 (isRule_sh ho0) (isRule_lt ho0) rfl t_X6_addDigit_18 ?_
    refine g_aload_n h 0 t_X6_addDigit_21 rfl ?_
    refine g_getI h o0 2 fl_6_16 (isRule_sh ho0) (isRule_lt ho0) rfl t_X6_addDigit_22 ?_
    refine g_iconst (v := 1) h t_X6_addDigit_25 (by decide) ?_
    refine g_isub h t_X6_addDigit_26 ?_
    refine g_iald h (o0 + 1) (isRule_s1 ho0) (isRule_l1 ho0) t_X6_addDigit_27 hD (fun hD => ?_)
    refine g_bipush (v := 10) h t_X6_addDigit_28 (by decide) ?_
    refine g_imul h t_X6_addDigit_30 ?_
    refine g_iload_n h 1 t_X6_addDigit_31 rfl ?_
    refine g_iadd h t_X6_addDigit_32 ?_
    refine g_iast h (o0 + 1) (isRule_s1 ho0) (isRule_l1 ho0) t_X6_addDigit_33 hD (fun w1 hD => ?_)
    obtain rfl := Option.some.inj hD
    exact hR _ _ t_X6_addDigit_34
def D_X7_await (p1 : Int32) : Wd → Option Wd := fun w =>
  if 40 ≤ (w.1 100 3) then (some w) else (if ib (w.1 100 3) 40 then bd (wI w 101 (w.1 100 3).toNatClampNeg p1) (fun w1 => bd (wI w1 100 3 ((w1.1 100 3) + 1)) fun w2 => some w2) else none)
set_option maxRecDepth 20000 in
theorem S_X7_await {l0 : Launch} {ρ : Nat → Nat} {cs : Nat → ClassId} {G : va_G} (hρ : injN ρ) {p1 : Int32} {w : Wd} {rr : Wd} (hD : D_X7_await p1 w = some rr) : CtV l0 ρ cs G y_X7_await prog_9_method_8_code 2 0 [.ref (ρ 100), .int p1] w rr := by
  refine ctV_of hρ (by decide) (Nat.le_of_ble_eq_true rfl) (fun X hn h hR => ?_)
  unfold D_X7_await at hD
  show gG ρ cs G X 0 [(0, .ref (ρ 100)), (1, .int p1)] [] w
  refine g_aload_n h 0 t_X7_await_0 rfl ?_
  refine g_getI h 100 3 fl_7_30 rfl (by decide) rfl t_X7_await_1 ?_
  refine g_aload_n h 0 t_X7_await_4 rfl ?_
  refine g_getR h 100 0 101 fl_7_11 rfl (by decide) rfl t_X7_await_5 ?_
  refine g_alen (v := 40) h 101 rfl (by decide) (by decide) t_X7_await_8 ?_
  refine g_icmp_ge (tgt := 32) h t_X7_await_9 (by decide) hD (fun hD => ?_) (fun hD => ?_)
  · obtain rfl := Option.some.inj hD
    exact hR _ _ t_X7_await_32
  · refine g_aload_n h 0 t_X7_await_12 rfl ?_
    refine g_getR h 100 0 101 fl_7_11 rfl (by decide) rfl t_X7_await_13 ?_
    refine g_aload_n h 0 t_X7_await_16 rfl ?_
    refine g_getI h 100 3 fl_7_30 rfl (by decide) rfl t_X7_await_17 ?_
    refine g_iload_n h 1 t_X7_await_20 rfl ?_
    refine g_iast h 101 rfl (by decide) t_X7_await_21 hD (fun w1 hD => ?_)
    refine g_aload_n h 0 t_X7_await_22 rfl ?_
    refine g_dup h t_X7_await_23 rfl ?_
    refine g_getI h 100 3 fl_7_30 rfl (by decide) rfl t_X7_await_24 ?_
    refine g_iconst (v := 1) h t_X7_await_27 (by decide) ?_
    refine g_iadd h t_X7_await_28 ?_
    refine g_putI h 100 3 fl_7_30 fp_7_3 rfl (by decide) rfl t_X7_await_29 hD (fun w2 hD => ?_)
    obtain rfl := Option.some.inj hD
    exact hR _ _ t_X7_await_32
def J_X7_acceptAhead_j56_1 (p1 : Int32) : Wd → Option (Int32 × Wd) := fun w1 =>
  bc (D_X6_isThing p1 w1) fun x4 w3 => if x4 = 0 then (some (0, w3)) else (bv (D_X6_put 103 (-p1) w3) fun w5 => if b01 0 then (bd (wI w5 100 6 0) fun w6 => some (1, w6)) else none)
def D_X7_acceptAhead (p1 : Int32) : Wd → Option (Int32 × Wd) := fun w =>
  if p1 = 45 then (bv (D_X7_await 256 w) fun w10 => some (1, w10)) else (bd (J_X7_acceptAhead_j56_1 p1) fun k2 => if p1 = 40 then (if 4 ≤ (w.1 100 4) then (k2 w) else (bv (D_X7_await p1 w) fun w7 => bd (wI w7 100 4 ((w7.1 100 4) + 1)) fun w8 => if ib (w8.1 100 4) 5 then bd (wI w8 102 (w8.1 100 4).toNatClampNeg (vp_nar .boolean 0)) (fun w9 => some (1, w9)) else none)) else (k2 w))
set_option maxRecDepth 20000 in
theorem S_X7_acceptAhead {l0 : Launch} {ρ : Nat → Nat} {cs : Nat → ClassId} {G : va_G} (hρ : injN ρ) {p1 : Int32} {w : Wd} {rr : (Int32 × Wd)} (hD : D_X7_acceptAhead p1 w = some rr) : CtI l0 ρ cs G y_X7_acceptAhead prog_9_method_5_code 2 .boolean 10 [.ref (ρ 100), .int p1] w rr.1 rr.2 := by
  refine ctI_of hρ (by decide) (Nat.le_of_ble_eq_true rfl) (fun X hn h hR => ?_)
  unfold D_X7_acceptAhead at hD
  show gG ρ cs G X 0 [(0, .ref (ρ 100)), (1, .int p1)] [] w
  refine g_iload_n h 1 t_X7_acceptAhead_0 rfl ?_
  refine g_bipush (v := 45) h t_X7_acceptAhead_1 (by decide) ?_
  refine g_icmp_ne (tgt := 15) h t_X7_acceptAhead_3 (by decide) hD (fun hD => ?_) (fun hD => ?_)
  · refine g_iload_n h 1 t_X7_acceptAhead_15 rfl ?_
    refine g_bipush (v := 40) h t_X7_acceptAhead_16 (by decide) ?_
    refine g_join (P := fun k2 => ∀ (w1 : Wd), k2 w1 = some rr → gG ρ cs G X 56 [(0, .ref (ρ 100)), (1, .int p1)] [] w1) hD ?_ (fun k2 hk2 hD => ?_)
    · intro w1 hD
      unfold J_X7_acceptAhead_j56_1 at hD
      refine g_iload_n h 1 t_X7_acceptAhead_56 rfl ?_
      refine g_callSI h (As := [.int p1]) (st := []) my_X6_isThing ms_X6_isThing ml_7_78 rfl rfl (Nat.le_of_ble_eq_true rfl) (by decide) t_X7_acceptAhead_57 hD (fun _ _ e => S_X6_isThing hρ  e) (fun x4 w3 hD => ?_)
      refine g_if_ne (tgt := 65) h t_X7_acceptAhead_60 (by decide) hD (fun hD => ?_) (fun hD => ?_)
      · refine g_aload_n h 0 t_X7_acceptAhead_65 rfl ?_
        refine g_getR h 100 2 103 fl_7_22 rfl (by decide) rfl t_X7_acceptAhead_66 ?_
        refine g_iload_n h 1 t_X7_acceptAhead_69 rfl ?_
        refine g_ineg h t_X7_acceptAhead_70 ?_
        refine g_callVV h 103 (As := [.int (-p1)]) (st := []) my_X6_put mi_X6_put ml_7_69 rfl (by decide) rfl rfl rfl (Nat.le_of_ble_eq_true rfl) (by decide) t_X7_acceptAhead_71 hD (fun _ e => S_X6_put hρ (by decide) e) (fun w5 hD => ?_)
        refine g_aload_n h 0 t_X7_acceptAhead_74 rfl ?_
        refine g_iconst (v := 0) h t_X7_acceptAhead_75 (by decide) ?_
        refine g_putZ h 100 6 fl_7_39 fp_7_6 rfl (by decide) rfl t_X7_acceptAhead_76 hD (fun w6 hD => ?_)
        refine g_iconst (v := 1) h t_X7_acceptAhead_79 (by decide) ?_
        obtain rfl := Option.some.inj hD
        exact hR _ _ t_X7_acceptAhead_80 (b01_n rfl)
      · refine g_iconst (v := 0) h t_X7_acceptAhead_63 (by decide) ?_
        obtain rfl := Option.some.inj hD
        exact hR _ _ t_X7_acceptAhead_64 (b01_n rfl)
    · refine g_icmp_ne (tgt := 56) h t_X7_acceptAhead_18 (by decide) hD (fun hD => ?_) (fun hD => ?_)
      · refine g_loc (L' := [(0, .ref (ρ 100)), (1, .int p1)]) h [0, 1] rfl ?_
        exact hk2 _ hD
      · refine g_aload_n h 0 t_X7_acceptAhead_21 rfl ?_
        refine g_getI h 100 4 fl_7_33 rfl (by decide) rfl t_X7_acceptAhead_22 ?_
        refine g_iconst (v := 4) h t_X7_acceptAhead_25 (by decide) ?_
        refine g_icmp_ge (tgt := 56) h t_X7_acceptAhead_26 (by decide) hD (fun hD => ?_) (fun hD => ?_)
        · refine g_loc (L' := [(0, .ref (ρ 100)), (1, .int p1)]) h [0, 1] rfl ?_
          exact hk2 _ hD
        · refine g_aload_n h 0 t_X7_acceptAhead_29 rfl ?_
          refine g_iload_n h 1 t_X7_acceptAhead_30 rfl ?_
          refine g_callVV h 100 (As := [.int p1]) (st := []) my_X7_await mi_X7_await ml_7_75 rfl (by decide) rfl rfl rfl (Nat.le_of_ble_eq_true rfl) (by decide) t_X7_acceptAhead_31 hD (fun _ e => S_X7_await hρ  e) (fun w7 hD => ?_)
          refine g_aload_n h 0 t_X7_acceptAhead_34 rfl ?_
          refine g_dup h t_X7_acceptAhead_35 rfl ?_
          refine g_getI h 100 4 fl_7_33 rfl (by decide) rfl t_X7_acceptAhead_36 ?_
          refine g_iconst (v := 1) h t_X7_acceptAhead_39 (by decide) ?_
          refine g_iadd h t_X7_acceptAhead_40 ?_
          refine g_putI h 100 4 fl_7_33 fp_7_4 rfl (by decide) rfl t_X7_acceptAhead_41 hD (fun w8 hD => ?_)
          refine g_aload_n h 0 t_X7_acceptAhead_44 rfl ?_
          refine g_getR h 100 1 102 fl_7_17 rfl (by decide) rfl t_X7_acceptAhead_45 ?_
          refine g_aload_n h 0 t_X7_acceptAhead_48 rfl ?_
          refine g_getI h 100 4 fl_7_33 rfl (by decide) rfl t_X7_acceptAhead_49 ?_
          refine g_iconst (v := 0) h t_X7_acceptAhead_52 (by decide) ?_
          refine g_zast h 102 rfl (by decide) t_X7_acceptAhead_53 hD (fun w9 hD => ?_)
          refine g_iconst (v := 1) h t_X7_acceptAhead_54 (by decide) ?_
          obtain rfl := Option.some.inj hD
          exact hR _ _ t_X7_acceptAhead_55 (b01_n rfl)
  · refine g_aload_n h 0 t_X7_acceptAhead_6 rfl ?_
    refine g_sipush (v := 256) h t_X7_acceptAhead_7 (by decide) ?_
    refine g_callVV h 100 (As := [.int 256]) (st := []) my_X7_await mi_X7_await ml_7_75 rfl (by decide) rfl rfl rfl (Nat.le_of_ble_eq_true rfl) (by decide) t_X7_acceptAhead_10 hD (fun _ e => S_X7_await hρ  e) (fun w10 hD => ?_)
    refine g_iconst (v := 1) h t_X7_acceptAhead_13 (by decide) ?_
    obtain rfl := Option.some.inj hD
    exact hR _ _ t_X7_acceptAhead_14 (b01_n rfl)
def D_X7_strength (p0 : Int32) : Wd → Option (Int32 × Wd) := fun w =>
  if p0 = 42 then (some (3, w)) else (if p0 = 43 then (some (2, w)) else (if p0 = 45 then (some (2, w)) else (if p0 = 47 then (some (3, w)) else (if p0 = 60 then (some (1, w)) else (if p0 = 61 then (some (1, w)) else (if p0 = 62 then (some (1, w)) else (if p0 = 256 then (some (4, w)) else (some (0, w)))))))))
set_option maxRecDepth 20000 in
theorem S_X7_strength {l0 : Launch} {ρ : Nat → Nat} {cs : Nat → ClassId} {G : va_G} (hρ : injN ρ) {p0 : Int32} {w : Wd} {rr : (Int32 × Wd)} (hD : D_X7_strength p0 w = some rr) : CtI l0 ρ cs G y_X7_strength prog_9_method_10_code 1 .int 0 [.int p0] w rr.1 rr.2 := by
  refine ctI_of hρ (by decide) (Nat.le_of_ble_eq_true rfl) (fun X hn h hR => ?_)
  unfold D_X7_strength at hD
  show gG ρ cs G X 0 [(0, .int p0)] [] w
  refine g_iload_n h 0 t_X7_strength_0 rfl ?_
  refine g_cas hD (fun hc0 hD => ?_) (fun hc0 hD => ?_)
  · refine g_lsw (off := 79) (tgt := 80) h t_X7_strength_1 (by decide) (by show Op.lookupswitch.offset [((42 : Int), (79 : Int)), ((43 : Int), (77 : Int)), ((45 : Int), (77 : Int)), ((47 : Int), (79 : Int)), ((60 : Int), (75 : Int)), ((61 : Int), (75 : Int)), ((62 : Int), (75 : Int)), ((256 : Int), (81 : Int))] 83 _ = _; rw [hc0]; rfl) (by decide) ?_
    refine g_iconst (v := 3) h t_X7_strength_80 (by decide) ?_
    obtain rfl := Option.some.inj hD
    exact hR _ _ t_X7_strength_81 rfl
  · refine g_cas hD (fun hc1 hD => ?_) (fun hc1 hD => ?_)
    · refine g_lsw (off := 77) (tgt := 78) h t_X7_strength_1 (by decide) (by show Op.lookupswitch.offset [((42 : Int), (79 : Int)), ((43 : Int), (77 : Int)), ((45 : Int), (77 : Int)), ((47 : Int), (79 : Int)), ((60 : Int), (75 : Int)), ((61 : Int), (75 : Int)), ((62 : Int), (75 : Int)), ((256 : Int), (81 : Int))] 83 _ = _; rw [lv_osw hc0 (by decide)]; rw [hc1]; rfl) (by decide) ?_
      refine g_iconst (v := 2) h t_X7_strength_78 (by decide) ?_
      obtain rfl := Option.some.inj hD
      exact hR _ _ t_X7_strength_79 rfl
    · refine g_cas hD (fun hc2 hD => ?_) (fun hc2 hD => ?_)
      · refine g_lsw (off := 77) (tgt := 78) h t_X7_strength_1 (by decide) (by show Op.lookupswitch.offset [((42 : Int), (79 : Int)), ((43 : Int), (77 : Int)), ((45 : Int), (77 : Int)), ((47 : Int), (79 : Int)), ((60 : Int), (75 : Int)), ((61 : Int), (75 : Int)), ((62 : Int), (75 : Int)), ((256 : Int), (81 : Int))] 83 _ = _; rw [lv_osw hc0 (by decide), lv_osw hc1 (by decide)]; rw [hc2]; rfl) (by decide) ?_
        refine g_iconst (v := 2) h t_X7_strength_78 (by decide) ?_
        obtain rfl := Option.some.inj hD
        exact hR _ _ t_X7_strength_79 rfl
      · refine g_cas hD (fun hc3 hD => ?_) (fun hc3 hD => ?_)
        · refine g_lsw (off := 79) (tgt := 80) h t_X7_strength_1 (by decide) (by show Op.lookupswitch.offset [((42 : Int), (79 : Int)), ((43 : Int), (77 : Int)), ((45 : Int), (77 : Int)), ((47 : Int), (79 : Int)), ((60 : Int), (75 : Int)), ((61 : Int), (75 : Int)), ((62 : Int), (75 : Int)), ((256 : Int), (81 : Int))] 83 _ = _; rw [lv_osw hc0 (by decide), lv_osw hc1 (by decide), lv_osw hc2 (by decide)]; rw [hc3]; rfl) (by decide) ?_
          refine g_iconst (v := 3) h t_X7_strength_80 (by decide) ?_
          obtain rfl := Option.some.inj hD
          exact hR _ _ t_X7_strength_81 rfl
        · refine g_cas hD (fun hc4 hD => ?_) (fun hc4 hD => ?_)
          · refine g_lsw (off := 75) (tgt := 76) h t_X7_strength_1 (by decide) (by show Op.lookupswitch.offset [((42 : Int), (79 : Int)), ((43 : Int), (77 : Int)), ((45 : Int), (77 : Int)), ((47 : Int), (79 : Int)), ((60 : Int), (75 : Int)), ((61 : Int), (75 : Int)), ((62 : Int), (75 : Int)), ((256 : Int), (81 : Int))] 83 _ = _; rw [lv_osw hc0 (by decide), lv_osw hc1 (by decide), lv_osw hc2 (by decide), lv_osw hc3 (by decide)]; rw [hc4]; rfl) (by decide) ?_
            refine g_iconst (v := 1) h t_X7_strength_76 (by decide) ?_
            obtain rfl := Option.some.inj hD
            exact hR _ _ t_X7_strength_77 rfl
          · refine g_cas hD (fun hc5 hD => ?_) (fun hc5 hD => ?_)
            · refine g_lsw (off := 75) (tgt := 76) h t_X7_strength_1 (by decide) (by show Op.lookupswitch.offset [((42 : Int), (79 : Int)), ((43 : Int), (77 : Int)), ((45 : Int), (77 : Int)), ((47 : Int), (79 : Int)), ((60 : Int), (75 : Int)), ((61 : Int), (75 : Int)), ((62 : Int), (75 : Int)), ((256 : Int), (81 : Int))] 83 _ = _; rw [lv_osw hc0 (by decide), lv_osw hc1 (by decide), lv_osw hc2 (by decide), lv_osw hc3 (by decide), lv_osw hc4 (by decide)]; rw [hc5]; rfl) (by decide) ?_
              refine g_iconst (v := 1) h t_X7_strength_76 (by decide) ?_
              obtain rfl := Option.some.inj hD
              exact hR _ _ t_X7_strength_77 rfl
            · refine g_cas hD (fun hc6 hD => ?_) (fun hc6 hD => ?_)
              · refine g_lsw (off := 75) (tgt := 76) h t_X7_strength_1 (by decide) (by show Op.lookupswitch.offset [((42 : Int), (79 : Int)), ((43 : Int), (77 : Int)), ((45 : Int), (77 : Int)), ((47 : Int), (79 : Int)), ((60 : Int), (75 : Int)), ((61 : Int), (75 : Int)), ((62 : Int), (75 : Int)), ((256 : Int), (81 : Int))] 83 _ = _; rw [lv_osw hc0 (by decide), lv_osw hc1 (by decide), lv_osw hc2 (by decide), lv_osw hc3 (by decide), lv_osw hc4 (by decide), lv_osw hc5 (by decide)]; rw [hc6]; rfl) (by decide) ?_
                refine g_iconst (v := 1) h t_X7_strength_76 (by decide) ?_
                obtain rfl := Option.some.inj hD
                exact hR _ _ t_X7_strength_77 rfl
              · refine g_cas hD (fun hc7 hD => ?_) (fun hc7 hD => ?_)
                · refine g_lsw (off := 81) (tgt := 82) h t_X7_strength_1 (by decide) (by show Op.lookupswitch.offset [((42 : Int), (79 : Int)), ((43 : Int), (77 : Int)), ((45 : Int), (77 : Int)), ((47 : Int), (79 : Int)), ((60 : Int), (75 : Int)), ((61 : Int), (75 : Int)), ((62 : Int), (75 : Int)), ((256 : Int), (81 : Int))] 83 _ = _; rw [lv_osw hc0 (by decide), lv_osw hc1 (by decide), lv_osw hc2 (by decide), lv_osw hc3 (by decide), lv_osw hc4 (by decide), lv_osw hc5 (by decide), lv_osw hc6 (by decide)]; rw [hc7]; rfl) (by decide) ?_
                  refine g_iconst (v := 4) h t_X7_strength_82 (by decide) ?_
                  obtain rfl := Option.some.inj hD
                  exact hR _ _ t_X7_strength_83 rfl
                · refine g_lsw (off := 83) (tgt := 84) h t_X7_strength_1 (by decide) (by show Op.lookupswitch.offset [((42 : Int), (79 : Int)), ((43 : Int), (77 : Int)), ((45 : Int), (77 : Int)), ((47 : Int), (79 : Int)), ((60 : Int), (75 : Int)), ((61 : Int), (75 : Int)), ((62 : Int), (75 : Int)), ((256 : Int), (81 : Int))] 83 _ = _; rw [lv_osw hc0 (by decide), lv_osw hc1 (by decide), lv_osw hc2 (by decide), lv_osw hc3 (by decide), lv_osw hc4 (by decide), lv_osw hc5 (by decide), lv_osw hc6 (by decide), lv_osw hc7 (by decide)]; rfl) (by decide) ?_
                  refine g_iconst (v := 0) h t_X7_strength_84 (by decide) ?_
                  obtain rfl := Option.some.inj hD
                  exact hR _ _ t_X7_strength_85 rfl
def L_X7_bindWaiting_0 (x1 : Int32) (k2 : Wd → Option Wd) : Nat → Wd → Option Wd
  | 0, _ => none
  | n3 + 1, w4 =>
    if (w4.1 100 3) ≤ 0 then (k2 w4) else (if ib ((w4.1 100 3) - 1) 40 then (bc (D_X7_strength (w4.1 101 ((w4.1 100 3) - 1).toNatClampNeg) w4) fun x6 w5 => if x6 < x1 then (k2 w5) else (if ib ((w5.1 100 3) - 1) 40 then (bv (D_X6_put 103 (-(w5.1 101 ((w5.1 100 3) - 1).toNatClampNeg)) w5) fun w7 => bd (wI w7 100 3 ((w7.1 100 3) - 1)) fun w8 => L_X7_bindWaiting_0 x1 k2 n3 w8) else none)) else none)
def J_X7_bindWaiting_x57_1  : Wd → Option Wd := fun w9 =>
  some w9
def D_X7_bindWaiting (p1 : Int32) : Wd → Option Wd := fun w =>
  L_X7_bindWaiting_0 p1 J_X7_bindWaiting_x57_1 FU w
set_option maxRecDepth 20000 in
theorem Q_X7_bindWaiting_0 {l0 : Launch} {ρ : Nat → Nat} {cs : Nat → ClassId} {G : va_G} {X : Cx} (hρ : injN ρ) (hn : X.2.2.2.2.2.2.2.2.2.2.1 = 2) (h : Okx l0 ρ cs G X prog_9_method_9_code "SowingBoards$RuleReader" 1) {rr : Wd} (hR : ∀ pc L, decode prog_9_method_9_code pc = .ok (.return_, 1) → gG ρ cs G X pc L [] rr) {x1 : Int32} {k2 : Wd → Option Wd} (hk2 : ∀ (w1 : Wd), k2 w1 = some rr → gG ρ cs G X 57 [] [] w1) : ∀ (n : Nat) (w : Wd), L_X7_bindWaiting_0 x1 k2 n w = some rr → gG ρ cs G X 0 [(0, .ref (ρ 100)), (1, .int x1)] [] w := by
  intro n
  induction n with
  | zero =>
    intro w hD
    cases hD
  | succ n3 ih =>
    intro w4 hD
    unfold L_X7_bindWaiting_0 at hD
    refine g_aload_n h 0 t_X7_bindWaiting_0 rfl ?_
    refine g_getI h 100 3 fl_7_30 rfl (by decide) rfl t_X7_bindWaiting_1 ?_
    refine g_if_le (tgt := 57) h t_X7_bindWaiting_4 (by decide) hD (fun hD => ?_) (fun hD => ?_)
    · refine g_loc (L' := []) h [] rfl ?_
      exact hk2 _ hD
    · refine g_aload_n h 0 t_X7_bindWaiting_7 rfl ?_
      refine g_getR h 100 0 101 fl_7_11 rfl (by decide) rfl t_X7_bindWaiting_8 ?_
      refine g_aload_n h 0 t_X7_bindWaiting_11 rfl ?_
      refine g_getI h 100 3 fl_7_30 rfl (by decide) rfl t_X7_bindWaiting_12 ?_
      refine g_iconst (v := 1) h t_X7_bindWaiting_15 (by decide) ?_
      refine g_isub h t_X7_bindWaiting_16 ?_
      refine g_iald h 101 rfl (by decide) t_X7_bindWaiting_17 hD (fun hD => ?_)
      refine g_callSI h (As := [.int (w4.1 101 ((w4.1 100 3) - 1).toNatClampNeg)]) (st := []) my_X7_strength ms_X7_strength ml_7_84 rfl rfl (Nat.le_of_ble_eq_true rfl) (by decide) t_X7_bindWaiting_18 hD (fun _ _ e => S_X7_strength hρ  e) (fun x6 w5 hD => ?_)
      refine g_iload_n h 1 t_X7_bindWaiting_21 rfl ?_
      refine g_icmp_lt (tgt := 57) h t_X7_bindWaiting_22 (by decide) hD (fun hD => ?_) (fun hD => ?_)
      · refine g_loc (L' := []) h [] rfl ?_
        exact hk2 _ hD
      · refine g_aload_n h 0 t_X7_bindWaiting_25 rfl ?_
        refine g_getR h 100 2 103 fl_7_22 rfl (by decide) rfl t_X7_bindWaiting_26 ?_
        refine g_aload_n h 0 t_X7_bindWaiting_29 rfl ?_
        refine g_getR h 100 0 101 fl_7_11 rfl (by decide) rfl t_X7_bindWaiting_30 ?_
        refine g_aload_n h 0 t_X7_bindWaiting_33 rfl ?_
        refine g_getI h 100 3 fl_7_30 rfl (by decide) rfl t_X7_bindWaiting_34 ?_
        refine g_iconst (v := 1) h t_X7_bindWaiting_37 (by decide) ?_
        refine g_isub h t_X7_bindWaiting_38 ?_
        refine g_iald h 101 rfl (by decide) t_X7_bindWaiting_39 hD (fun hD => ?_)
        refine g_ineg h t_X7_bindWaiting_40 ?_
        refine g_callVV h 103 (As := [.int (-(w5.1 101 ((w5.1 100 3) - 1).toNatClampNeg))]) (st := []) my_X6_put mi_X6_put ml_7_69 rfl (by decide) rfl rfl rfl (Nat.le_of_ble_eq_true rfl) (by decide) t_X7_bindWaiting_41 hD (fun _ e => S_X6_put hρ (by decide) e) (fun w7 hD => ?_)
        refine g_aload_n h 0 t_X7_bindWaiting_44 rfl ?_
        refine g_dup h t_X7_bindWaiting_45 rfl ?_
        refine g_getI h 100 3 fl_7_30 rfl (by decide) rfl t_X7_bindWaiting_46 ?_
        refine g_iconst (v := 1) h t_X7_bindWaiting_49 (by decide) ?_
        refine g_isub h t_X7_bindWaiting_50 ?_
        refine g_putI h 100 3 fl_7_30 fp_7_3 rfl (by decide) rfl t_X7_bindWaiting_51 hD (fun w8 hD => ?_)
        refine g_goto (tgt := 0) h t_X7_bindWaiting_54 (by decide) ?_
        refine g_loc (L' := [(0, .ref (ρ 100)), (1, .int x1)]) h [0, 1] rfl ?_
        exact ih _ hD
set_option maxRecDepth 20000 in
theorem S_X7_bindWaiting {l0 : Launch} {ρ : Nat → Nat} {cs : Nat → ClassId} {G : va_G} (hρ : injN ρ) {p1 : Int32} {w : Wd} {rr : Wd} (hD : D_X7_bindWaiting p1 w = some rr) : CtV l0 ρ cs G y_X7_bindWaiting prog_9_method_9_code 2 1 [.ref (ρ 100), .int p1] w rr := by
  refine ctV_of hρ (by decide) (Nat.le_of_ble_eq_true rfl) (fun X hn h hR => ?_)
  unfold D_X7_bindWaiting at hD
  show gG ρ cs G X 0 [(0, .ref (ρ 100)), (1, .int p1)] [] w
  refine g_loc (L' := [(0, .ref (ρ 100)), (1, .int p1)]) h [0, 1] rfl ?_
  refine Q_X7_bindWaiting_0 hρ hn h hR  ?_ _  _ hD
  · intro w9 hD
    unfold J_X7_bindWaiting_x57_1 at hD
    obtain rfl := Option.some.inj hD
    exact hR _ _ t_X7_bindWaiting_57
def D_X7_dropOpening  : Wd → Option Wd := fun w =>
  if (w.1 100 3) ≤ 0 then (some w) else (bd (wI w 100 3 ((w.1 100 3) - 1)) fun w1 => some w1)
set_option maxRecDepth 20000 in
theorem S_X7_dropOpening {l0 : Launch} {ρ : Nat → Nat} {cs : Nat → ClassId} {G : va_G} (hρ : injN ρ)  {w : Wd} {rr : Wd} (hD : D_X7_dropOpening w = some rr) : CtV l0 ρ cs G y_X7_dropOpening prog_9_method_7_code 1 0 [.ref (ρ 100)] w rr := by
  refine ctV_of hρ (by decide) (Nat.le_of_ble_eq_true rfl) (fun X hn h hR => ?_)
  unfold D_X7_dropOpening at hD
  show gG ρ cs G X 0 [(0, .ref (ρ 100))] [] w
  refine g_aload_n h 0 t_X7_dropOpening_0 rfl ?_
  refine g_getI h 100 3 fl_7_30 rfl (by decide) rfl t_X7_dropOpening_1 ?_
  refine g_if_le (tgt := 17) h t_X7_dropOpening_4 (by decide) hD (fun hD => ?_) (fun hD => ?_)
  · obtain rfl := Option.some.inj hD
    exact hR _ _ t_X7_dropOpening_17
  · refine g_aload_n h 0 t_X7_dropOpening_7 rfl ?_
    refine g_dup h t_X7_dropOpening_8 rfl ?_
    refine g_getI h 100 3 fl_7_30 rfl (by decide) rfl t_X7_dropOpening_9 ?_
    refine g_iconst (v := 1) h t_X7_dropOpening_12 (by decide) ?_
    refine g_isub h t_X7_dropOpening_13 ?_
    refine g_putI h 100 3 fl_7_30 fp_7_3 rfl (by decide) rfl t_X7_dropOpening_14 hD (fun w1 hD => ?_)
    obtain rfl := Option.some.inj hD
    exact hR _ _ t_X7_dropOpening_17
def J_X7_acceptBehind_j77_1 (x4 : Int32) (p1 : Int32) : Wd → Option (Int32 × Wd) := fun w7 =>
  bv (D_X7_bindWaiting x4 w7) fun w9 => bv (D_X7_await p1 w9) fun w10 => if b01 1 then (bd (wI w10 100 6 1) fun w11 => some (1, w11)) else none
def J_X7_acceptBehind_j62_2 (x4 : Int32) (p1 : Int32) : Wd → Option (Int32 × Wd) := fun w5 =>
  bd (J_X7_acceptBehind_j77_1 x4 p1) fun k8 => if x4 = 1 then (if ib (w5.1 100 4) 5 then bd (wI w5 102 (w5.1 100 4).toNatClampNeg (vp_nar .boolean 1)) (fun w12 => k8 w12) else none) else (k8 w5)
def J_X7_acceptBehind_j34_3 (p1 : Int32) : Wd → Option (Int32 × Wd) := fun w1 =>
  bc (D_X7_strength p1 w1) fun x4 w3 => if x4 = 0 then (some (0, w3)) else (bd (J_X7_acceptBehind_j62_2 x4 p1) fun k6 => if x4 = 1 then (if ib (w3.1 100 4) 5 then (if (w3.1 102 (w3.1 100 4).toNatClampNeg) = 0 then (k6 w3) else (some (0, w3))) else none) else (k6 w3))
def D_X7_acceptBehind (p1 : Int32) : Wd → Option (Int32 × Wd) := fun w =>
  bd (J_X7_acceptBehind_j34_3 p1) fun k2 => if p1 = 41 then (if (w.1 100 4) ≤ 0 then (k2 w) else (bv (D_X7_bindWaiting 1 w) fun w13 => bv (D_X7_dropOpening w13) fun w14 => bd (wI w14 100 4 ((w14.1 100 4) - 1)) fun w15 => some (1, w15))) else (k2 w)
set_option maxRecDepth 20000 in
theorem S_X7_acceptBehind {l0 : Launch} {ρ : Nat → Nat} {cs : Nat → ClassId} {G : va_G} (hρ : injN ρ) {p1 : Int32} {w : Wd} {rr : (Int32 × Wd)} (hD : D_X7_acceptBehind p1 w = some rr) : CtI l0 ρ cs G y_X7_acceptBehind prog_9_method_6_code 3 .boolean 2 [.ref (ρ 100), .int p1] w rr.1 rr.2 := by
  refine ctI_of hρ (by decide) (Nat.le_of_ble_eq_true rfl) (fun X hn h hR => ?_)
  unfold D_X7_acceptBehind at hD
  show gG ρ cs G X 0 [(0, .ref (ρ 100)), (1, .int p1)] [] w
  refine g_iload_n h 1 t_X7_acceptBehind_0 rfl ?_
  refine g_bipush (v := 41) h t_X7_acceptBehind_1 (by decide) ?_
  refine g_join (P := fun k2 => ∀ (w1 : Wd), k2 w1 = some rr → gG ρ cs G X 34 [(0, .ref (ρ 100)), (1, .int p1)] [] w1) hD ?_ (fun k2 hk2 hD => ?_)
  · intro w1 hD
    unfold J_X7_acceptBehind_j34_3 at hD
    refine g_iload_n h 1 t_X7_acceptBehind_34 rfl ?_
    refine g_callSI h (As := [.int p1]) (st := []) my_X7_strength ms_X7_strength ml_7_84 rfl rfl (Nat.le_of_ble_eq_true rfl) (by decide) t_X7_acceptBehind_35 hD (fun _ _ e => S_X7_strength hρ  e) (fun x4 w3 hD => ?_)
    refine g_istore_n (L' := [(2, .int x4), (0, .ref (ρ 100)), (1, .int p1)]) h hn t_X7_acceptBehind_38 rfl (by decide) rfl ?_
    refine g_iload_n h 0 t_X7_acceptBehind_39 rfl ?_
    refine g_if_eq (tgt := 60) h t_X7_acceptBehind_40 (by decide) hD (fun hD => ?_) (fun hD => ?_)
    · refine g_iconst (v := 0) h t_X7_acceptBehind_60 (by decide) ?_
      obtain rfl := Option.some.inj hD
      exact hR _ _ t_X7_acceptBehind_61 (b01_n rfl)
    · refine g_iload_n h 0 t_X7_acceptBehind_43 rfl ?_
      refine g_iconst (v := 1) h t_X7_acceptBehind_44 (by decide) ?_
      refine g_join (P := fun k6 => ∀ (w5 : Wd), k6 w5 = some rr → gG ρ cs G X 62 [(0, .ref (ρ 100)), (1, .int p1), (2, .int x4)] [] w5) hD ?_ (fun k6 hk6 hD => ?_)
      · intro w5 hD
        unfold J_X7_acceptBehind_j62_2 at hD
        refine g_iload_n h 2 t_X7_acceptBehind_62 rfl ?_
        refine g_iconst (v := 1) h t_X7_acceptBehind_63 (by decide) ?_
        refine g_join (P := fun k8 => ∀ (w7 : Wd), k8 w7 = some rr → gG ρ cs G X 77 [(0, .ref (ρ 100)), (1, .int p1), (2, .int x4)] [] w7) hD ?_ (fun k8 hk8 hD => ?_)
        · intro w7 hD
          unfold J_X7_acceptBehind_j77_1 at hD
          refine g_aload_n h 0 t_X7_acceptBehind_77 rfl ?_
          refine g_iload_n h 2 t_X7_acceptBehind_78 rfl ?_
          refine g_callVV h 100 (As := [.int x4]) (st := []) my_X7_bindWaiting mi_X7_bindWaiting ml_7_56 rfl (by decide) rfl rfl rfl (Nat.le_of_ble_eq_true rfl) (by decide) t_X7_acceptBehind_79 hD (fun _ e => S_X7_bindWaiting hρ  e) (fun w9 hD => ?_)
          refine g_aload_n h 0 t_X7_acceptBehind_82 rfl ?_
          refine g_iload_n h 1 t_X7_acceptBehind_83 rfl ?_
          refine g_callVV h 100 (As := [.int p1]) (st := []) my_X7_await mi_X7_await ml_7_75 rfl (by decide) rfl rfl rfl (Nat.le_of_ble_eq_true rfl) (by decide) t_X7_acceptBehind_84 hD (fun _ e => S_X7_await hρ  e) (fun w10 hD => ?_)
          refine g_aload_n h 0 t_X7_acceptBehind_87 rfl ?_
          refine g_iconst (v := 1) h t_X7_acceptBehind_88 (by decide) ?_
          refine g_putZ h 100 6 fl_7_39 fp_7_6 rfl (by decide) rfl t_X7_acceptBehind_89 hD (fun w11 hD => ?_)
          refine g_iconst (v := 1) h t_X7_acceptBehind_92 (by decide) ?_
          obtain rfl := Option.some.inj hD
          exact hR _ _ t_X7_acceptBehind_93 (b01_n rfl)
        · refine g_icmp_ne (tgt := 77) h t_X7_acceptBehind_64 (by decide) hD (fun hD => ?_) (fun hD => ?_)
          · refine g_loc (L' := [(0, .ref (ρ 100)), (1, .int p1), (2, .int x4)]) h [0, 1, 2] rfl ?_
            exact hk8 _ hD
          · refine g_aload_n h 0 t_X7_acceptBehind_67 rfl ?_
            refine g_getR h 100 1 102 fl_7_17 rfl (by decide) rfl t_X7_acceptBehind_68 ?_
            refine g_aload_n h 0 t_X7_acceptBehind_71 rfl ?_
            refine g_getI h 100 4 fl_7_33 rfl (by decide) rfl t_X7_acceptBehind_72 ?_
            refine g_iconst (v := 1) h t_X7_acceptBehind_75 (by decide) ?_
            refine g_zast h 102 rfl (by decide) t_X7_acceptBehind_76 hD (fun w12 hD => ?_)
            refine g_loc (L' := [(0, .ref (ρ 100)), (1, .int p1), (2, .int x4)]) h [0, 1, 2] rfl ?_
            exact hk8 _ hD
      · refine g_icmp_ne (tgt := 62) h t_X7_acceptBehind_45 (by decide) hD (fun hD => ?_) (fun hD => ?_)
        · refine g_loc (L' := [(0, .ref (ρ 100)), (1, .int p1), (2, .int x4)]) h [1, 2, 0] rfl ?_
          exact hk6 _ hD
        · refine g_aload_n h 1 t_X7_acceptBehind_48 rfl ?_
          refine g_getR h 100 1 102 fl_7_17 rfl (by decide) rfl t_X7_acceptBehind_49 ?_
          refine g_aload_n h 1 t_X7_acceptBehind_52 rfl ?_
          refine g_getI h 100 4 fl_7_33 rfl (by decide) rfl t_X7_acceptBehind_53 ?_
          refine g_zald h 102 rfl (by decide) t_X7_acceptBehind_56 hD (fun hD => ?_)
          refine g_if_eq (tgt := 62) h t_X7_acceptBehind_57 (by decide) hD (fun hD => ?_) (fun hD => ?_)
          · refine g_loc (L' := [(0, .ref (ρ 100)), (1, .int p1), (2, .int x4)]) h [1, 2, 0] rfl ?_
            exact hk6 _ hD
          · refine g_iconst (v := 0) h t_X7_acceptBehind_60 (by decide) ?_
            obtain rfl := Option.some.inj hD
            exact hR _ _ t_X7_acceptBehind_61 (b01_n rfl)
  · refine g_icmp_ne (tgt := 34) h t_X7_acceptBehind_3 (by decide) hD (fun hD => ?_) (fun hD => ?_)
    · refine g_loc (L' := [(0, .ref (ρ 100)), (1, .int p1)]) h [0, 1] rfl ?_
      exact hk2 _ hD
    · refine g_aload_n h 0 t_X7_acceptBehind_6 rfl ?_
      refine g_getI h 100 4 fl_7_33 rfl (by decide) rfl t_X7_acceptBehind_7 ?_
      refine g_if_le (tgt := 34) h t_X7_acceptBehind_10 (by decide) hD (fun hD => ?_) (fun hD => ?_)
      · refine g_loc (L' := [(0, .ref (ρ 100)), (1, .int p1)]) h [0, 1] rfl ?_
        exact hk2 _ hD
      · refine g_aload_n h 0 t_X7_acceptBehind_13 rfl ?_
        refine g_iconst (v := 1) h t_X7_acceptBehind_14 (by decide) ?_
        refine g_callVV h 100 (As := [.int 1]) (st := []) my_X7_bindWaiting mi_X7_bindWaiting ml_7_56 rfl (by decide) rfl rfl rfl (Nat.le_of_ble_eq_true rfl) (by decide) t_X7_acceptBehind_15 hD (fun _ e => S_X7_bindWaiting hρ  e) (fun w13 hD => ?_)
        refine g_aload_n h 0 t_X7_acceptBehind_18 rfl ?_
        refine g_callVV h 100 (As := []) (st := []) my_X7_dropOpening mi_X7_dropOpening ml_7_81 rfl (by decide) rfl rfl rfl (Nat.le_of_ble_eq_true rfl) (by decide) t_X7_acceptBehind_19 hD (fun _ e => S_X7_dropOpening hρ  e) (fun w14 hD => ?_)
        refine g_aload_n h 0 t_X7_acceptBehind_22 rfl ?_
        refine g_dup h t_X7_acceptBehind_23 rfl ?_
        refine g_getI h 100 4 fl_7_33 rfl (by decide) rfl t_X7_acceptBehind_24 ?_
        refine g_iconst (v := 1) h t_X7_acceptBehind_27 (by decide) ?_
        refine g_isub h t_X7_acceptBehind_28 ?_
        refine g_putI h 100 4 fl_7_33 fp_7_4 rfl (by decide) rfl t_X7_acceptBehind_29 hD (fun w15 hD => ?_)
        refine g_iconst (v := 1) h t_X7_acceptBehind_32 (by decide) ?_
        obtain rfl := Option.some.inj hD
        exact hR _ _ t_X7_acceptBehind_33 (b01_n rfl)
def D_X7_acceptDigit (p1 : Int32) : Wd → Option (Int32 × Wd) := fun w =>
  if (w.1 100 6) = 0 then (if (w.1 100 5) = 0 then (some (0, w)) else (if (w.1 100 5) = 3 then (some (0, w)) else (bv (D_X6_addDigit 103 p1 w) fun w1 => bd (wI w1 100 5 ((w1.1 100 5) + 1)) fun w2 => some (1, w2)))) else (bv (D_X6_put 103 p1 w) fun w3 => bd (wI w3 100 5 1) fun w4 => if b01 0 then (bd (wI w4 100 6 0) fun w5 => some (1, w5)) else none)
set_option maxRecDepth 20000 in
theorem S_X7_acceptDigit {l0 : Launch} {ρ : Nat → Nat} {cs : Nat → ClassId} {G : va_G} (hρ : injN ρ) {p1 : Int32} {w : Wd} {rr : (Int32 × Wd)} (hD : D_X7_acceptDigit p1 w = some rr) : CtI l0 ρ cs G y_X7_acceptDigit prog_9_method_4_code 2 .boolean 1 [.ref (ρ 100), .int p1] w rr.1 rr.2 := by
  refine ctI_of hρ (by decide) (Nat.le_of_ble_eq_true rfl) (fun X hn h hR => ?_)
  unfold D_X7_acceptDigit at hD
  show gG ρ cs G X 0 [(0, .ref (ρ 100)), (1, .int p1)] [] w
  refine g_aload_n h 0 t_X7_acceptDigit_0 rfl ?_
  refine g_getI h 100 6 fl_7_39 rfl (by decide) rfl t_X7_acceptDigit_1 ?_
  refine g_if_eq (tgt := 27) h t_X7_acceptDigit_4 (by decide) hD (fun hD => ?_) (fun hD => ?_)
  · refine g_aload_n h 0 t_X7_acceptDigit_27 rfl ?_
    refine g_getI h 100 5 fl_7_36 rfl (by decide) rfl t_X7_acceptDigit_28 ?_
    refine g_if_eq (tgt := 42) h t_X7_acceptDigit_31 (by decide) hD (fun hD => ?_) (fun hD => ?_)
    · refine g_iconst (v := 0) h t_X7_acceptDigit_42 (by decide) ?_
      obtain rfl := Option.some.inj hD
      exact hR _ _ t_X7_acceptDigit_43 (b01_n rfl)
    · refine g_aload_n h 0 t_X7_acceptDigit_34 rfl ?_
      refine g_getI h 100 5 fl_7_36 rfl (by decide) rfl t_X7_acceptDigit_35 ?_
      refine g_iconst (v := 3) h t_X7_acceptDigit_38 (by decide) ?_
      refine g_icmp_ne (tgt := 44) h t_X7_acceptDigit_39 (by decide) hD (fun hD => ?_) (fun hD => ?_)
      · refine g_aload_n h 0 t_X7_acceptDigit_44 rfl ?_
        refine g_getR h 100 2 103 fl_7_22 rfl (by decide) rfl t_X7_acceptDigit_45 ?_
        refine g_iload_n h 1 t_X7_acceptDigit_48 rfl ?_
        refine g_callVV h 103 (As := [.int p1]) (st := []) my_X6_addDigit mi_X6_addDigit ml_7_72 rfl (by decide) rfl rfl rfl (Nat.le_of_ble_eq_true rfl) (by decide) t_X7_acceptDigit_49 hD (fun _ e => S_X6_addDigit hρ (by decide) e) (fun w1 hD => ?_)
        refine g_aload_n h 0 t_X7_acceptDigit_52 rfl ?_
        refine g_dup h t_X7_acceptDigit_53 rfl ?_
        refine g_getI h 100 5 fl_7_36 rfl (by decide) rfl t_X7_acceptDigit_54 ?_
        refine g_iconst (v := 1) h t_X7_acceptDigit_57 (by decide) ?_
        refine g_iadd h t_X7_acceptDigit_58 ?_
        refine g_putI h 100 5 fl_7_36 fp_7_5 rfl (by decide) rfl t_X7_acceptDigit_59 hD (fun w2 hD => ?_)
        refine g_iconst (v := 1) h t_X7_acceptDigit_62 (by decide) ?_
        obtain rfl := Option.some.inj hD
        exact hR _ _ t_X7_acceptDigit_63 (b01_n rfl)
      · refine g_iconst (v := 0) h t_X7_acceptDigit_42 (by decide) ?_
        obtain rfl := Option.some.inj hD
        exact hR _ _ t_X7_acceptDigit_43 (b01_n rfl)
  · refine g_aload_n h 0 t_X7_acceptDigit_7 rfl ?_
    refine g_getR h 100 2 103 fl_7_22 rfl (by decide) rfl t_X7_acceptDigit_8 ?_
    refine g_iload_n h 1 t_X7_acceptDigit_11 rfl ?_
    refine g_callVV h 103 (As := [.int p1]) (st := []) my_X6_put mi_X6_put ml_7_69 rfl (by decide) rfl rfl rfl (Nat.le_of_ble_eq_true rfl) (by decide) t_X7_acceptDigit_12 hD (fun _ e => S_X6_put hρ (by decide) e) (fun w3 hD => ?_)
    refine g_aload_n h 0 t_X7_acceptDigit_15 rfl ?_
    refine g_iconst (v := 1) h t_X7_acceptDigit_16 (by decide) ?_
    refine g_putI h 100 5 fl_7_36 fp_7_5 rfl (by decide) rfl t_X7_acceptDigit_17 hD (fun w4 hD => ?_)
    refine g_aload_n h 0 t_X7_acceptDigit_20 rfl ?_
    refine g_iconst (v := 0) h t_X7_acceptDigit_21 (by decide) ?_
    refine g_putZ h 100 6 fl_7_39 fp_7_6 rfl (by decide) rfl t_X7_acceptDigit_22 hD (fun w5 hD => ?_)
    refine g_iconst (v := 1) h t_X7_acceptDigit_25 (by decide) ?_
    obtain rfl := Option.some.inj hD
    exact hR _ _ t_X7_acceptDigit_26 (b01_n rfl)
def J_X7_accept_j21_1 (p1 : Int32) : Wd → Option (Int32 × Wd) := fun w1 =>
  bd (wI w1 100 5 0) fun w3 => if (w3.1 100 6) = 0 then (bc (D_X7_acceptBehind p1 w3) fun x5 w4 => if b01 x5 then some (x5, w4) else none) else (bc (D_X7_acceptAhead p1 w3) fun x7 w6 => if b01 x7 then some (x7, w6) else none)
def D_X7_accept (p1 : Int32) : Wd → Option (Int32 × Wd) := fun w =>
  bd (J_X7_accept_j21_1 p1) fun k2 => if p1 < 48 then (k2 w) else (if 57 < p1 then (k2 w) else (bc (D_X7_acceptDigit (p1 - 48) w) fun x9 w8 => if b01 x9 then some (x9, w8) else none))
set_option maxRecDepth 20000 in
theorem S_X7_accept {l0 : Launch} {ρ : Nat → Nat} {cs : Nat → ClassId} {G : va_G} (hρ : injN ρ) {p1 : Int32} {w : Wd} {rr : (Int32 × Wd)} (hD : D_X7_accept p1 w = some rr) : CtI l0 ρ cs G y_X7_accept prog_9_method_3_code 2 .boolean 11 [.ref (ρ 100), .int p1] w rr.1 rr.2 := by
  refine ctI_of hρ (by decide) (Nat.le_of_ble_eq_true rfl) (fun X hn h hR => ?_)
  unfold D_X7_accept at hD
  show gG ρ cs G X 0 [(0, .ref (ρ 100)), (1, .int p1)] [] w
  refine g_iload_n h 1 t_X7_accept_0 rfl ?_
  refine g_bipush (v := 48) h t_X7_accept_1 (by decide) ?_
  refine g_join (P := fun k2 => ∀ (w1 : Wd), k2 w1 = some rr → gG ρ cs G X 21 [(0, .ref (ρ 100)), (1, .int p1)] [] w1) hD ?_ (fun k2 hk2 hD => ?_)
  · intro w1 hD
    unfold J_X7_accept_j21_1 at hD
    refine g_aload_n h 0 t_X7_accept_21 rfl ?_
    refine g_iconst (v := 0) h t_X7_accept_22 (by decide) ?_
    refine g_putI h 100 5 fl_7_36 fp_7_5 rfl (by decide) rfl t_X7_accept_23 hD (fun w3 hD => ?_)
    refine g_aload_n h 0 t_X7_accept_26 rfl ?_
    refine g_getI h 100 6 fl_7_39 rfl (by decide) rfl t_X7_accept_27 ?_
    refine g_if_eq (tgt := 41) h t_X7_accept_30 (by decide) hD (fun hD => ?_) (fun hD => ?_)
    · refine g_aload_n h 0 t_X7_accept_41 rfl ?_
      refine g_iload_n h 1 t_X7_accept_42 rfl ?_
      refine g_callVI h 100 (As := [.int p1]) (st := []) my_X7_acceptBehind mi_X7_acceptBehind ml_7_66 rfl (by decide) rfl rfl rfl (Nat.le_of_ble_eq_true rfl) (by decide) t_X7_accept_43 hD (fun _ _ e => S_X7_acceptBehind hρ  e) (fun x5 w4 hD => ?_)
      obtain ⟨hb, hD⟩ := of_ite hD
      obtain rfl := Option.some.inj hD
      exact hR _ _ t_X7_accept_46 (b01_n hb)
    · refine g_aload_n h 0 t_X7_accept_33 rfl ?_
      refine g_iload_n h 1 t_X7_accept_34 rfl ?_
      refine g_callVI h 100 (As := [.int p1]) (st := []) my_X7_acceptAhead mi_X7_acceptAhead ml_7_63 rfl (by decide) rfl rfl rfl (Nat.le_of_ble_eq_true rfl) (by decide) t_X7_accept_35 hD (fun _ _ e => S_X7_acceptAhead hρ  e) (fun x7 w6 hD => ?_)
      refine g_goto (tgt := 46) h t_X7_accept_38 (by decide) ?_
      obtain ⟨hb, hD⟩ := of_ite hD
      obtain rfl := Option.some.inj hD
      exact hR _ _ t_X7_accept_46 (b01_n hb)
  · refine g_icmp_lt (tgt := 21) h t_X7_accept_3 (by decide) hD (fun hD => ?_) (fun hD => ?_)
    · refine g_loc (L' := [(0, .ref (ρ 100)), (1, .int p1)]) h [0, 1] rfl ?_
      exact hk2 _ hD
    · refine g_iload_n h 1 t_X7_accept_6 rfl ?_
      refine g_bipush (v := 57) h t_X7_accept_7 (by decide) ?_
      refine g_icmp_gt (tgt := 21) h t_X7_accept_9 (by decide) hD (fun hD => ?_) (fun hD => ?_)
      · refine g_loc (L' := [(0, .ref (ρ 100)), (1, .int p1)]) h [0, 1] rfl ?_
        exact hk2 _ hD
      · refine g_aload_n h 0 t_X7_accept_12 rfl ?_
        refine g_iload_n h 1 t_X7_accept_13 rfl ?_
        refine g_bipush (v := 48) h t_X7_accept_14 (by decide) ?_
        refine g_isub h t_X7_accept_16 ?_
        refine g_callVI h 100 (As := [.int (p1 - 48)]) (st := []) my_X7_acceptDigit mi_X7_acceptDigit ml_7_60 rfl (by decide) rfl rfl rfl (Nat.le_of_ble_eq_true rfl) (by decide) t_X7_accept_17 hD (fun _ _ e => S_X7_acceptDigit hρ  e) (fun x9 w8 hD => ?_)
        obtain ⟨hb, hD⟩ := of_ite hD
        obtain rfl := Option.some.inj hD
        exact hR _ _ t_X7_accept_20 (b01_n hb)
def L_X7_read_37 (k7 : Int32 → Wd → Option (Int32 × Wd)) (k8 : Wd → Option (Int32 × Wd)) : Nat → Int32 → Wd → Option (Int32 × Wd)
  | 0, _, _ => none
  | n9 + 1, x10, w11 =>
    if (w11.1 80 1) ≤ x10 then (k8 w11) else (if x10 = 40 then (k7 x10 w11) else (bc (D_X9_at x10 w11) fun x13 w12 => bc (D_X7_accept x13 w12) fun x15 w14 => if x15 = 0 then (k7 x10 w14) else (bd (x10 + 1) fun x16 => L_X7_read_37 k7 k8 n9 x16 w14)))
def J_X7_read_x63_1  : Int32 → Wd → Option (Int32 × Wd) := fun x17 w18 =>
  some (x17, w18)
def J_X7_read_x71_2  : Wd → Option (Int32 × Wd) := fun w19 =>
  if (w19.1 80 1) ≤ 0 then (bv (D_X7_bindWaiting 1 w19) fun w20 => some ((-1), w20)) else (if (w19.1 100 6) = 0 then (if (w19.1 100 4) ≤ 0 then (bv (D_X7_bindWaiting 1 w19) fun w21 => some ((-1), w21)) else (some (w19.1 80 1, w19))) else (some (w19.1 80 1, w19)))
def D_X7_read  : Wd → Option (Int32 × Wd) := fun w =>
  bd (wI w 103 2 0) fun w1 => bd (wI w1 100 3 0) fun w2 => bd (wI w2 100 4 0) fun w3 => bd (wI w3 100 5 0) fun w4 => if ib 0 5 then bd (wI w4 102 (0 : Int32).toNatClampNeg (vp_nar .boolean 0)) (fun w5 => if b01 1 then (bd (wI w5 100 6 1) fun w6 => L_X7_read_37 J_X7_read_x63_1 J_X7_read_x71_2 FU 0 w6) else none) else none
set_option maxRecDepth 20000 in
theorem Q_X7_read_37 {l0 : Launch} {ρ : Nat → Nat} {cs : Nat → ClassId} {G : va_G} {X : Cx} (hρ : injN ρ) (hn : X.2.2.2.2.2.2.2.2.2.2.1 = 3) (h : Okx l0 ρ cs G X prog_9_method_2_code "SowingBoards$RuleReader" 12) {rr : (Int32 × Wd)} (hR : ∀ pc L, decode prog_9_method_2_code pc = .ok (.ireturn, 1) → narrow .int (.int rr.1) = .int rr.1 → gG ρ cs G X pc L [.int rr.1] rr.2)  {k7 : Int32 → Wd → Option (Int32 × Wd)} (hk7 : ∀ (z2 : Int32) (w1 : Wd), k7 z2 w1 = some rr → gG ρ cs G X 63 [(2, .int z2)] [] w1) {k8 : Wd → Option (Int32 × Wd)} (hk8 : ∀ (w1 : Wd), k8 w1 = some rr → gG ρ cs G X 71 [(0, .ref (ρ 100)), (1, .ref (ρ 80))] [] w1) : ∀ (n : Nat) (x10 : Int32) (w : Wd), L_X7_read_37 k7 k8 n x10 w = some rr → gG ρ cs G X 37 [(0, .ref (ρ 100)), (1, .ref (ρ 80)), (2, .int x10)] [] w := by
  intro n
  induction n with
  | zero =>
    intro x10 w hD
    cases hD
  | succ n9 ih =>
    intro x10 w11 hD
    unfold L_X7_read_37 at hD
    refine g_iload_n h 2 t_X7_read_37 rfl ?_
    refine g_aload_n h 1 t_X7_read_38 rfl ?_
    refine g_getI h 80 1 fl_7_43 rfl (by decide) rfl t_X7_read_39 ?_
    refine g_icmp_ge (tgt := 71) h t_X7_read_42 (by decide) hD (fun hD => ?_) (fun hD => ?_)
    · refine g_loc (L' := [(0, .ref (ρ 100)), (1, .ref (ρ 80))]) h [0, 1] rfl ?_
      exact hk8 _ hD
    · refine g_iload_n h 2 t_X7_read_45 rfl ?_
      refine g_bipush (v := 40) h t_X7_read_46 (by decide) ?_
      refine g_icmp_eq (tgt := 63) h t_X7_read_48 (by decide) hD (fun hD => ?_) (fun hD => ?_)
      · refine g_loc (L' := [(2, .int x10)]) h [2] rfl ?_
        exact hk7 x10 _ hD
      · refine g_aload_n h 0 t_X7_read_51 rfl ?_
        refine g_aload_n h 1 t_X7_read_52 rfl ?_
        refine g_iload_n h 2 t_X7_read_53 rfl ?_
        refine g_callVI h 80 (As := [.int x10]) (st := [.ref (ρ 100)]) my_X9_at mi_X9_at ml_7_48 rfl (by decide) rfl rfl rfl (Nat.le_of_ble_eq_true rfl) (by decide) t_X7_read_54 hD (fun _ _ e => S_X9_at hρ  e) (fun x13 w12 hD => ?_)
        refine g_callVI h 100 (As := [.int x13]) (st := []) my_X7_accept mi_X7_accept ml_7_52 rfl (by decide) rfl rfl rfl (Nat.le_of_ble_eq_true rfl) (by decide) t_X7_read_57 hD (fun _ _ e => S_X7_accept hρ  e) (fun x15 w14 hD => ?_)
        refine g_if_ne (tgt := 65) h t_X7_read_60 (by decide) hD (fun hD => ?_) (fun hD => ?_)
        · obtain ⟨x16, ex16, hD⟩ := bd_ex hD
          refine g_iinc (v := x16) (L' := [(2, .int x16), (0, .ref (ρ 100)), (1, .ref (ρ 80))]) h hn t_X7_read_65 (k := 2) rfl (by rw [ex16]; rfl) (by decide) rfl ?_
          refine g_goto (tgt := 37) h t_X7_read_68 (by decide) ?_
          refine g_loc (L' := [(0, .ref (ρ 100)), (1, .ref (ρ 80)), (2, .int x16)]) h [1, 2, 0] rfl ?_
          exact ih x16 _ hD
        · refine g_loc (L' := [(2, .int x10)]) h [2] rfl ?_
          exact hk7 x10 _ hD
set_option maxRecDepth 20000 in
theorem S_X7_read {l0 : Launch} {ρ : Nat → Nat} {cs : Nat → ClassId} {G : va_G} (hρ : injN ρ)  {w : Wd} {rr : (Int32 × Wd)} (hD : D_X7_read w = some rr) : CtI l0 ρ cs G y_X7_read prog_9_method_2_code 3 .int 12 [.ref (ρ 100), .ref (ρ 80)] w rr.1 rr.2 := by
  refine ctI_of hρ (by decide) (Nat.le_of_ble_eq_true rfl) (fun X hn h hR => ?_)
  unfold D_X7_read at hD
  show gG ρ cs G X 0 [(0, .ref (ρ 100)), (1, .ref (ρ 80))] [] w
  refine g_aload_n h 0 t_X7_read_0 rfl ?_
  refine g_getR h 100 2 103 fl_7_22 rfl (by decide) rfl t_X7_read_1 ?_
  refine g_iconst (v := 0) h t_X7_read_4 (by decide) ?_
  refine g_putI h 103 2 fl_7_26 fp_6_2 rfl (by decide) rfl t_X7_read_5 hD (fun w1 hD => ?_)
  refine g_aload_n h 0 t_X7_read_8 rfl ?_
  refine g_iconst (v := 0) h t_X7_read_9 (by decide) ?_
  refine g_putI h 100 3 fl_7_30 fp_7_3 rfl (by decide) rfl t_X7_read_10 hD (fun w2 hD => ?_)
  refine g_aload_n h 0 t_X7_read_13 rfl ?_
  refine g_iconst (v := 0) h t_X7_read_14 (by decide) ?_
  refine g_putI h 100 4 fl_7_33 fp_7_4 rfl (by decide) rfl t_X7_read_15 hD (fun w3 hD => ?_)
  refine g_aload_n h 0 t_X7_read_18 rfl ?_
  refine g_iconst (v := 0) h t_X7_read_19 (by decide) ?_
  refine g_putI h 100 5 fl_7_36 fp_7_5 rfl (by decide) rfl t_X7_read_20 hD (fun w4 hD => ?_)
  refine g_aload_n h 0 t_X7_read_23 rfl ?_
  refine g_getR h 100 1 102 fl_7_17 rfl (by decide) rfl t_X7_read_24 ?_
  refine g_iconst (v := 0) h t_X7_read_27 (by decide) ?_
  refine g_iconst (v := 0) h t_X7_read_28 (by decide) ?_
  refine g_zast h 102 rfl (by decide) t_X7_read_29 hD (fun w5 hD => ?_)
  refine g_aload_n h 0 t_X7_read_30 rfl ?_
  refine g_iconst (v := 1) h t_X7_read_31 (by decide) ?_
  refine g_putZ h 100 6 fl_7_39 fp_7_6 rfl (by decide) rfl t_X7_read_32 hD (fun w6 hD => ?_)
  refine g_iconst (v := 0) h t_X7_read_35 (by decide) ?_
  refine g_istore_n (L' := [(2, .int 0), (0, .ref (ρ 100)), (1, .ref (ρ 80))]) h hn t_X7_read_36 rfl (by decide) rfl ?_
  refine g_loc (L' := [(0, .ref (ρ 100)), (1, .ref (ρ 80)), (2, .int 0)]) h [1, 2, 0] rfl ?_
  refine Q_X7_read_37 hρ hn h hR  ?_ ?_ _ _ _ hD
  · intro x17 w18 hD
    unfold J_X7_read_x63_1 at hD
    refine g_iload_n h 0 t_X7_read_63 rfl ?_
    obtain rfl := Option.some.inj hD
    exact hR _ _ t_X7_read_64 rfl
  · intro w19 hD
    unfold J_X7_read_x71_2 at hD
    refine g_aload_n h 1 t_X7_read_71 rfl ?_
    refine g_getI h 80 1 fl_7_43 rfl (by decide) rfl t_X7_read_72 ?_
    refine g_if_le (tgt := 97) h t_X7_read_75 (by decide) hD (fun hD => ?_) (fun hD => ?_)
    · refine g_aload_n h 0 t_X7_read_97 rfl ?_
      refine g_iconst (v := 1) h t_X7_read_98 (by decide) ?_
      refine g_callVV h 100 (As := [.int 1]) (st := []) my_X7_bindWaiting mi_X7_bindWaiting ml_7_56 rfl (by decide) rfl rfl rfl (Nat.le_of_ble_eq_true rfl) (by decide) t_X7_read_99 hD (fun _ e => S_X7_bindWaiting hρ  e) (fun w20 hD => ?_)
      refine g_iconst (v := (-1)) h t_X7_read_102 (by decide) ?_
      obtain rfl := Option.some.inj hD
      exact hR _ _ t_X7_read_103 rfl
    · refine g_aload_n h 0 t_X7_read_78 rfl ?_
      refine g_getI h 100 6 fl_7_39 rfl (by decide) rfl t_X7_read_79 ?_
      refine g_if_ne (tgt := 92) h t_X7_read_82 (by decide) hD (fun hD => ?_) (fun hD => ?_)
      · refine g_aload_n h 1 t_X7_read_92 rfl ?_
        refine g_getI h 80 1 fl_7_43 rfl (by decide) rfl t_X7_read_93 ?_
        obtain rfl := Option.some.inj hD
        exact hR _ _ t_X7_read_96 rfl
      · refine g_aload_n h 0 t_X7_read_85 rfl ?_
        refine g_getI h 100 4 fl_7_33 rfl (by decide) rfl t_X7_read_86 ?_
        refine g_if_le (tgt := 97) h t_X7_read_89 (by decide) hD (fun hD => ?_) (fun hD => ?_)
        · refine g_aload_n h 0 t_X7_read_97 rfl ?_
          refine g_iconst (v := 1) h t_X7_read_98 (by decide) ?_
          refine g_callVV h 100 (As := [.int 1]) (st := []) my_X7_bindWaiting mi_X7_bindWaiting ml_7_56 rfl (by decide) rfl rfl rfl (Nat.le_of_ble_eq_true rfl) (by decide) t_X7_read_99 hD (fun _ e => S_X7_bindWaiting hρ  e) (fun w21 hD => ?_)
          refine g_iconst (v := (-1)) h t_X7_read_102 (by decide) ?_
          obtain rfl := Option.some.inj hD
          exact hR _ _ t_X7_read_103 rfl
        · refine g_aload_n h 1 t_X7_read_92 rfl ?_
          refine g_getI h 80 1 fl_7_43 rfl (by decide) rfl t_X7_read_93 ?_
          obtain rfl := Option.some.inj hD
          exact hR _ _ t_X7_read_96 rfl
