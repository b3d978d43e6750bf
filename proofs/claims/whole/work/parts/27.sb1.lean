def y_X11_risks : MethodName := ⟨"SowingBoards", "risks", "(I)I"⟩
theorem t_X11_risks_0 : decode prog_1_method_33_code 0 = .ok (.aload_n 0, 1) := by decide +kernel
theorem t_X11_risks_1 : decode prog_1_method_33_code 1 = .ok (.iload_n 1, 1) := by decide +kernel
theorem t_X11_risks_2 : decode prog_1_method_33_code 2 = .ok (.invokevirtual 218, 3) := by decide +kernel
theorem t_X11_risks_5 : decode prog_1_method_33_code 5 = .ok (.istore_n 2, 1) := by decide +kernel
theorem t_X11_risks_6 : decode prog_1_method_33_code 6 = .ok (.iload_n 2, 1) := by decide +kernel
theorem t_X11_risks_7 : decode prog_1_method_33_code 7 = .ok (.ifCond .ge 5, 3) := by decide +kernel
theorem t_X11_risks_10 : decode prog_1_method_33_code 10 = .ok (.iload_n 2, 1) := by decide +kernel
theorem t_X11_risks_11 : decode prog_1_method_33_code 11 = .ok (.ireturn, 1) := by decide +kernel
theorem t_X11_risks_12 : decode prog_1_method_33_code 12 = .ok (.aload_n 0, 1) := by decide +kernel
theorem t_X11_risks_13 : decode prog_1_method_33_code 13 = .ok (.iload_n 1, 1) := by decide +kernel
theorem t_X11_risks_14 : decode prog_1_method_33_code 14 = .ok (.aload_n 0, 1) := by decide +kernel
theorem t_X11_risks_15 : decode prog_1_method_33_code 15 = .ok (.getfield 112, 3) := by decide +kernel
theorem t_X11_risks_18 : decode prog_1_method_33_code 18 = .ok (.invokevirtual 284, 3) := by decide +kernel
theorem t_X11_risks_21 : decode prog_1_method_33_code 21 = .ok (.pop, 1) := by decide +kernel
theorem t_X11_risks_22 : decode prog_1_method_33_code 22 = .ok (.aload_n 0, 1) := by decide +kernel
theorem t_X11_risks_23 : decode prog_1_method_33_code 23 = .ok (.getfield 54, 3) := by decide +kernel
theorem t_X11_risks_26 : decode prog_1_method_33_code 26 = .ok (.getfield 325, 3) := by decide +kernel
theorem t_X11_risks_29 : decode prog_1_method_33_code 29 = .ok (.ifCond .eq 5, 3) := by decide +kernel
theorem t_X11_risks_32 : decode prog_1_method_33_code 32 = .ok (.iconst 0, 1) := by decide +kernel
theorem t_X11_risks_33 : decode prog_1_method_33_code 33 = .ok (.ireturn, 1) := by decide +kernel
theorem t_X11_risks_34 : decode prog_1_method_33_code 34 = .ok (.aload_n 0, 1) := by decide +kernel
theorem t_X11_risks_35 : decode prog_1_method_33_code 35 = .ok (.getfield 61, 3) := by decide +kernel
theorem t_X11_risks_38 : decode prog_1_method_33_code 38 = .ok (.aload_n 0, 1) := by decide +kernel
theorem t_X11_risks_39 : decode prog_1_method_33_code 39 = .ok (.getfield 19, 3) := by decide +kernel
theorem t_X11_risks_42 : decode prog_1_method_33_code 42 = .ok (.aload_n 0, 1) := by decide +kernel
theorem t_X11_risks_43 : decode prog_1_method_33_code 43 = .ok (.getfield 93, 3) := by decide +kernel
theorem t_X11_risks_46 : decode prog_1_method_33_code 46 = .ok (.aload_n 0, 1) := by decide +kernel
theorem t_X11_risks_47 : decode prog_1_method_33_code 47 = .ok (.getfield 112, 3) := by decide +kernel
theorem t_X11_risks_50 : decode prog_1_method_33_code 50 = .ok (.invokevirtual 295, 3) := by decide +kernel
theorem t_X11_risks_53 : decode prog_1_method_33_code 53 = .ok (.pop, 1) := by decide +kernel
theorem t_X11_risks_54 : decode prog_1_method_33_code 54 = .ok (.aload_n 0, 1) := by decide +kernel
theorem t_X11_risks_55 : decode prog_1_method_33_code 55 = .ok (.getfield 61, 3) := by decide +kernel
theorem t_X11_risks_58 : decode prog_1_method_33_code 58 = .ok (.getfield 299, 3) := by decide +kernel
theorem t_X11_risks_61 : decode prog_1_method_33_code 61 = .ok (.ireturn, 1) := by decide +kernel
def y_X11_starves : MethodName := ⟨"SowingBoards", "starves", "()I"⟩
theorem t_X11_starves_0 : decode prog_1_method_34_code 0 = .ok (.iconst 0, 1) := by decide +kernel
theorem t_X11_starves_1 : decode prog_1_method_34_code 1 = .ok (.istore_n 1, 1) := by decide +kernel
theorem t_X11_starves_2 : decode prog_1_method_34_code 2 = .ok (.iconst 0, 1) := by decide +kernel
theorem t_X11_starves_3 : decode prog_1_method_34_code 3 = .ok (.istore_n 2, 1) := by decide +kernel
theorem t_X11_starves_4 : decode prog_1_method_34_code 4 = .ok (.iload_n 2, 1) := by decide +kernel
theorem t_X11_starves_5 : decode prog_1_method_34_code 5 = .ok (.aload_n 0, 1) := by decide +kernel
theorem t_X11_starves_6 : decode prog_1_method_34_code 6 = .ok (.getfield 10, 3) := by decide +kernel
theorem t_X11_starves_9 : decode prog_1_method_34_code 9 = .ok (.getfield 152, 3) := by decide +kernel
theorem t_X11_starves_12 : decode prog_1_method_34_code 12 = .ok (.if_icmp .ge 37, 3) := by decide +kernel
theorem t_X11_starves_15 : decode prog_1_method_34_code 15 = .ok (.aload_n 0, 1) := by decide +kernel
theorem t_X11_starves_16 : decode prog_1_method_34_code 16 = .ok (.iload_n 2, 1) := by decide +kernel
theorem t_X11_starves_17 : decode prog_1_method_34_code 17 = .ok (.aload_n 0, 1) := by decide +kernel
theorem t_X11_starves_18 : decode prog_1_method_34_code 18 = .ok (.getfield 112, 3) := by decide +kernel
theorem t_X11_starves_21 : decode prog_1_method_34_code 21 = .ok (.invokevirtual 284, 3) := by decide +kernel
theorem t_X11_starves_24 : decode prog_1_method_34_code 24 = .ok (.ifCond .eq 19, 3) := by decide +kernel
theorem t_X11_starves_27 : decode prog_1_method_34_code 27 = .ok (.aload_n 0, 1) := by decide +kernel
theorem t_X11_starves_28 : decode prog_1_method_34_code 28 = .ok (.getfield 19, 3) := by decide +kernel
theorem t_X11_starves_31 : decode prog_1_method_34_code 31 = .ok (.invokevirtual 245, 3) := by decide +kernel
theorem t_X11_starves_34 : decode prog_1_method_34_code 34 = .ok (.ifCond .eq 9, 3) := by decide +kernel
theorem t_X11_starves_37 : decode prog_1_method_34_code 37 = .ok (.iload_n 1, 1) := by decide +kernel
theorem t_X11_starves_38 : decode prog_1_method_34_code 38 = .ok (.iconst 1, 1) := by decide +kernel
theorem t_X11_starves_39 : decode prog_1_method_34_code 39 = .ok (.iload_n 2, 1) := by decide +kernel
theorem t_X11_starves_40 : decode prog_1_method_34_code 40 = .ok (.ishl, 1) := by decide +kernel
theorem t_X11_starves_41 : decode prog_1_method_34_code 41 = .ok (.ior, 1) := by decide +kernel
theorem t_X11_starves_42 : decode prog_1_method_34_code 42 = .ok (.istore_n 1, 1) := by decide +kernel
theorem t_X11_starves_43 : decode prog_1_method_34_code 43 = .ok (.iinc 2 1, 3) := by decide +kernel
theorem t_X11_starves_46 : decode prog_1_method_34_code 46 = .ok (.goto (-42), 3) := by decide +kernel
theorem t_X11_starves_49 : decode prog_1_method_34_code 49 = .ok (.aload_n 0, 1) := by decide +kernel
theorem t_X11_starves_50 : decode prog_1_method_34_code 50 = .ok (.getfield 47, 3) := by decide +kernel
theorem t_X11_starves_53 : decode prog_1_method_34_code 53 = .ok (.iload_n 1, 1) := by decide +kernel
theorem t_X11_starves_54 : decode prog_1_method_34_code 54 = .ok (.i2l, 1) := by decide +kernel
theorem t_X11_starves_55 : decode prog_1_method_34_code 55 = .ok (.invokevirtual 292, 3) := by decide +kernel
theorem t_X11_starves_58 : decode prog_1_method_34_code 58 = .ok (.iload_n 1, 1) := by decide +kernel
theorem t_X11_starves_59 : decode prog_1_method_34_code 59 = .ok (.invokestatic 168, 3) := by decide +kernel
theorem t_X11_starves_62 : decode prog_1_method_34_code 62 = .ok (.ireturn, 1) := by decide +kernel
def y_X11_looks : MethodName := ⟨"SowingBoards", "looks", "(I)I"⟩
theorem t_X11_looks_0 : decode prog_1_method_35_code 0 = .ok (.iload_n 1, 1) := by decide +kernel
theorem t_X11_looks_1 : decode prog_1_method_35_code 1 = .ok (.ifCond .lt 8, 3) := by decide +kernel
theorem t_X11_looks_4 : decode prog_1_method_35_code 4 = .ok (.iload_n 1, 1) := by decide +kernel
theorem t_X11_looks_5 : decode prog_1_method_35_code 5 = .ok (.iconst 4, 1) := by decide +kernel
theorem t_X11_looks_6 : decode prog_1_method_35_code 6 = .ok (.if_icmp .le 5, 3) := by decide +kernel
theorem t_X11_looks_9 : decode prog_1_method_35_code 9 = .ok (.iconst (-1), 1) := by decide +kernel
theorem t_X11_looks_10 : decode prog_1_method_35_code 10 = .ok (.ireturn, 1) := by decide +kernel
theorem t_X11_looks_11 : decode prog_1_method_35_code 11 = .ok (.aload_n 0, 1) := by decide +kernel
theorem t_X11_looks_12 : decode prog_1_method_35_code 12 = .ok (.getfield 68, 3) := by decide +kernel
theorem t_X11_looks_15 : decode prog_1_method_35_code 15 = .ok (.aload_n 0, 1) := by decide +kernel
theorem t_X11_looks_16 : decode prog_1_method_35_code 16 = .ok (.getfield 10, 3) := by decide +kernel
theorem t_X11_looks_19 : decode prog_1_method_35_code 19 = .ok (.iload_n 1, 1) := by decide +kernel
theorem t_X11_looks_20 : decode prog_1_method_35_code 20 = .ok (.aload_n 0, 1) := by decide +kernel
theorem t_X11_looks_21 : decode prog_1_method_35_code 21 = .ok (.getfield 112, 3) := by decide +kernel
theorem t_X11_looks_24 : decode prog_1_method_35_code 24 = .ok (.invokevirtual 329, 3) := by decide +kernel
theorem t_X11_looks_27 : decode prog_1_method_35_code 27 = .ok (.istore_n 2, 1) := by decide +kernel
theorem t_X11_looks_28 : decode prog_1_method_35_code 28 = .ok (.aload_n 0, 1) := by decide +kernel
theorem t_X11_looks_29 : decode prog_1_method_35_code 29 = .ok (.getfield 68, 3) := by decide +kernel
theorem t_X11_looks_32 : decode prog_1_method_35_code 32 = .ok (.aload_n 0, 1) := by decide +kernel
theorem t_X11_looks_33 : decode prog_1_method_35_code 33 = .ok (.getfield 47, 3) := by decide +kernel
theorem t_X11_looks_36 : decode prog_1_method_35_code 36 = .ok (.invokevirtual 333, 3) := by decide +kernel
theorem t_X11_looks_39 : decode prog_1_method_35_code 39 = .ok (.sipush 300, 3) := by decide +kernel
theorem t_X11_looks_42 : decode prog_1_method_35_code 42 = .ok (.iload_n 2, 1) := by decide +kernel
theorem t_X11_looks_43 : decode prog_1_method_35_code 43 = .ok (.iadd, 1) := by decide +kernel
theorem t_X11_looks_44 : decode prog_1_method_35_code 44 = .ok (.ireturn, 1) := by decide +kernel
def y_X11_ways : MethodName := ⟨"SowingBoards", "ways", "(II)I"⟩
theorem t_X11_ways_0 : decode prog_1_method_36_code 0 = .ok (.aload_n 0, 1) := by decide +kernel
theorem t_X11_ways_1 : decode prog_1_method_36_code 1 = .ok (.getfield 10, 3) := by decide +kernel
theorem t_X11_ways_4 : decode prog_1_method_36_code 4 = .ok (.iload_n 1, 1) := by decide +kernel
theorem t_X11_ways_5 : decode prog_1_method_36_code 5 = .ok (.invokevirtual 194, 3) := by decide +kernel
theorem t_X11_ways_8 : decode prog_1_method_36_code 8 = .ok (.ifCond .eq 12, 3) := by decide +kernel
theorem t_X11_ways_11 : decode prog_1_method_36_code 11 = .ok (.iload_n 2, 1) := by decide +kernel
theorem t_X11_ways_12 : decode prog_1_method_36_code 12 = .ok (.ifCond .lt 8, 3) := by decide +kernel
theorem t_X11_ways_15 : decode prog_1_method_36_code 15 = .ok (.iload_n 2, 1) := by decide +kernel
theorem t_X11_ways_16 : decode prog_1_method_36_code 16 = .ok (.iconst 4, 1) := by decide +kernel
theorem t_X11_ways_17 : decode prog_1_method_36_code 17 = .ok (.if_icmp .le 5, 3) := by decide +kernel
theorem t_X11_ways_20 : decode prog_1_method_36_code 20 = .ok (.iconst (-1), 1) := by decide +kernel
theorem t_X11_ways_21 : decode prog_1_method_36_code 21 = .ok (.ireturn, 1) := by decide +kernel
theorem t_X11_ways_22 : decode prog_1_method_36_code 22 = .ok (.iconst 0, 1) := by decide +kernel
theorem t_X11_ways_23 : decode prog_1_method_36_code 23 = .ok (.istore_n 3, 1) := by decide +kernel
theorem t_X11_ways_24 : decode prog_1_method_36_code 24 = .ok (.aload_n 0, 1) := by decide +kernel
theorem t_X11_ways_25 : decode prog_1_method_36_code 25 = .ok (.getfield 47, 3) := by decide +kernel
theorem t_X11_ways_28 : decode prog_1_method_36_code 28 = .ok (.invokevirtual 321, 3) := by decide +kernel
theorem t_X11_ways_31 : decode prog_1_method_36_code 31 = .ok (.aload_n 0, 1) := by decide +kernel
theorem t_X11_ways_32 : decode prog_1_method_36_code 32 = .ok (.getfield 68, 3) := by decide +kernel
theorem t_X11_ways_35 : decode prog_1_method_36_code 35 = .ok (.aload_n 0, 1) := by decide +kernel
theorem t_X11_ways_36 : decode prog_1_method_36_code 36 = .ok (.getfield 10, 3) := by decide +kernel
theorem t_X11_ways_39 : decode prog_1_method_36_code 39 = .ok (.iload_n 2, 1) := by decide +kernel
theorem t_X11_ways_40 : decode prog_1_method_36_code 40 = .ok (.iconst 0, 1) := by decide +kernel
theorem t_X11_ways_41 : decode prog_1_method_36_code 41 = .ok (.aload_n 0, 1) := by decide +kernel
theorem t_X11_ways_42 : decode prog_1_method_36_code 42 = .ok (.getfield 112, 3) := by decide +kernel
theorem t_X11_ways_45 : decode prog_1_method_36_code 45 = .ok (.invokevirtual 302, 3) := by decide +kernel
theorem t_X11_ways_48 : decode prog_1_method_36_code 48 = .ok (.iconst 0, 1) := by decide +kernel
theorem t_X11_ways_49 : decode prog_1_method_36_code 49 = .ok (.istore 4, 2) := by decide +kernel
theorem t_X11_ways_51 : decode prog_1_method_36_code 51 = .ok (.iload 4, 2) := by decide +kernel
theorem t_X11_ways_53 : decode prog_1_method_36_code 53 = .ok (.ldc_w 306, 3) := by decide +kernel
theorem t_X11_ways_56 : decode prog_1_method_36_code 56 = .ok (.if_icmp .ge 66, 3) := by decide +kernel
theorem t_X11_ways_59 : decode prog_1_method_36_code 59 = .ok (.aload_n 0, 1) := by decide +kernel
theorem t_X11_ways_60 : decode prog_1_method_36_code 60 = .ok (.getfield 68, 3) := by decide +kernel
theorem t_X11_ways_63 : decode prog_1_method_36_code 63 = .ok (.getfield 318, 3) := by decide +kernel
theorem t_X11_ways_66 : decode prog_1_method_36_code 66 = .ok (.iload_n 2, 1) := by decide +kernel
theorem t_X11_ways_67 : decode prog_1_method_36_code 67 = .ok (.if_icmp .ne 36, 3) := by decide +kernel
theorem t_X11_ways_70 : decode prog_1_method_36_code 70 = .ok (.aload_n 0, 1) := by decide +kernel
theorem t_X11_ways_71 : decode prog_1_method_36_code 71 = .ok (.getfield 68, 3) := by decide +kernel
theorem t_X11_ways_74 : decode prog_1_method_36_code 74 = .ok (.invokevirtual 310, 3) := by decide +kernel
theorem t_X11_ways_77 : decode prog_1_method_36_code 77 = .ok (.getfield 120, 3) := by decide +kernel
theorem t_X11_ways_80 : decode prog_1_method_36_code 80 = .ok (.iload_n 1, 1) := by decide +kernel
theorem t_X11_ways_81 : decode prog_1_method_36_code 81 = .ok (.iaload, 1) := by decide +kernel
theorem t_X11_ways_82 : decode prog_1_method_36_code 82 = .ok (.ifCond .ne 21, 3) := by decide +kernel
theorem t_X11_ways_85 : decode prog_1_method_36_code 85 = .ok (.iload_n 3, 1) := by decide +kernel
theorem t_X11_ways_86 : decode prog_1_method_36_code 86 = .ok (.ifCond .ne 14, 3) := by decide +kernel
theorem t_X11_ways_89 : decode prog_1_method_36_code 89 = .ok (.aload_n 0, 1) := by decide +kernel
theorem t_X11_ways_90 : decode prog_1_method_36_code 90 = .ok (.getfield 68, 3) := by decide +kernel
theorem t_X11_ways_93 : decode prog_1_method_36_code 93 = .ok (.aload_n 0, 1) := by decide +kernel
theorem t_X11_ways_94 : decode prog_1_method_36_code 94 = .ok (.getfield 47, 3) := by decide +kernel
theorem t_X11_ways_97 : decode prog_1_method_36_code 97 = .ok (.invokevirtual 314, 3) := by decide +kernel
theorem t_X11_ways_100 : decode prog_1_method_36_code 100 = .ok (.iinc 3 1, 3) := by decide +kernel
theorem t_X11_ways_103 : decode prog_1_method_36_code 103 = .ok (.aload_n 0, 1) := by decide +kernel
theorem t_X11_ways_104 : decode prog_1_method_36_code 104 = .ok (.getfield 68, 3) := by decide +kernel
theorem t_X11_ways_107 : decode prog_1_method_36_code 107 = .ok (.invokevirtual 307, 3) := by decide +kernel
theorem t_X11_ways_110 : decode prog_1_method_36_code 110 = .ok (.ifCond .ne 6, 3) := by decide +kernel
theorem t_X11_ways_113 : decode prog_1_method_36_code 113 = .ok (.goto 9, 3) := by decide +kernel
theorem t_X11_ways_116 : decode prog_1_method_36_code 116 = .ok (.iinc 4 1, 3) := by decide +kernel
theorem t_X11_ways_119 : decode prog_1_method_36_code 119 = .ok (.goto (-68), 3) := by decide +kernel
theorem t_X11_ways_122 : decode prog_1_method_36_code 122 = .ok (.iload_n 3, 1) := by decide +kernel
theorem t_X11_ways_123 : decode prog_1_method_36_code 123 = .ok (.ireturn, 1) := by decide +kernel
def y_X11_reach : MethodName := ⟨"SowingBoards", "reach", "(I)I"⟩
theorem t_X11_reach_0 : decode prog_1_method_37_code 0 = .ok (.iload_n 1, 1) := by decide +kernel
theorem t_X11_reach_1 : decode prog_1_method_37_code 1 = .ok (.ifCond .lt 8, 3) := by decide +kernel
theorem t_X11_reach_4 : decode prog_1_method_37_code 4 = .ok (.iload_n 1, 1) := by decide +kernel
theorem t_X11_reach_5 : decode prog_1_method_37_code 5 = .ok (.iconst 3, 1) := by decide +kernel
theorem t_X11_reach_6 : decode prog_1_method_37_code 6 = .ok (.if_icmp .le 5, 3) := by decide +kernel
theorem t_X11_reach_9 : decode prog_1_method_37_code 9 = .ok (.iconst (-1), 1) := by decide +kernel
theorem t_X11_reach_10 : decode prog_1_method_37_code 10 = .ok (.ireturn, 1) := by decide +kernel
theorem t_X11_reach_11 : decode prog_1_method_37_code 11 = .ok (.iconst 0, 1) := by decide +kernel
theorem t_X11_reach_12 : decode prog_1_method_37_code 12 = .ok (.istore_n 2, 1) := by decide +kernel
theorem t_X11_reach_13 : decode prog_1_method_37_code 13 = .ok (.iconst 0, 1) := by decide +kernel
theorem t_X11_reach_14 : decode prog_1_method_37_code 14 = .ok (.istore_n 3, 1) := by decide +kernel
theorem t_X11_reach_15 : decode prog_1_method_37_code 15 = .ok (.aload_n 0, 1) := by decide +kernel
theorem t_X11_reach_16 : decode prog_1_method_37_code 16 = .ok (.getfield 75, 3) := by decide +kernel
theorem t_X11_reach_19 : decode prog_1_method_37_code 19 = .ok (.invokevirtual 336, 3) := by decide +kernel
theorem t_X11_reach_22 : decode prog_1_method_37_code 22 = .ok (.aload_n 0, 1) := by decide +kernel
theorem t_X11_reach_23 : decode prog_1_method_37_code 23 = .ok (.getfield 68, 3) := by decide +kernel
theorem t_X11_reach_26 : decode prog_1_method_37_code 26 = .ok (.aload_n 0, 1) := by decide +kernel
theorem t_X11_reach_27 : decode prog_1_method_37_code 27 = .ok (.getfield 10, 3) := by decide +kernel
theorem t_X11_reach_30 : decode prog_1_method_37_code 30 = .ok (.iload_n 1, 1) := by decide +kernel
theorem t_X11_reach_31 : decode prog_1_method_37_code 31 = .ok (.iconst 0, 1) := by decide +kernel
theorem t_X11_reach_32 : decode prog_1_method_37_code 32 = .ok (.aload_n 0, 1) := by decide +kernel
theorem t_X11_reach_33 : decode prog_1_method_37_code 33 = .ok (.getfield 112, 3) := by decide +kernel
theorem t_X11_reach_36 : decode prog_1_method_37_code 36 = .ok (.invokevirtual 302, 3) := by decide +kernel
theorem t_X11_reach_39 : decode prog_1_method_37_code 39 = .ok (.iconst 0, 1) := by decide +kernel
theorem t_X11_reach_40 : decode prog_1_method_37_code 40 = .ok (.istore 4, 2) := by decide +kernel
theorem t_X11_reach_42 : decode prog_1_method_37_code 42 = .ok (.iload 4, 2) := by decide +kernel
theorem t_X11_reach_44 : decode prog_1_method_37_code 44 = .ok (.ldc_w 306, 3) := by decide +kernel
theorem t_X11_reach_47 : decode prog_1_method_37_code 47 = .ok (.if_icmp .ge 96, 3) := by decide +kernel
theorem t_X11_reach_50 : decode prog_1_method_37_code 50 = .ok (.aload_n 0, 1) := by decide +kernel
theorem t_X11_reach_51 : decode prog_1_method_37_code 51 = .ok (.getfield 68, 3) := by decide +kernel
theorem t_X11_reach_54 : decode prog_1_method_37_code 54 = .ok (.getfield 318, 3) := by decide +kernel
theorem t_X11_reach_57 : decode prog_1_method_37_code 57 = .ok (.iload_n 1, 1) := by decide +kernel
theorem t_X11_reach_58 : decode prog_1_method_37_code 58 = .ok (.if_icmp .ne 66, 3) := by decide +kernel
theorem t_X11_reach_61 : decode prog_1_method_37_code 61 = .ok (.aload_n 0, 1) := by decide +kernel
theorem t_X11_reach_62 : decode prog_1_method_37_code 62 = .ok (.getfield 68, 3) := by decide +kernel
theorem t_X11_reach_65 : decode prog_1_method_37_code 65 = .ok (.invokevirtual 310, 3) := by decide +kernel
theorem t_X11_reach_68 : decode prog_1_method_37_code 68 = .ok (.getfield 155, 3) := by decide +kernel
theorem t_X11_reach_71 : decode prog_1_method_37_code 71 = .ok (.aload_n 0, 1) := by decide +kernel
theorem t_X11_reach_72 : decode prog_1_method_37_code 72 = .ok (.getfield 10, 3) := by decide +kernel
theorem t_X11_reach_75 : decode prog_1_method_37_code 75 = .ok (.getfield 158, 3) := by decide +kernel
theorem t_X11_reach_78 : decode prog_1_method_37_code 78 = .ok (.iaload, 1) := by decide +kernel
theorem t_X11_reach_79 : decode prog_1_method_37_code 79 = .ok (.istore 5, 2) := by decide +kernel
theorem t_X11_reach_81 : decode prog_1_method_37_code 81 = .ok (.aload_n 0, 1) := by decide +kernel
theorem t_X11_reach_82 : decode prog_1_method_37_code 82 = .ok (.getfield 75, 3) := by decide +kernel
theorem t_X11_reach_85 : decode prog_1_method_37_code 85 = .ok (.getfield 337, 3) := by decide +kernel
theorem t_X11_reach_88 : decode prog_1_method_37_code 88 = .ok (.ifCond .ne 8, 3) := by decide +kernel
theorem t_X11_reach_91 : decode prog_1_method_37_code 91 = .ok (.iload 5, 2) := by decide +kernel
theorem t_X11_reach_93 : decode prog_1_method_37_code 93 = .ok (.goto 9, 3) := by decide +kernel
theorem t_X11_reach_96 : decode prog_1_method_37_code 96 = .ok (.iload_n 2, 1) := by decide +kernel
theorem t_X11_reach_97 : decode prog_1_method_37_code 97 = .ok (.iload 5, 2) := by decide +kernel
theorem t_X11_reach_99 : decode prog_1_method_37_code 99 = .ok (.invokestatic 210, 3) := by decide +kernel
theorem t_X11_reach_102 : decode prog_1_method_37_code 102 = .ok (.istore_n 2, 1) := by decide +kernel
theorem t_X11_reach_103 : decode prog_1_method_37_code 103 = .ok (.iload_n 3, 1) := by decide +kernel
theorem t_X11_reach_104 : decode prog_1_method_37_code 104 = .ok (.iload 5, 2) := by decide +kernel
theorem t_X11_reach_106 : decode prog_1_method_37_code 106 = .ok (.invokestatic 215, 3) := by decide +kernel
theorem t_X11_reach_109 : decode prog_1_method_37_code 109 = .ok (.istore_n 3, 1) := by decide +kernel
theorem t_X11_reach_110 : decode prog_1_method_37_code 110 = .ok (.aload_n 0, 1) := by decide +kernel
theorem t_X11_reach_111 : decode prog_1_method_37_code 111 = .ok (.getfield 75, 3) := by decide +kernel
theorem t_X11_reach_114 : decode prog_1_method_37_code 114 = .ok (.aload_n 0, 1) := by decide +kernel
theorem t_X11_reach_115 : decode prog_1_method_37_code 115 = .ok (.getfield 68, 3) := by decide +kernel
theorem t_X11_reach_118 : decode prog_1_method_37_code 118 = .ok (.invokevirtual 310, 3) := by decide +kernel
theorem t_X11_reach_121 : decode prog_1_method_37_code 121 = .ok (.invokevirtual 338, 3) := by decide +kernel
theorem t_X11_reach_124 : decode prog_1_method_37_code 124 = .ok (.aload_n 0, 1) := by decide +kernel
theorem t_X11_reach_125 : decode prog_1_method_37_code 125 = .ok (.getfield 68, 3) := by decide +kernel
theorem t_X11_reach_128 : decode prog_1_method_37_code 128 = .ok (.invokevirtual 307, 3) := by decide +kernel
theorem t_X11_reach_131 : decode prog_1_method_37_code 131 = .ok (.ifCond .ne 6, 3) := by decide +kernel
theorem t_X11_reach_134 : decode prog_1_method_37_code 134 = .ok (.goto 9, 3) := by decide +kernel
theorem t_X11_reach_137 : decode prog_1_method_37_code 137 = .ok (.iinc 4 1, 3) := by decide +kernel
theorem t_X11_reach_140 : decode prog_1_method_37_code 140 = .ok (.goto (-98), 3) := by decide +kernel
theorem t_X11_reach_143 : decode prog_1_method_37_code 143 = .ok (.aload_n 0, 1) := by decide +kernel
theorem t_X11_reach_144 : decode prog_1_method_37_code 144 = .ok (.getfield 47, 3) := by decide +kernel
theorem t_X11_reach_147 : decode prog_1_method_37_code 147 = .ok (.invokevirtual 321, 3) := by decide +kernel
theorem t_X11_reach_150 : decode prog_1_method_37_code 150 = .ok (.aload_n 0, 1) := by decide +kernel
theorem t_X11_reach_151 : decode prog_1_method_37_code 151 = .ok (.getfield 75, 3) := by decide +kernel
theorem t_X11_reach_154 : decode prog_1_method_37_code 154 = .ok (.getfield 337, 3) := by decide +kernel
theorem t_X11_reach_157 : decode prog_1_method_37_code 157 = .ok (.ifCond .le 14, 3) := by decide +kernel
theorem t_X11_reach_160 : decode prog_1_method_37_code 160 = .ok (.aload_n 0, 1) := by decide +kernel
theorem t_X11_reach_161 : decode prog_1_method_37_code 161 = .ok (.getfield 47, 3) := by decide +kernel
theorem t_X11_reach_164 : decode prog_1_method_37_code 164 = .ok (.iload_n 2, 1) := by decide +kernel
theorem t_X11_reach_165 : decode prog_1_method_37_code 165 = .ok (.i2l, 1) := by decide +kernel
theorem t_X11_reach_166 : decode prog_1_method_37_code 166 = .ok (.iload_n 3, 1) := by decide +kernel
theorem t_X11_reach_167 : decode prog_1_method_37_code 167 = .ok (.i2l, 1) := by decide +kernel
theorem t_X11_reach_168 : decode prog_1_method_37_code 168 = .ok (.invokevirtual 253, 3) := by decide +kernel
theorem t_X11_reach_171 : decode prog_1_method_37_code 171 = .ok (.aload_n 0, 1) := by decide +kernel
theorem t_X11_reach_172 : decode prog_1_method_37_code 172 = .ok (.getfield 75, 3) := by decide +kernel
theorem t_X11_reach_175 : decode prog_1_method_37_code 175 = .ok (.getfield 337, 3) := by decide +kernel
theorem t_X11_reach_178 : decode prog_1_method_37_code 178 = .ok (.ireturn, 1) := by decide +kernel
def y_X11_tellFraction : MethodName := ⟨"SowingBoards", "tellFraction", "(JJ)V"⟩
theorem t_X11_tellFraction_0 : decode prog_1_method_39_code 0 = .ok (.lload_n 3, 1) := by decide +kernel
theorem t_X11_tellFraction_1 : decode prog_1_method_39_code 1 = .ok (.lstore 5, 2) := by decide +kernel
theorem t_X11_tellFraction_3 : decode prog_1_method_39_code 3 = .ok (.lload_n 1, 1) := by decide +kernel
theorem t_X11_tellFraction_4 : decode prog_1_method_39_code 4 = .ok (.lstore 7, 2) := by decide +kernel
theorem t_X11_tellFraction_6 : decode prog_1_method_39_code 6 = .ok (.iconst 0, 1) := by decide +kernel
theorem t_X11_tellFraction_7 : decode prog_1_method_39_code 7 = .ok (.istore 9, 2) := by decide +kernel
theorem t_X11_tellFraction_9 : decode prog_1_method_39_code 9 = .ok (.iload 9, 2) := by decide +kernel
theorem t_X11_tellFraction_11 : decode prog_1_method_39_code 11 = .ok (.sipush 200, 3) := by decide +kernel
theorem t_X11_tellFraction_14 : decode prog_1_method_39_code 14 = .ok (.if_icmp .ge 31, 3) := by decide +kernel
theorem t_X11_tellFraction_17 : decode prog_1_method_39_code 17 = .ok (.lload 7, 2) := by decide +kernel
theorem t_X11_tellFraction_19 : decode prog_1_method_39_code 19 = .ok (.lconst 0, 1) := by decide +kernel
theorem t_X11_tellFraction_20 : decode prog_1_method_39_code 20 = .ok (.lcmp, 1) := by decide +kernel
theorem t_X11_tellFraction_21 : decode prog_1_method_39_code 21 = .ok (.ifCond .eq 24, 3) := by decide +kernel
theorem t_X11_tellFraction_24 : decode prog_1_method_39_code 24 = .ok (.lload 5, 2) := by decide +kernel
theorem t_X11_tellFraction_26 : decode prog_1_method_39_code 26 = .ok (.lload 7, 2) := by decide +kernel
theorem t_X11_tellFraction_28 : decode prog_1_method_39_code 28 = .ok (.lrem, 1) := by decide +kernel
theorem t_X11_tellFraction_29 : decode prog_1_method_39_code 29 = .ok (.lstore 10, 2) := by decide +kernel
theorem t_X11_tellFraction_31 : decode prog_1_method_39_code 31 = .ok (.lload 7, 2) := by decide +kernel
theorem t_X11_tellFraction_33 : decode prog_1_method_39_code 33 = .ok (.lstore 5, 2) := by decide +kernel
theorem t_X11_tellFraction_35 : decode prog_1_method_39_code 35 = .ok (.lload 10, 2) := by decide +kernel
theorem t_X11_tellFraction_37 : decode prog_1_method_39_code 37 = .ok (.lstore 7, 2) := by decide +kernel
theorem t_X11_tellFraction_39 : decode prog_1_method_39_code 39 = .ok (.iinc 9 1, 3) := by decide +kernel
theorem t_X11_tellFraction_42 : decode prog_1_method_39_code 42 = .ok (.goto (-33), 3) := by decide +kernel
theorem t_X11_tellFraction_45 : decode prog_1_method_39_code 45 = .ok (.lload 5, 2) := by decide +kernel
theorem t_X11_tellFraction_47 : decode prog_1_method_39_code 47 = .ok (.lconst 0, 1) := by decide +kernel
theorem t_X11_tellFraction_48 : decode prog_1_method_39_code 48 = .ok (.lcmp, 1) := by decide +kernel
theorem t_X11_tellFraction_49 : decode prog_1_method_39_code 49 = .ok (.ifCond .eq 18, 3) := by decide +kernel
theorem t_X11_tellFraction_52 : decode prog_1_method_39_code 52 = .ok (.aload_n 0, 1) := by decide +kernel
theorem t_X11_tellFraction_53 : decode prog_1_method_39_code 53 = .ok (.getfield 47, 3) := by decide +kernel
theorem t_X11_tellFraction_56 : decode prog_1_method_39_code 56 = .ok (.lload_n 1, 1) := by decide +kernel
theorem t_X11_tellFraction_57 : decode prog_1_method_39_code 57 = .ok (.lload 5, 2) := by decide +kernel
theorem t_X11_tellFraction_59 : decode prog_1_method_39_code 59 = .ok (.ldiv, 1) := by decide +kernel
theorem t_X11_tellFraction_60 : decode prog_1_method_39_code 60 = .ok (.lload_n 3, 1) := by decide +kernel
theorem t_X11_tellFraction_61 : decode prog_1_method_39_code 61 = .ok (.lload 5, 2) := by decide +kernel
theorem t_X11_tellFraction_63 : decode prog_1_method_39_code 63 = .ok (.ldiv, 1) := by decide +kernel
theorem t_X11_tellFraction_64 : decode prog_1_method_39_code 64 = .ok (.invokevirtual 253, 3) := by decide +kernel
theorem t_X11_tellFraction_67 : decode prog_1_method_39_code 67 = .ok (.return_, 1) := by decide +kernel
def y_X11_luck : MethodName := ⟨"SowingBoards", "luck", "(II)I"⟩
theorem t_X11_luck_0 : decode prog_1_method_38_code 0 = .ok (.iload_n 1, 1) := by decide +kernel
theorem t_X11_luck_1 : decode prog_1_method_38_code 1 = .ok (.ifCond .lt 18, 3) := by decide +kernel
theorem t_X11_luck_4 : decode prog_1_method_38_code 4 = .ok (.iload_n 1, 1) := by decide +kernel
theorem t_X11_luck_5 : decode prog_1_method_38_code 5 = .ok (.iconst 4, 1) := by decide +kernel
theorem t_X11_luck_6 : decode prog_1_method_38_code 6 = .ok (.if_icmp .gt 13, 3) := by decide +kernel
theorem t_X11_luck_9 : decode prog_1_method_38_code 9 = .ok (.iload_n 2, 1) := by decide +kernel
theorem t_X11_luck_10 : decode prog_1_method_38_code 10 = .ok (.ifCond .lt 9, 3) := by decide +kernel
theorem t_X11_luck_13 : decode prog_1_method_38_code 13 = .ok (.iload_n 2, 1) := by decide +kernel
theorem t_X11_luck_14 : decode prog_1_method_38_code 14 = .ok (.bipush 108, 2) := by decide +kernel
theorem t_X11_luck_16 : decode prog_1_method_38_code 16 = .ok (.if_icmp .le 5, 3) := by decide +kernel
theorem t_X11_luck_19 : decode prog_1_method_38_code 19 = .ok (.iconst (-1), 1) := by decide +kernel
theorem t_X11_luck_20 : decode prog_1_method_38_code 20 = .ok (.ireturn, 1) := by decide +kernel
theorem t_X11_luck_21 : decode prog_1_method_38_code 21 = .ok (.lconst 0, 1) := by decide +kernel
theorem t_X11_luck_22 : decode prog_1_method_38_code 22 = .ok (.lstore_n 3, 1) := by decide +kernel
theorem t_X11_luck_23 : decode prog_1_method_38_code 23 = .ok (.aload_n 0, 1) := by decide +kernel
theorem t_X11_luck_24 : decode prog_1_method_38_code 24 = .ok (.getfield 68, 3) := by decide +kernel
theorem t_X11_luck_27 : decode prog_1_method_38_code 27 = .ok (.aload_n 0, 1) := by decide +kernel
theorem t_X11_luck_28 : decode prog_1_method_38_code 28 = .ok (.getfield 10, 3) := by decide +kernel
theorem t_X11_luck_31 : decode prog_1_method_38_code 31 = .ok (.iload_n 1, 1) := by decide +kernel
theorem t_X11_luck_32 : decode prog_1_method_38_code 32 = .ok (.iconst 0, 1) := by decide +kernel
theorem t_X11_luck_33 : decode prog_1_method_38_code 33 = .ok (.aload_n 0, 1) := by decide +kernel
theorem t_X11_luck_34 : decode prog_1_method_38_code 34 = .ok (.getfield 112, 3) := by decide +kernel
theorem t_X11_luck_37 : decode prog_1_method_38_code 37 = .ok (.invokevirtual 302, 3) := by decide +kernel
theorem t_X11_luck_40 : decode prog_1_method_38_code 40 = .ok (.iconst 0, 1) := by decide +kernel
theorem t_X11_luck_41 : decode prog_1_method_38_code 41 = .ok (.istore 5, 2) := by decide +kernel
theorem t_X11_luck_43 : decode prog_1_method_38_code 43 = .ok (.iload 5, 2) := by decide +kernel
theorem t_X11_luck_45 : decode prog_1_method_38_code 45 = .ok (.ldc_w 306, 3) := by decide +kernel
theorem t_X11_luck_48 : decode prog_1_method_38_code 48 = .ok (.if_icmp .ge 58, 3) := by decide +kernel
theorem t_X11_luck_51 : decode prog_1_method_38_code 51 = .ok (.aload_n 0, 1) := by decide +kernel
theorem t_X11_luck_52 : decode prog_1_method_38_code 52 = .ok (.getfield 68, 3) := by decide +kernel
theorem t_X11_luck_55 : decode prog_1_method_38_code 55 = .ok (.invokevirtual 341, 3) := by decide +kernel
theorem t_X11_luck_58 : decode prog_1_method_38_code 58 = .ok (.ifCond .eq 29, 3) := by decide +kernel
theorem t_X11_luck_61 : decode prog_1_method_38_code 61 = .ok (.aload_n 0, 1) := by decide +kernel
theorem t_X11_luck_62 : decode prog_1_method_38_code 62 = .ok (.getfield 68, 3) := by decide +kernel
theorem t_X11_luck_65 : decode prog_1_method_38_code 65 = .ok (.invokevirtual 310, 3) := by decide +kernel
theorem t_X11_luck_68 : decode prog_1_method_38_code 68 = .ok (.getfield 155, 3) := by decide +kernel
theorem t_X11_luck_71 : decode prog_1_method_38_code 71 = .ok (.iconst 0, 1) := by decide +kernel
theorem t_X11_luck_72 : decode prog_1_method_38_code 72 = .ok (.iaload, 1) := by decide +kernel
theorem t_X11_luck_73 : decode prog_1_method_38_code 73 = .ok (.iload_n 2, 1) := by decide +kernel
theorem t_X11_luck_74 : decode prog_1_method_38_code 74 = .ok (.if_icmp .lt 13, 3) := by decide +kernel
theorem t_X11_luck_77 : decode prog_1_method_38_code 77 = .ok (.lload_n 3, 1) := by decide +kernel
theorem t_X11_luck_78 : decode prog_1_method_38_code 78 = .ok (.aload_n 0, 1) := by decide +kernel
theorem t_X11_luck_79 : decode prog_1_method_38_code 79 = .ok (.getfield 68, 3) := by decide +kernel
theorem t_X11_luck_82 : decode prog_1_method_38_code 82 = .ok (.invokevirtual 344, 3) := by decide +kernel
theorem t_X11_luck_85 : decode prog_1_method_38_code 85 = .ok (.ladd, 1) := by decide +kernel
theorem t_X11_luck_86 : decode prog_1_method_38_code 86 = .ok (.lstore_n 3, 1) := by decide +kernel
theorem t_X11_luck_87 : decode prog_1_method_38_code 87 = .ok (.aload_n 0, 1) := by decide +kernel
theorem t_X11_luck_88 : decode prog_1_method_38_code 88 = .ok (.getfield 68, 3) := by decide +kernel
theorem t_X11_luck_91 : decode prog_1_method_38_code 91 = .ok (.invokevirtual 307, 3) := by decide +kernel
theorem t_X11_luck_94 : decode prog_1_method_38_code 94 = .ok (.ifCond .ne 6, 3) := by decide +kernel
theorem t_X11_luck_97 : decode prog_1_method_38_code 97 = .ok (.goto 9, 3) := by decide +kernel
theorem t_X11_luck_100 : decode prog_1_method_38_code 100 = .ok (.iinc 5 1, 3) := by decide +kernel
theorem t_X11_luck_103 : decode prog_1_method_38_code 103 = .ok (.goto (-60), 3) := by decide +kernel
theorem t_X11_luck_106 : decode prog_1_method_38_code 106 = .ok (.aload_n 0, 1) := by decide +kernel
theorem t_X11_luck_107 : decode prog_1_method_38_code 107 = .ok (.lload_n 3, 1) := by decide +kernel
theorem t_X11_luck_108 : decode prog_1_method_38_code 108 = .ok (.ldc2_w 348, 3) := by decide +kernel
theorem t_X11_luck_111 : decode prog_1_method_38_code 111 = .ok (.invokevirtual 350, 3) := by decide +kernel
theorem t_X11_luck_114 : decode prog_1_method_38_code 114 = .ok (.iconst 0, 1) := by decide +kernel
theorem t_X11_luck_115 : decode prog_1_method_38_code 115 = .ok (.ireturn, 1) := by decide +kernel
def y_X11_when : MethodName := ⟨"SowingBoards", "when", "(I)I"⟩
theorem t_X11_when_0 : decode prog_1_method_40_code 0 = .ok (.aload_n 0, 1) := by decide +kernel
theorem t_X11_when_1 : decode prog_1_method_40_code 1 = .ok (.getfield 10, 3) := by decide +kernel
theorem t_X11_when_4 : decode prog_1_method_40_code 4 = .ok (.iload_n 1, 1) := by decide +kernel
theorem t_X11_when_5 : decode prog_1_method_40_code 5 = .ok (.invokevirtual 194, 3) := by decide +kernel
theorem t_X11_when_8 : decode prog_1_method_40_code 8 = .ok (.ifCond .ne 5, 3) := by decide +kernel
theorem t_X11_when_11 : decode prog_1_method_40_code 11 = .ok (.iconst (-1), 1) := by decide +kernel
theorem t_X11_when_12 : decode prog_1_method_40_code 12 = .ok (.ireturn, 1) := by decide +kernel
theorem t_X11_when_13 : decode prog_1_method_40_code 13 = .ok (.aload_n 0, 1) := by decide +kernel
theorem t_X11_when_14 : decode prog_1_method_40_code 14 = .ok (.getfield 19, 3) := by decide +kernel
theorem t_X11_when_17 : decode prog_1_method_40_code 17 = .ok (.aload_n 0, 1) := by decide +kernel
theorem t_X11_when_18 : decode prog_1_method_40_code 18 = .ok (.getfield 10, 3) := by decide +kernel
theorem t_X11_when_21 : decode prog_1_method_40_code 21 = .ok (.invokevirtual 269, 3) := by decide +kernel
theorem t_X11_when_24 : decode prog_1_method_40_code 24 = .ok (.iconst 0, 1) := by decide +kernel
theorem t_X11_when_25 : decode prog_1_method_40_code 25 = .ok (.istore_n 2, 1) := by decide +kernel
theorem t_X11_when_26 : decode prog_1_method_40_code 26 = .ok (.iload_n 2, 1) := by decide +kernel
theorem t_X11_when_27 : decode prog_1_method_40_code 27 = .ok (.bipush 60, 2) := by decide +kernel
theorem t_X11_when_29 : decode prog_1_method_40_code 29 = .ok (.if_icmp .gt 75, 3) := by decide +kernel
theorem t_X11_when_32 : decode prog_1_method_40_code 32 = .ok (.aload_n 0, 1) := by decide +kernel
theorem t_X11_when_33 : decode prog_1_method_40_code 33 = .ok (.getfield 19, 3) := by decide +kernel
theorem t_X11_when_36 : decode prog_1_method_40_code 36 = .ok (.getfield 120, 3) := by decide +kernel
theorem t_X11_when_39 : decode prog_1_method_40_code 39 = .ok (.iload_n 1, 1) := by decide +kernel
theorem t_X11_when_40 : decode prog_1_method_40_code 40 = .ok (.iaload, 1) := by decide +kernel
theorem t_X11_when_41 : decode prog_1_method_40_code 41 = .ok (.ifCond .ne 32, 3) := by decide +kernel
theorem t_X11_when_44 : decode prog_1_method_40_code 44 = .ok (.aload_n 0, 1) := by decide +kernel
theorem t_X11_when_45 : decode prog_1_method_40_code 45 = .ok (.getfield 47, 3) := by decide +kernel
theorem t_X11_when_48 : decode prog_1_method_40_code 48 = .ok (.aload_n 0, 1) := by decide +kernel
theorem t_X11_when_49 : decode prog_1_method_40_code 49 = .ok (.getfield 19, 3) := by decide +kernel
theorem t_X11_when_52 : decode prog_1_method_40_code 52 = .ok (.getfield 155, 3) := by decide +kernel
theorem t_X11_when_55 : decode prog_1_method_40_code 55 = .ok (.iconst 0, 1) := by decide +kernel
theorem t_X11_when_56 : decode prog_1_method_40_code 56 = .ok (.iaload, 1) := by decide +kernel
theorem t_X11_when_57 : decode prog_1_method_40_code 57 = .ok (.i2l, 1) := by decide +kernel
theorem t_X11_when_58 : decode prog_1_method_40_code 58 = .ok (.aload_n 0, 1) := by decide +kernel
theorem t_X11_when_59 : decode prog_1_method_40_code 59 = .ok (.getfield 19, 3) := by decide +kernel
theorem t_X11_when_62 : decode prog_1_method_40_code 62 = .ok (.getfield 155, 3) := by decide +kernel
theorem t_X11_when_65 : decode prog_1_method_40_code 65 = .ok (.iconst 1, 1) := by decide +kernel
theorem t_X11_when_66 : decode prog_1_method_40_code 66 = .ok (.iaload, 1) := by decide +kernel
theorem t_X11_when_67 : decode prog_1_method_40_code 67 = .ok (.i2l, 1) := by decide +kernel
theorem t_X11_when_68 : decode prog_1_method_40_code 68 = .ok (.invokevirtual 253, 3) := by decide +kernel
theorem t_X11_when_71 : decode prog_1_method_40_code 71 = .ok (.iload_n 2, 1) := by decide +kernel
theorem t_X11_when_72 : decode prog_1_method_40_code 72 = .ok (.ireturn, 1) := by decide +kernel
theorem t_X11_when_73 : decode prog_1_method_40_code 73 = .ok (.aload_n 0, 1) := by decide +kernel
theorem t_X11_when_74 : decode prog_1_method_40_code 74 = .ok (.getfield 61, 3) := by decide +kernel
theorem t_X11_when_77 : decode prog_1_method_40_code 77 = .ok (.aload_n 0, 1) := by decide +kernel
theorem t_X11_when_78 : decode prog_1_method_40_code 78 = .ok (.getfield 19, 3) := by decide +kernel
theorem t_X11_when_81 : decode prog_1_method_40_code 81 = .ok (.aload_n 0, 1) := by decide +kernel
theorem t_X11_when_82 : decode prog_1_method_40_code 82 = .ok (.getfield 89, 3) := by decide +kernel
theorem t_X11_when_85 : decode prog_1_method_40_code 85 = .ok (.aload_n 0, 1) := by decide +kernel
theorem t_X11_when_86 : decode prog_1_method_40_code 86 = .ok (.getfield 112, 3) := by decide +kernel
theorem t_X11_when_89 : decode prog_1_method_40_code 89 = .ok (.invokevirtual 256, 3) := by decide +kernel
theorem t_X11_when_92 : decode prog_1_method_40_code 92 = .ok (.ifCond .ne 6, 3) := by decide +kernel
theorem t_X11_when_95 : decode prog_1_method_40_code 95 = .ok (.bipush (-2), 2) := by decide +kernel
theorem t_X11_when_97 : decode prog_1_method_40_code 97 = .ok (.ireturn, 1) := by decide +kernel
theorem t_X11_when_98 : decode prog_1_method_40_code 98 = .ok (.iinc 2 1, 3) := by decide +kernel
theorem t_X11_when_101 : decode prog_1_method_40_code 101 = .ok (.goto (-75), 3) := by decide +kernel
theorem t_X11_when_104 : decode prog_1_method_40_code 104 = .ok (.bipush (-2), 2) := by decide +kernel
theorem t_X11_when_106 : decode prog_1_method_40_code 106 = .ok (.ireturn, 1) := by decide +kernel
def y_X11_ends : MethodName := ⟨"SowingBoards", "ends", "()I"⟩
theorem t_X11_ends_0 : decode prog_1_method_41_code 0 = .ok (.aload_n 0, 1) := by decide +kernel
theorem t_X11_ends_1 : decode prog_1_method_41_code 1 = .ok (.getfield 19, 3) := by decide +kernel
theorem t_X11_ends_4 : decode prog_1_method_41_code 4 = .ok (.aload_n 0, 1) := by decide +kernel
theorem t_X11_ends_5 : decode prog_1_method_41_code 5 = .ok (.getfield 10, 3) := by decide +kernel
theorem t_X11_ends_8 : decode prog_1_method_41_code 8 = .ok (.invokevirtual 269, 3) := by decide +kernel
theorem t_X11_ends_11 : decode prog_1_method_41_code 11 = .ok (.aload_n 0, 1) := by decide +kernel
theorem t_X11_ends_12 : decode prog_1_method_41_code 12 = .ok (.aload_n 0, 1) := by decide +kernel
theorem t_X11_ends_13 : decode prog_1_method_41_code 13 = .ok (.getfield 19, 3) := by decide +kernel
theorem t_X11_ends_16 : decode prog_1_method_41_code 16 = .ok (.bipush 99, 2) := by decide +kernel
theorem t_X11_ends_18 : decode prog_1_method_41_code 18 = .ok (.invokevirtual 249, 3) := by decide +kernel
theorem t_X11_ends_21 : decode prog_1_method_41_code 21 = .ok (.istore_n 1, 1) := by decide +kernel
theorem t_X11_ends_22 : decode prog_1_method_41_code 22 = .ok (.aload_n 0, 1) := by decide +kernel
theorem t_X11_ends_23 : decode prog_1_method_41_code 23 = .ok (.getfield 19, 3) := by decide +kernel
theorem t_X11_ends_26 : decode prog_1_method_41_code 26 = .ok (.invokevirtual 245, 3) := by decide +kernel
theorem t_X11_ends_29 : decode prog_1_method_41_code 29 = .ok (.ifCond .ne 6, 3) := by decide +kernel
theorem t_X11_ends_32 : decode prog_1_method_41_code 32 = .ok (.bipush (-2), 2) := by decide +kernel
theorem t_X11_ends_34 : decode prog_1_method_41_code 34 = .ok (.ireturn, 1) := by decide +kernel
theorem t_X11_ends_35 : decode prog_1_method_41_code 35 = .ok (.aload_n 0, 1) := by decide +kernel
theorem t_X11_ends_36 : decode prog_1_method_41_code 36 = .ok (.getfield 47, 3) := by decide +kernel
theorem t_X11_ends_39 : decode prog_1_method_41_code 39 = .ok (.aload_n 0, 1) := by decide +kernel
theorem t_X11_ends_40 : decode prog_1_method_41_code 40 = .ok (.getfield 19, 3) := by decide +kernel
theorem t_X11_ends_43 : decode prog_1_method_41_code 43 = .ok (.iconst 0, 1) := by decide +kernel
theorem t_X11_ends_44 : decode prog_1_method_41_code 44 = .ok (.invokevirtual 353, 3) := by decide +kernel
theorem t_X11_ends_47 : decode prog_1_method_41_code 47 = .ok (.i2l, 1) := by decide +kernel
theorem t_X11_ends_48 : decode prog_1_method_41_code 48 = .ok (.aload_n 0, 1) := by decide +kernel
theorem t_X11_ends_49 : decode prog_1_method_41_code 49 = .ok (.getfield 19, 3) := by decide +kernel
theorem t_X11_ends_52 : decode prog_1_method_41_code 52 = .ok (.iconst 1, 1) := by decide +kernel
theorem t_X11_ends_53 : decode prog_1_method_41_code 53 = .ok (.invokevirtual 353, 3) := by decide +kernel
theorem t_X11_ends_56 : decode prog_1_method_41_code 56 = .ok (.i2l, 1) := by decide +kernel
theorem t_X11_ends_57 : decode prog_1_method_41_code 57 = .ok (.invokevirtual 253, 3) := by decide +kernel
theorem t_X11_ends_60 : decode prog_1_method_41_code 60 = .ok (.iload_n 1, 1) := by decide +kernel
theorem t_X11_ends_61 : decode prog_1_method_41_code 61 = .ok (.ireturn, 1) := by decide +kernel
def y_X11_round : MethodName := ⟨"SowingBoards", "round", "()I"⟩
theorem t_X11_round_0 : decode prog_1_method_42_code 0 = .ok (.aload_n 0, 1) := by decide +kernel
theorem t_X11_round_1 : decode prog_1_method_42_code 1 = .ok (.getfield 75, 3) := by decide +kernel
theorem t_X11_round_4 : decode prog_1_method_42_code 4 = .ok (.invokevirtual 336, 3) := by decide +kernel
theorem t_X11_round_7 : decode prog_1_method_42_code 7 = .ok (.aload_n 0, 1) := by decide +kernel
theorem t_X11_round_8 : decode prog_1_method_42_code 8 = .ok (.getfield 75, 3) := by decide +kernel
theorem t_X11_round_11 : decode prog_1_method_42_code 11 = .ok (.aload_n 0, 1) := by decide +kernel
theorem t_X11_round_12 : decode prog_1_method_42_code 12 = .ok (.getfield 10, 3) := by decide +kernel
theorem t_X11_round_15 : decode prog_1_method_42_code 15 = .ok (.invokevirtual 356, 3) := by decide +kernel
theorem t_X11_round_18 : decode prog_1_method_42_code 18 = .ok (.aload_n 0, 1) := by decide +kernel
theorem t_X11_round_19 : decode prog_1_method_42_code 19 = .ok (.getfield 19, 3) := by decide +kernel
theorem t_X11_round_22 : decode prog_1_method_42_code 22 = .ok (.aload_n 0, 1) := by decide +kernel
theorem t_X11_round_23 : decode prog_1_method_42_code 23 = .ok (.getfield 10, 3) := by decide +kernel
theorem t_X11_round_26 : decode prog_1_method_42_code 26 = .ok (.invokevirtual 269, 3) := by decide +kernel
theorem t_X11_round_29 : decode prog_1_method_42_code 29 = .ok (.iconst 1, 1) := by decide +kernel
theorem t_X11_round_30 : decode prog_1_method_42_code 30 = .ok (.istore_n 1, 1) := by decide +kernel
theorem t_X11_round_31 : decode prog_1_method_42_code 31 = .ok (.iload_n 1, 1) := by decide +kernel
theorem t_X11_round_32 : decode prog_1_method_42_code 32 = .ok (.bipush 60, 2) := by decide +kernel
theorem t_X11_round_34 : decode prog_1_method_42_code 34 = .ok (.if_icmp .gt 72, 3) := by decide +kernel
theorem t_X11_round_37 : decode prog_1_method_42_code 37 = .ok (.aload_n 0, 1) := by decide +kernel
theorem t_X11_round_38 : decode prog_1_method_42_code 38 = .ok (.getfield 61, 3) := by decide +kernel
theorem t_X11_round_41 : decode prog_1_method_42_code 41 = .ok (.aload_n 0, 1) := by decide +kernel
theorem t_X11_round_42 : decode prog_1_method_42_code 42 = .ok (.getfield 19, 3) := by decide +kernel
theorem t_X11_round_45 : decode prog_1_method_42_code 45 = .ok (.aload_n 0, 1) := by decide +kernel
theorem t_X11_round_46 : decode prog_1_method_42_code 46 = .ok (.getfield 89, 3) := by decide +kernel
theorem t_X11_round_49 : decode prog_1_method_42_code 49 = .ok (.aload_n 0, 1) := by decide +kernel
theorem t_X11_round_50 : decode prog_1_method_42_code 50 = .ok (.getfield 112, 3) := by decide +kernel
theorem t_X11_round_53 : decode prog_1_method_42_code 53 = .ok (.invokevirtual 256, 3) := by decide +kernel
theorem t_X11_round_56 : decode prog_1_method_42_code 56 = .ok (.ifCond .ne 6, 3) := by decide +kernel
theorem t_X11_round_59 : decode prog_1_method_42_code 59 = .ok (.bipush (-2), 2) := by decide +kernel
theorem t_X11_round_61 : decode prog_1_method_42_code 61 = .ok (.ireturn, 1) := by decide +kernel
theorem t_X11_round_62 : decode prog_1_method_42_code 62 = .ok (.aload_n 0, 1) := by decide +kernel
theorem t_X11_round_63 : decode prog_1_method_42_code 63 = .ok (.getfield 75, 3) := by decide +kernel
theorem t_X11_round_66 : decode prog_1_method_42_code 66 = .ok (.aload_n 0, 1) := by decide +kernel
theorem t_X11_round_67 : decode prog_1_method_42_code 67 = .ok (.getfield 19, 3) := by decide +kernel
theorem t_X11_round_70 : decode prog_1_method_42_code 70 = .ok (.invokevirtual 359, 3) := by decide +kernel
theorem t_X11_round_73 : decode prog_1_method_42_code 73 = .ok (.istore_n 2, 1) := by decide +kernel
theorem t_X11_round_74 : decode prog_1_method_42_code 74 = .ok (.iload_n 2, 1) := by decide +kernel
theorem t_X11_round_75 : decode prog_1_method_42_code 75 = .ok (.ifCond .lt 14, 3) := by decide +kernel
theorem t_X11_round_78 : decode prog_1_method_42_code 78 = .ok (.aload_n 0, 1) := by decide +kernel
theorem t_X11_round_79 : decode prog_1_method_42_code 79 = .ok (.getfield 47, 3) := by decide +kernel
theorem t_X11_round_82 : decode prog_1_method_42_code 82 = .ok (.iload_n 2, 1) := by decide +kernel
theorem t_X11_round_83 : decode prog_1_method_42_code 83 = .ok (.i2l, 1) := by decide +kernel
theorem t_X11_round_84 : decode prog_1_method_42_code 84 = .ok (.invokevirtual 292, 3) := by decide +kernel
theorem t_X11_round_87 : decode prog_1_method_42_code 87 = .ok (.iload_n 1, 1) := by decide +kernel
theorem t_X11_round_88 : decode prog_1_method_42_code 88 = .ok (.ireturn, 1) := by decide +kernel
theorem t_X11_round_89 : decode prog_1_method_42_code 89 = .ok (.aload_n 0, 1) := by decide +kernel
theorem t_X11_round_90 : decode prog_1_method_42_code 90 = .ok (.getfield 75, 3) := by decide +kernel
theorem t_X11_round_93 : decode prog_1_method_42_code 93 = .ok (.aload_n 0, 1) := by decide +kernel
theorem t_X11_round_94 : decode prog_1_method_42_code 94 = .ok (.getfield 19, 3) := by decide +kernel
theorem t_X11_round_97 : decode prog_1_method_42_code 97 = .ok (.invokevirtual 356, 3) := by decide +kernel
theorem t_X11_round_100 : decode prog_1_method_42_code 100 = .ok (.iinc 1 1, 3) := by decide +kernel
theorem t_X11_round_103 : decode prog_1_method_42_code 103 = .ok (.goto (-72), 3) := by decide +kernel
theorem t_X11_round_106 : decode prog_1_method_42_code 106 = .ok (.bipush (-2), 2) := by decide +kernel
theorem t_X11_round_108 : decode prog_1_method_42_code 108 = .ok (.ireturn, 1) := by decide +kernel
def y_X11_fullest : MethodName := ⟨"SowingBoards", "fullest", "(I)I"⟩
theorem t_X11_fullest_0 : decode prog_1_method_43_code 0 = .ok (.iload_n 1, 1) := by decide +kernel
theorem t_X11_fullest_1 : decode prog_1_method_43_code 1 = .ok (.ifCond .lt 9, 3) := by decide +kernel
theorem t_X11_fullest_4 : decode prog_1_method_43_code 4 = .ok (.iload_n 1, 1) := by decide +kernel
theorem t_X11_fullest_5 : decode prog_1_method_43_code 5 = .ok (.bipush 60, 2) := by decide +kernel
theorem t_X11_fullest_7 : decode prog_1_method_43_code 7 = .ok (.if_icmp .le 5, 3) := by decide +kernel
theorem t_X11_fullest_10 : decode prog_1_method_43_code 10 = .ok (.iconst (-1), 1) := by decide +kernel
theorem t_X11_fullest_11 : decode prog_1_method_43_code 11 = .ok (.ireturn, 1) := by decide +kernel
theorem t_X11_fullest_12 : decode prog_1_method_43_code 12 = .ok (.aload_n 0, 1) := by decide +kernel
theorem t_X11_fullest_13 : decode prog_1_method_43_code 13 = .ok (.getfield 19, 3) := by decide +kernel
theorem t_X11_fullest_16 : decode prog_1_method_43_code 16 = .ok (.aload_n 0, 1) := by decide +kernel
theorem t_X11_fullest_17 : decode prog_1_method_43_code 17 = .ok (.getfield 10, 3) := by decide +kernel
theorem t_X11_fullest_20 : decode prog_1_method_43_code 20 = .ok (.invokevirtual 269, 3) := by decide +kernel
theorem t_X11_fullest_23 : decode prog_1_method_43_code 23 = .ok (.aload_n 0, 1) := by decide +kernel
theorem t_X11_fullest_24 : decode prog_1_method_43_code 24 = .ok (.aload_n 0, 1) := by decide +kernel
theorem t_X11_fullest_25 : decode prog_1_method_43_code 25 = .ok (.getfield 19, 3) := by decide +kernel
theorem t_X11_fullest_28 : decode prog_1_method_43_code 28 = .ok (.iload_n 1, 1) := by decide +kernel
theorem t_X11_fullest_29 : decode prog_1_method_43_code 29 = .ok (.invokevirtual 249, 3) := by decide +kernel
theorem t_X11_fullest_32 : decode prog_1_method_43_code 32 = .ok (.pop, 1) := by decide +kernel
theorem t_X11_fullest_33 : decode prog_1_method_43_code 33 = .ok (.iconst 0, 1) := by decide +kernel
theorem t_X11_fullest_34 : decode prog_1_method_43_code 34 = .ok (.istore_n 2, 1) := by decide +kernel
theorem t_X11_fullest_35 : decode prog_1_method_43_code 35 = .ok (.iconst 1, 1) := by decide +kernel
theorem t_X11_fullest_36 : decode prog_1_method_43_code 36 = .ok (.istore_n 3, 1) := by decide +kernel
theorem t_X11_fullest_37 : decode prog_1_method_43_code 37 = .ok (.iload_n 3, 1) := by decide +kernel
theorem t_X11_fullest_38 : decode prog_1_method_43_code 38 = .ok (.aload_n 0, 1) := by decide +kernel
theorem t_X11_fullest_39 : decode prog_1_method_43_code 39 = .ok (.getfield 19, 3) := by decide +kernel
theorem t_X11_fullest_42 : decode prog_1_method_43_code 42 = .ok (.invokevirtual 116, 3) := by decide +kernel
theorem t_X11_fullest_45 : decode prog_1_method_43_code 45 = .ok (.if_icmp .ge 32, 3) := by decide +kernel
theorem t_X11_fullest_48 : decode prog_1_method_43_code 48 = .ok (.aload_n 0, 1) := by decide +kernel
theorem t_X11_fullest_49 : decode prog_1_method_43_code 49 = .ok (.getfield 19, 3) := by decide +kernel
theorem t_X11_fullest_52 : decode prog_1_method_43_code 52 = .ok (.getfield 120, 3) := by decide +kernel
theorem t_X11_fullest_55 : decode prog_1_method_43_code 55 = .ok (.iload_n 3, 1) := by decide +kernel
theorem t_X11_fullest_56 : decode prog_1_method_43_code 56 = .ok (.iaload, 1) := by decide +kernel
theorem t_X11_fullest_57 : decode prog_1_method_43_code 57 = .ok (.aload_n 0, 1) := by decide +kernel
theorem t_X11_fullest_58 : decode prog_1_method_43_code 58 = .ok (.getfield 19, 3) := by decide +kernel
theorem t_X11_fullest_61 : decode prog_1_method_43_code 61 = .ok (.getfield 120, 3) := by decide +kernel
theorem t_X11_fullest_64 : decode prog_1_method_43_code 64 = .ok (.iload_n 2, 1) := by decide +kernel
theorem t_X11_fullest_65 : decode prog_1_method_43_code 65 = .ok (.iaload, 1) := by decide +kernel
theorem t_X11_fullest_66 : decode prog_1_method_43_code 66 = .ok (.if_icmp .le 5, 3) := by decide +kernel
theorem t_X11_fullest_69 : decode prog_1_method_43_code 69 = .ok (.iload_n 3, 1) := by decide +kernel
theorem t_X11_fullest_70 : decode prog_1_method_43_code 70 = .ok (.istore_n 2, 1) := by decide +kernel
theorem t_X11_fullest_71 : decode prog_1_method_43_code 71 = .ok (.iinc 3 1, 3) := by decide +kernel
theorem t_X11_fullest_74 : decode prog_1_method_43_code 74 = .ok (.goto (-37), 3) := by decide +kernel
theorem t_X11_fullest_77 : decode prog_1_method_43_code 77 = .ok (.aload_n 0, 1) := by decide +kernel
theorem t_X11_fullest_78 : decode prog_1_method_43_code 78 = .ok (.getfield 47, 3) := by decide +kernel
theorem t_X11_fullest_81 : decode prog_1_method_43_code 81 = .ok (.aload_n 0, 1) := by decide +kernel
theorem t_X11_fullest_82 : decode prog_1_method_43_code 82 = .ok (.getfield 19, 3) := by decide +kernel
theorem t_X11_fullest_85 : decode prog_1_method_43_code 85 = .ok (.getfield 120, 3) := by decide +kernel
theorem t_X11_fullest_88 : decode prog_1_method_43_code 88 = .ok (.iload_n 2, 1) := by decide +kernel
theorem t_X11_fullest_89 : decode prog_1_method_43_code 89 = .ok (.iaload, 1) := by decide +kernel
theorem t_X11_fullest_90 : decode prog_1_method_43_code 90 = .ok (.i2l, 1) := by decide +kernel
theorem t_X11_fullest_91 : decode prog_1_method_43_code 91 = .ok (.invokevirtual 292, 3) := by decide +kernel
theorem t_X11_fullest_94 : decode prog_1_method_43_code 94 = .ok (.iload_n 2, 1) := by decide +kernel
theorem t_X11_fullest_95 : decode prog_1_method_43_code 95 = .ok (.ireturn, 1) := by decide +kernel
def y_X11_clearTally : MethodName := ⟨"SowingBoards", "clearTally", "()V"⟩
theorem t_X11_clearTally_0 : decode prog_1_method_46_code 0 = .ok (.iconst 0, 1) := by decide +kernel
theorem t_X11_clearTally_1 : decode prog_1_method_46_code 1 = .ok (.istore_n 1, 1) := by decide +kernel
theorem t_X11_clearTally_2 : decode prog_1_method_46_code 2 = .ok (.iload_n 1, 1) := by decide +kernel
theorem t_X11_clearTally_3 : decode prog_1_method_46_code 3 = .ok (.aload_n 0, 1) := by decide +kernel
theorem t_X11_clearTally_4 : decode prog_1_method_46_code 4 = .ok (.getfield 108, 3) := by decide +kernel
theorem t_X11_clearTally_7 : decode prog_1_method_46_code 7 = .ok (.arraylength, 1) := by decide +kernel
theorem t_X11_clearTally_8 : decode prog_1_method_46_code 8 = .ok (.if_icmp .ge 16, 3) := by decide +kernel
theorem t_X11_clearTally_11 : decode prog_1_method_46_code 11 = .ok (.aload_n 0, 1) := by decide +kernel
theorem t_X11_clearTally_12 : decode prog_1_method_46_code 12 = .ok (.getfield 108, 3) := by decide +kernel
theorem t_X11_clearTally_15 : decode prog_1_method_46_code 15 = .ok (.iload_n 1, 1) := by decide +kernel
theorem t_X11_clearTally_16 : decode prog_1_method_46_code 16 = .ok (.iconst 0, 1) := by decide +kernel
theorem t_X11_clearTally_17 : decode prog_1_method_46_code 17 = .ok (.iastore, 1) := by decide +kernel
theorem t_X11_clearTally_18 : decode prog_1_method_46_code 18 = .ok (.iinc 1 1, 3) := by decide +kernel
theorem t_X11_clearTally_21 : decode prog_1_method_46_code 21 = .ok (.goto (-19), 3) := by decide +kernel
theorem t_X11_clearTally_24 : decode prog_1_method_46_code 24 = .ok (.return_, 1) := by decide +kernel
def y_X11_unsow : MethodName := ⟨"SowingBoards", "unsow", "()V"⟩
theorem t_X11_unsow_0 : decode prog_1_method_45_code 0 = .ok (.iconst 1, 1) := by decide +kernel
theorem t_X11_unsow_1 : decode prog_1_method_45_code 1 = .ok (.istore_n 1, 1) := by decide +kernel
theorem t_X11_unsow_2 : decode prog_1_method_45_code 2 = .ok (.iload_n 1, 1) := by decide +kernel
theorem t_X11_unsow_3 : decode prog_1_method_45_code 3 = .ok (.bipush 20, 2) := by decide +kernel
theorem t_X11_unsow_5 : decode prog_1_method_45_code 5 = .ok (.if_icmp .ge 28, 3) := by decide +kernel
theorem t_X11_unsow_8 : decode prog_1_method_45_code 8 = .ok (.aload_n 0, 1) := by decide +kernel
theorem t_X11_unsow_9 : decode prog_1_method_45_code 9 = .ok (.getfield 108, 3) := by decide +kernel
theorem t_X11_unsow_12 : decode prog_1_method_45_code 12 = .ok (.iload_n 1, 1) := by decide +kernel
theorem t_X11_unsow_13 : decode prog_1_method_45_code 13 = .ok (.iaload, 1) := by decide +kernel
theorem t_X11_unsow_14 : decode prog_1_method_45_code 14 = .ok (.ifCond .le 19, 3) := by decide +kernel
theorem t_X11_unsow_17 : decode prog_1_method_45_code 17 = .ok (.aload_n 0, 1) := by decide +kernel
theorem t_X11_unsow_18 : decode prog_1_method_45_code 18 = .ok (.getfield 108, 3) := by decide +kernel
theorem t_X11_unsow_21 : decode prog_1_method_45_code 21 = .ok (.iload_n 1, 1) := by decide +kernel
theorem t_X11_unsow_22 : decode prog_1_method_45_code 22 = .ok (.dup2, 1) := by decide +kernel
theorem t_X11_unsow_23 : decode prog_1_method_45_code 23 = .ok (.iaload, 1) := by decide +kernel
theorem t_X11_unsow_24 : decode prog_1_method_45_code 24 = .ok (.iconst 1, 1) := by decide +kernel
theorem t_X11_unsow_25 : decode prog_1_method_45_code 25 = .ok (.isub, 1) := by decide +kernel
theorem t_X11_unsow_26 : decode prog_1_method_45_code 26 = .ok (.iastore, 1) := by decide +kernel
theorem t_X11_unsow_27 : decode prog_1_method_45_code 27 = .ok (.iinc 1 1, 3) := by decide +kernel
theorem t_X11_unsow_30 : decode prog_1_method_45_code 30 = .ok (.goto (-28), 3) := by decide +kernel
theorem t_X11_unsow_33 : decode prog_1_method_45_code 33 = .ok (.aload_n 0, 1) := by decide +kernel
theorem t_X11_unsow_34 : decode prog_1_method_45_code 34 = .ok (.getfield 108, 3) := by decide +kernel
theorem t_X11_unsow_37 : decode prog_1_method_45_code 37 = .ok (.iload_n 1, 1) := by decide +kernel
theorem t_X11_unsow_38 : decode prog_1_method_45_code 38 = .ok (.iload_n 1, 1) := by decide +kernel
theorem t_X11_unsow_39 : decode prog_1_method_45_code 39 = .ok (.iastore, 1) := by decide +kernel
theorem t_X11_unsow_40 : decode prog_1_method_45_code 40 = .ok (.return_, 1) := by decide +kernel
def y_X11_alone : MethodName := ⟨"SowingBoards", "alone", "(I)I"⟩
theorem t_X11_alone_0 : decode prog_1_method_44_code 0 = .ok (.iload_n 1, 1) := by decide +kernel
theorem t_X11_alone_1 : decode prog_1_method_44_code 1 = .ok (.ifCond .lt 9, 3) := by decide +kernel
theorem t_X11_alone_4 : decode prog_1_method_44_code 4 = .ok (.iload_n 1, 1) := by decide +kernel
theorem t_X11_alone_5 : decode prog_1_method_44_code 5 = .ok (.bipush 99, 2) := by decide +kernel
theorem t_X11_alone_7 : decode prog_1_method_44_code 7 = .ok (.if_icmp .le 5, 3) := by decide +kernel
theorem t_X11_alone_10 : decode prog_1_method_44_code 10 = .ok (.iconst (-1), 1) := by decide +kernel
theorem t_X11_alone_11 : decode prog_1_method_44_code 11 = .ok (.ireturn, 1) := by decide +kernel
theorem t_X11_alone_12 : decode prog_1_method_44_code 12 = .ok (.aload_n 0, 1) := by decide +kernel
theorem t_X11_alone_13 : decode prog_1_method_44_code 13 = .ok (.invokevirtual 363, 3) := by decide +kernel
theorem t_X11_alone_16 : decode prog_1_method_44_code 16 = .ok (.iconst 0, 1) := by decide +kernel
theorem t_X11_alone_17 : decode prog_1_method_44_code 17 = .ok (.istore_n 2, 1) := by decide +kernel
theorem t_X11_alone_18 : decode prog_1_method_44_code 18 = .ok (.iload_n 2, 1) := by decide +kernel
theorem t_X11_alone_19 : decode prog_1_method_44_code 19 = .ok (.iload_n 1, 1) := by decide +kernel
theorem t_X11_alone_20 : decode prog_1_method_44_code 20 = .ok (.if_icmp .ge 13, 3) := by decide +kernel
theorem t_X11_alone_23 : decode prog_1_method_44_code 23 = .ok (.aload_n 0, 1) := by decide +kernel
theorem t_X11_alone_24 : decode prog_1_method_44_code 24 = .ok (.invokevirtual 366, 3) := by decide +kernel
theorem t_X11_alone_27 : decode prog_1_method_44_code 27 = .ok (.iinc 2 1, 3) := by decide +kernel
theorem t_X11_alone_30 : decode prog_1_method_44_code 30 = .ok (.goto (-12), 3) := by decide +kernel
theorem t_X11_alone_33 : decode prog_1_method_44_code 33 = .ok (.iconst 0, 1) := by decide +kernel
theorem t_X11_alone_34 : decode prog_1_method_44_code 34 = .ok (.istore_n 2, 1) := by decide +kernel
theorem t_X11_alone_35 : decode prog_1_method_44_code 35 = .ok (.iconst 1, 1) := by decide +kernel
theorem t_X11_alone_36 : decode prog_1_method_44_code 36 = .ok (.istore_n 3, 1) := by decide +kernel
theorem t_X11_alone_37 : decode prog_1_method_44_code 37 = .ok (.iload_n 3, 1) := by decide +kernel
theorem t_X11_alone_38 : decode prog_1_method_44_code 38 = .ok (.bipush 20, 2) := by decide +kernel
theorem t_X11_alone_40 : decode prog_1_method_44_code 40 = .ok (.if_icmp .gt 24, 3) := by decide +kernel
theorem t_X11_alone_43 : decode prog_1_method_44_code 43 = .ok (.aload_n 0, 1) := by decide +kernel
theorem t_X11_alone_44 : decode prog_1_method_44_code 44 = .ok (.getfield 108, 3) := by decide +kernel
theorem t_X11_alone_47 : decode prog_1_method_44_code 47 = .ok (.iload_n 3, 1) := by decide +kernel
theorem t_X11_alone_48 : decode prog_1_method_44_code 48 = .ok (.iaload, 1) := by decide +kernel
theorem t_X11_alone_49 : decode prog_1_method_44_code 49 = .ok (.ifCond .le 7, 3) := by decide +kernel
theorem t_X11_alone_52 : decode prog_1_method_44_code 52 = .ok (.iload_n 3, 1) := by decide +kernel
theorem t_X11_alone_53 : decode prog_1_method_44_code 53 = .ok (.goto 4, 3) := by decide +kernel
theorem t_X11_alone_56 : decode prog_1_method_44_code 56 = .ok (.iload_n 2, 1) := by decide +kernel
theorem t_X11_alone_57 : decode prog_1_method_44_code 57 = .ok (.istore_n 2, 1) := by decide +kernel
theorem t_X11_alone_58 : decode prog_1_method_44_code 58 = .ok (.iinc 3 1, 3) := by decide +kernel
theorem t_X11_alone_61 : decode prog_1_method_44_code 61 = .ok (.goto (-24), 3) := by decide +kernel
theorem t_X11_alone_64 : decode prog_1_method_44_code 64 = .ok (.aload_n 0, 1) := by decide +kernel
theorem t_X11_alone_65 : decode prog_1_method_44_code 65 = .ok (.getfield 47, 3) := by decide +kernel
theorem t_X11_alone_68 : decode prog_1_method_44_code 68 = .ok (.invokevirtual 321, 3) := by decide +kernel
theorem t_X11_alone_71 : decode prog_1_method_44_code 71 = .ok (.iconst 1, 1) := by decide +kernel
theorem t_X11_alone_72 : decode prog_1_method_44_code 72 = .ok (.istore_n 3, 1) := by decide +kernel
theorem t_X11_alone_73 : decode prog_1_method_44_code 73 = .ok (.iload_n 3, 1) := by decide +kernel
theorem t_X11_alone_74 : decode prog_1_method_44_code 74 = .ok (.iload_n 2, 1) := by decide +kernel
theorem t_X11_alone_75 : decode prog_1_method_44_code 75 = .ok (.if_icmp .gt 23, 3) := by decide +kernel
theorem t_X11_alone_78 : decode prog_1_method_44_code 78 = .ok (.aload_n 0, 1) := by decide +kernel
theorem t_X11_alone_79 : decode prog_1_method_44_code 79 = .ok (.getfield 47, 3) := by decide +kernel
theorem t_X11_alone_82 : decode prog_1_method_44_code 82 = .ok (.aload_n 0, 1) := by decide +kernel
theorem t_X11_alone_83 : decode prog_1_method_44_code 83 = .ok (.getfield 108, 3) := by decide +kernel
theorem t_X11_alone_86 : decode prog_1_method_44_code 86 = .ok (.iload_n 3, 1) := by decide +kernel
theorem t_X11_alone_87 : decode prog_1_method_44_code 87 = .ok (.iaload, 1) := by decide +kernel
theorem t_X11_alone_88 : decode prog_1_method_44_code 88 = .ok (.i2l, 1) := by decide +kernel
theorem t_X11_alone_89 : decode prog_1_method_44_code 89 = .ok (.invokevirtual 322, 3) := by decide +kernel
theorem t_X11_alone_92 : decode prog_1_method_44_code 92 = .ok (.iinc 3 1, 3) := by decide +kernel
theorem t_X11_alone_95 : decode prog_1_method_44_code 95 = .ok (.goto (-22), 3) := by decide +kernel
theorem t_X11_alone_98 : decode prog_1_method_44_code 98 = .ok (.iload_n 2, 1) := by decide +kernel
theorem t_X11_alone_99 : decode prog_1_method_44_code 99 = .ok (.ireturn, 1) := by decide +kernel
def y_X11_liftLeast : MethodName := ⟨"SowingBoards", "liftLeast", "()Z"⟩
theorem t_X11_liftLeast_0 : decode prog_1_method_50_code 0 = .ok (.iconst 1, 1) := by decide +kernel
theorem t_X11_liftLeast_1 : decode prog_1_method_50_code 1 = .ok (.istore_n 1, 1) := by decide +kernel
theorem t_X11_liftLeast_2 : decode prog_1_method_50_code 2 = .ok (.iload_n 1, 1) := by decide +kernel
theorem t_X11_liftLeast_3 : decode prog_1_method_50_code 3 = .ok (.bipush 20, 2) := by decide +kernel
theorem t_X11_liftLeast_5 : decode prog_1_method_50_code 5 = .ok (.if_icmp .ge 19, 3) := by decide +kernel
theorem t_X11_liftLeast_8 : decode prog_1_method_50_code 8 = .ok (.aload_n 0, 1) := by decide +kernel
theorem t_X11_liftLeast_9 : decode prog_1_method_50_code 9 = .ok (.getfield 108, 3) := by decide +kernel
theorem t_X11_liftLeast_12 : decode prog_1_method_50_code 12 = .ok (.iload_n 1, 1) := by decide +kernel
theorem t_X11_liftLeast_13 : decode prog_1_method_50_code 13 = .ok (.iaload, 1) := by decide +kernel
theorem t_X11_liftLeast_14 : decode prog_1_method_50_code 14 = .ok (.iload_n 1, 1) := by decide +kernel
theorem t_X11_liftLeast_15 : decode prog_1_method_50_code 15 = .ok (.if_icmp .eq 9, 3) := by decide +kernel
theorem t_X11_liftLeast_18 : decode prog_1_method_50_code 18 = .ok (.iinc 1 1, 3) := by decide +kernel
theorem t_X11_liftLeast_21 : decode prog_1_method_50_code 21 = .ok (.goto (-19), 3) := by decide +kernel
theorem t_X11_liftLeast_24 : decode prog_1_method_50_code 24 = .ok (.aload_n 0, 1) := by decide +kernel
theorem t_X11_liftLeast_25 : decode prog_1_method_50_code 25 = .ok (.getfield 108, 3) := by decide +kernel
theorem t_X11_liftLeast_28 : decode prog_1_method_50_code 28 = .ok (.iload_n 1, 1) := by decide +kernel
theorem t_X11_liftLeast_29 : decode prog_1_method_50_code 29 = .ok (.iaload, 1) := by decide +kernel
theorem t_X11_liftLeast_30 : decode prog_1_method_50_code 30 = .ok (.iload_n 1, 1) := by decide +kernel
theorem t_X11_liftLeast_31 : decode prog_1_method_50_code 31 = .ok (.if_icmp .eq 5, 3) := by decide +kernel
theorem t_X11_liftLeast_34 : decode prog_1_method_50_code 34 = .ok (.iconst 0, 1) := by decide +kernel
theorem t_X11_liftLeast_35 : decode prog_1_method_50_code 35 = .ok (.ireturn, 1) := by decide +kernel
theorem t_X11_liftLeast_36 : decode prog_1_method_50_code 36 = .ok (.aload_n 0, 1) := by decide +kernel
theorem t_X11_liftLeast_37 : decode prog_1_method_50_code 37 = .ok (.getfield 108, 3) := by decide +kernel
theorem t_X11_liftLeast_40 : decode prog_1_method_50_code 40 = .ok (.iload_n 1, 1) := by decide +kernel
theorem t_X11_liftLeast_41 : decode prog_1_method_50_code 41 = .ok (.iconst 0, 1) := by decide +kernel
theorem t_X11_liftLeast_42 : decode prog_1_method_50_code 42 = .ok (.iastore, 1) := by decide +kernel
theorem t_X11_liftLeast_43 : decode prog_1_method_50_code 43 = .ok (.iconst 1, 1) := by decide +kernel
theorem t_X11_liftLeast_44 : decode prog_1_method_50_code 44 = .ok (.istore_n 2, 1) := by decide +kernel
theorem t_X11_liftLeast_45 : decode prog_1_method_50_code 45 = .ok (.iload_n 2, 1) := by decide +kernel
theorem t_X11_liftLeast_46 : decode prog_1_method_50_code 46 = .ok (.iload_n 1, 1) := by decide +kernel
theorem t_X11_liftLeast_47 : decode prog_1_method_50_code 47 = .ok (.if_icmp .ge 19, 3) := by decide +kernel
theorem t_X11_liftLeast_50 : decode prog_1_method_50_code 50 = .ok (.aload_n 0, 1) := by decide +kernel
theorem t_X11_liftLeast_51 : decode prog_1_method_50_code 51 = .ok (.getfield 108, 3) := by decide +kernel
theorem t_X11_liftLeast_54 : decode prog_1_method_50_code 54 = .ok (.iload_n 2, 1) := by decide +kernel
theorem t_X11_liftLeast_55 : decode prog_1_method_50_code 55 = .ok (.dup2, 1) := by decide +kernel
theorem t_X11_liftLeast_56 : decode prog_1_method_50_code 56 = .ok (.iaload, 1) := by decide +kernel
theorem t_X11_liftLeast_57 : decode prog_1_method_50_code 57 = .ok (.iconst 1, 1) := by decide +kernel
theorem t_X11_liftLeast_58 : decode prog_1_method_50_code 58 = .ok (.iadd, 1) := by decide +kernel
theorem t_X11_liftLeast_59 : decode prog_1_method_50_code 59 = .ok (.iastore, 1) := by decide +kernel
theorem t_X11_liftLeast_60 : decode prog_1_method_50_code 60 = .ok (.iinc 2 1, 3) := by decide +kernel
theorem t_X11_liftLeast_63 : decode prog_1_method_50_code 63 = .ok (.goto (-18), 3) := by decide +kernel
theorem t_X11_liftLeast_66 : decode prog_1_method_50_code 66 = .ok (.iconst 1, 1) := by decide +kernel
theorem t_X11_liftLeast_67 : decode prog_1_method_50_code 67 = .ok (.ireturn, 1) := by decide +kernel
def y_X11_liftAll : MethodName := ⟨"SowingBoards", "liftAll", "()I"⟩
theorem t_X11_liftAll_0 : decode prog_1_method_49_code 0 = .ok (.aload_n 0, 1) := by decide +kernel
theorem t_X11_liftAll_1 : decode prog_1_method_49_code 1 = .ok (.invokevirtual 363, 3) := by decide +kernel
theorem t_X11_liftAll_4 : decode prog_1_method_49_code 4 = .ok (.iconst 0, 1) := by decide +kernel
theorem t_X11_liftAll_5 : decode prog_1_method_49_code 5 = .ok (.istore_n 1, 1) := by decide +kernel
theorem t_X11_liftAll_6 : decode prog_1_method_49_code 6 = .ok (.iconst 0, 1) := by decide +kernel
theorem t_X11_liftAll_7 : decode prog_1_method_49_code 7 = .ok (.istore_n 2, 1) := by decide +kernel
theorem t_X11_liftAll_8 : decode prog_1_method_49_code 8 = .ok (.iload_n 2, 1) := by decide +kernel
theorem t_X11_liftAll_9 : decode prog_1_method_49_code 9 = .ok (.aload_n 0, 1) := by decide +kernel
theorem t_X11_liftAll_10 : decode prog_1_method_49_code 10 = .ok (.getfield 40, 3) := by decide +kernel
theorem t_X11_liftAll_13 : decode prog_1_method_49_code 13 = .ok (.getfield 130, 3) := by decide +kernel
theorem t_X11_liftAll_16 : decode prog_1_method_49_code 16 = .ok (.if_icmp .ge 42, 3) := by decide +kernel
theorem t_X11_liftAll_19 : decode prog_1_method_49_code 19 = .ok (.iload_n 2, 1) := by decide +kernel
theorem t_X11_liftAll_20 : decode prog_1_method_49_code 20 = .ok (.bipush 20, 2) := by decide +kernel
theorem t_X11_liftAll_22 : decode prog_1_method_49_code 22 = .ok (.if_icmp .ge 36, 3) := by decide +kernel
theorem t_X11_liftAll_25 : decode prog_1_method_49_code 25 = .ok (.aload_n 0, 1) := by decide +kernel
theorem t_X11_liftAll_26 : decode prog_1_method_49_code 26 = .ok (.getfield 108, 3) := by decide +kernel
theorem t_X11_liftAll_29 : decode prog_1_method_49_code 29 = .ok (.iload_n 2, 1) := by decide +kernel
theorem t_X11_liftAll_30 : decode prog_1_method_49_code 30 = .ok (.iconst 1, 1) := by decide +kernel
theorem t_X11_liftAll_31 : decode prog_1_method_49_code 31 = .ok (.iadd, 1) := by decide +kernel
theorem t_X11_liftAll_32 : decode prog_1_method_49_code 32 = .ok (.aload_n 0, 1) := by decide +kernel
theorem t_X11_liftAll_33 : decode prog_1_method_49_code 33 = .ok (.getfield 40, 3) := by decide +kernel
theorem t_X11_liftAll_36 : decode prog_1_method_49_code 36 = .ok (.iload_n 2, 1) := by decide +kernel
theorem t_X11_liftAll_37 : decode prog_1_method_49_code 37 = .ok (.invokevirtual 148, 3) := by decide +kernel
theorem t_X11_liftAll_40 : decode prog_1_method_49_code 40 = .ok (.iastore, 1) := by decide +kernel
theorem t_X11_liftAll_41 : decode prog_1_method_49_code 41 = .ok (.iload_n 1, 1) := by decide +kernel
theorem t_X11_liftAll_42 : decode prog_1_method_49_code 42 = .ok (.aload_n 0, 1) := by decide +kernel
theorem t_X11_liftAll_43 : decode prog_1_method_49_code 43 = .ok (.getfield 40, 3) := by decide +kernel
theorem t_X11_liftAll_46 : decode prog_1_method_49_code 46 = .ok (.iload_n 2, 1) := by decide +kernel
theorem t_X11_liftAll_47 : decode prog_1_method_49_code 47 = .ok (.invokevirtual 148, 3) := by decide +kernel
theorem t_X11_liftAll_50 : decode prog_1_method_49_code 50 = .ok (.iadd, 1) := by decide +kernel
theorem t_X11_liftAll_51 : decode prog_1_method_49_code 51 = .ok (.istore_n 1, 1) := by decide +kernel
theorem t_X11_liftAll_52 : decode prog_1_method_49_code 52 = .ok (.iinc 2 1, 3) := by decide +kernel
theorem t_X11_liftAll_55 : decode prog_1_method_49_code 55 = .ok (.goto (-47), 3) := by decide +kernel
theorem t_X11_liftAll_58 : decode prog_1_method_49_code 58 = .ok (.iconst 0, 1) := by decide +kernel
theorem t_X11_liftAll_59 : decode prog_1_method_49_code 59 = .ok (.istore_n 2, 1) := by decide +kernel
theorem t_X11_liftAll_60 : decode prog_1_method_49_code 60 = .ok (.iload_n 2, 1) := by decide +kernel
theorem t_X11_liftAll_61 : decode prog_1_method_49_code 61 = .ok (.iload_n 1, 1) := by decide +kernel
theorem t_X11_liftAll_62 : decode prog_1_method_49_code 62 = .ok (.if_icmp .ge 16, 3) := by decide +kernel
theorem t_X11_liftAll_65 : decode prog_1_method_49_code 65 = .ok (.aload_n 0, 1) := by decide +kernel
theorem t_X11_liftAll_66 : decode prog_1_method_49_code 66 = .ok (.invokevirtual 375, 3) := by decide +kernel
theorem t_X11_liftAll_69 : decode prog_1_method_49_code 69 = .ok (.ifCond .eq 9, 3) := by decide +kernel
theorem t_X11_liftAll_72 : decode prog_1_method_49_code 72 = .ok (.iinc 2 1, 3) := by decide +kernel
theorem t_X11_liftAll_75 : decode prog_1_method_49_code 75 = .ok (.goto (-15), 3) := by decide +kernel
theorem t_X11_liftAll_78 : decode prog_1_method_49_code 78 = .ok (.aload_n 0, 1) := by decide +kernel
theorem t_X11_liftAll_79 : decode prog_1_method_49_code 79 = .ok (.getfield 47, 3) := by decide +kernel
theorem t_X11_liftAll_82 : decode prog_1_method_49_code 82 = .ok (.iload_n 2, 1) := by decide +kernel
theorem t_X11_liftAll_83 : decode prog_1_method_49_code 83 = .ok (.i2l, 1) := by decide +kernel
theorem t_X11_liftAll_84 : decode prog_1_method_49_code 84 = .ok (.iload_n 1, 1) := by decide +kernel
theorem t_X11_liftAll_85 : decode prog_1_method_49_code 85 = .ok (.iload_n 2, 1) := by decide +kernel
theorem t_X11_liftAll_86 : decode prog_1_method_49_code 86 = .ok (.isub, 1) := by decide +kernel
theorem t_X11_liftAll_87 : decode prog_1_method_49_code 87 = .ok (.i2l, 1) := by decide +kernel
theorem t_X11_liftAll_88 : decode prog_1_method_49_code 88 = .ok (.invokevirtual 253, 3) := by decide +kernel
theorem t_X11_liftAll_91 : decode prog_1_method_49_code 91 = .ok (.iload_n 2, 1) := by decide +kernel
theorem t_X11_liftAll_92 : decode prog_1_method_49_code 92 = .ok (.ireturn, 1) := by decide +kernel
def y_X11_wrongInRow : MethodName := ⟨"SowingBoards", "wrongInRow", "()I"⟩
theorem t_X11_wrongInRow_0 : decode prog_1_method_48_code 0 = .ok (.iconst 0, 1) := by decide +kernel
theorem t_X11_wrongInRow_1 : decode prog_1_method_48_code 1 = .ok (.istore_n 1, 1) := by decide +kernel
theorem t_X11_wrongInRow_2 : decode prog_1_method_48_code 2 = .ok (.iload_n 1, 1) := by decide +kernel
theorem t_X11_wrongInRow_3 : decode prog_1_method_48_code 3 = .ok (.aload_n 0, 1) := by decide +kernel
theorem t_X11_wrongInRow_4 : decode prog_1_method_48_code 4 = .ok (.getfield 40, 3) := by decide +kernel
theorem t_X11_wrongInRow_7 : decode prog_1_method_48_code 7 = .ok (.getfield 130, 3) := by decide +kernel
theorem t_X11_wrongInRow_10 : decode prog_1_method_48_code 10 = .ok (.if_icmp .ge 28, 3) := by decide +kernel
theorem t_X11_wrongInRow_13 : decode prog_1_method_48_code 13 = .ok (.iload_n 1, 1) := by decide +kernel
theorem t_X11_wrongInRow_14 : decode prog_1_method_48_code 14 = .ok (.bipush 20, 2) := by decide +kernel
theorem t_X11_wrongInRow_16 : decode prog_1_method_48_code 16 = .ok (.if_icmp .eq 14, 3) := by decide +kernel
theorem t_X11_wrongInRow_19 : decode prog_1_method_48_code 19 = .ok (.aload_n 0, 1) := by decide +kernel
theorem t_X11_wrongInRow_20 : decode prog_1_method_48_code 20 = .ok (.getfield 40, 3) := by decide +kernel
theorem t_X11_wrongInRow_23 : decode prog_1_method_48_code 23 = .ok (.iload_n 1, 1) := by decide +kernel
theorem t_X11_wrongInRow_24 : decode prog_1_method_48_code 24 = .ok (.invokevirtual 148, 3) := by decide +kernel
theorem t_X11_wrongInRow_27 : decode prog_1_method_48_code 27 = .ok (.ifCond .ge 5, 3) := by decide +kernel
theorem t_X11_wrongInRow_30 : decode prog_1_method_48_code 30 = .ok (.iload_n 1, 1) := by decide +kernel
theorem t_X11_wrongInRow_31 : decode prog_1_method_48_code 31 = .ok (.ireturn, 1) := by decide +kernel
theorem t_X11_wrongInRow_32 : decode prog_1_method_48_code 32 = .ok (.iinc 1 1, 3) := by decide +kernel
theorem t_X11_wrongInRow_35 : decode prog_1_method_48_code 35 = .ok (.goto (-33), 3) := by decide +kernel
theorem t_X11_wrongInRow_38 : decode prog_1_method_48_code 38 = .ok (.aload_n 0, 1) := by decide +kernel
theorem t_X11_wrongInRow_39 : decode prog_1_method_48_code 39 = .ok (.getfield 40, 3) := by decide +kernel
theorem t_X11_wrongInRow_42 : decode prog_1_method_48_code 42 = .ok (.getfield 130, 3) := by decide +kernel
theorem t_X11_wrongInRow_45 : decode prog_1_method_48_code 45 = .ok (.ifCond .ne 7, 3) := by decide +kernel
theorem t_X11_wrongInRow_48 : decode prog_1_method_48_code 48 = .ok (.iconst 0, 1) := by decide +kernel
theorem t_X11_wrongInRow_49 : decode prog_1_method_48_code 49 = .ok (.goto 4, 3) := by decide +kernel
theorem t_X11_wrongInRow_52 : decode prog_1_method_48_code 52 = .ok (.iconst (-1), 1) := by decide +kernel
theorem t_X11_wrongInRow_53 : decode prog_1_method_48_code 53 = .ok (.ireturn, 1) := by decide +kernel
def y_X11_comes : MethodName := ⟨"SowingBoards", "comes", "()I"⟩
theorem t_X11_comes_0 : decode prog_1_method_47_code 0 = .ok (.aload_n 0, 1) := by decide +kernel
theorem t_X11_comes_1 : decode prog_1_method_47_code 1 = .ok (.invokevirtual 369, 3) := by decide +kernel
theorem t_X11_comes_4 : decode prog_1_method_47_code 4 = .ok (.istore_n 1, 1) := by decide +kernel
theorem t_X11_comes_5 : decode prog_1_method_47_code 5 = .ok (.iload_n 1, 1) := by decide +kernel
theorem t_X11_comes_6 : decode prog_1_method_47_code 6 = .ok (.iconst (-1), 1) := by decide +kernel
theorem t_X11_comes_7 : decode prog_1_method_47_code 7 = .ok (.if_icmp .ne 10, 3) := by decide +kernel
theorem t_X11_comes_10 : decode prog_1_method_47_code 10 = .ok (.aload_n 0, 1) := by decide +kernel
theorem t_X11_comes_11 : decode prog_1_method_47_code 11 = .ok (.invokevirtual 372, 3) := by decide +kernel
theorem t_X11_comes_14 : decode prog_1_method_47_code 14 = .ok (.goto 6, 3) := by decide +kernel
theorem t_X11_comes_17 : decode prog_1_method_47_code 17 = .ok (.iconst (-1), 1) := by decide +kernel
theorem t_X11_comes_18 : decode prog_1_method_47_code 18 = .ok (.iload_n 1, 1) := by decide +kernel
theorem t_X11_comes_19 : decode prog_1_method_47_code 19 = .ok (.isub, 1) := by decide +kernel
theorem t_X11_comes_20 : decode prog_1_method_47_code 20 = .ok (.istore_n 2, 1) := by decide +kernel
theorem t_X11_comes_21 : decode prog_1_method_47_code 21 = .ok (.aload_n 0, 1) := by decide +kernel
theorem t_X11_comes_22 : decode prog_1_method_47_code 22 = .ok (.getfield 40, 3) := by decide +kernel
theorem t_X11_comes_25 : decode prog_1_method_47_code 25 = .ok (.invokevirtual 142, 3) := by decide +kernel
theorem t_X11_comes_28 : decode prog_1_method_47_code 28 = .ok (.iload_n 2, 1) := by decide +kernel
theorem t_X11_comes_29 : decode prog_1_method_47_code 29 = .ok (.ireturn, 1) := by decide +kernel
def y_X11_heard : MethodName := ⟨"SowingBoards", "heard", "(II)I"⟩
theorem t_X11_heard_0 : decode prog_1_method_51_code 0 = .ok (.iload_n 1, 1) := by decide +kernel
theorem t_X11_heard_1 : decode prog_1_method_51_code 1 = .ok (.ifCond .lt 24, 3) := by decide +kernel
theorem t_X11_heard_4 : decode prog_1_method_51_code 4 = .ok (.iload_n 1, 1) := by decide +kernel
theorem t_X11_heard_5 : decode prog_1_method_51_code 5 = .ok (.getstatic 378, 3) := by decide +kernel
theorem t_X11_heard_8 : decode prog_1_method_51_code 8 = .ok (.arraylength, 1) := by decide +kernel
theorem t_X11_heard_9 : decode prog_1_method_51_code 9 = .ok (.if_icmp .ge 16, 3) := by decide +kernel
theorem t_X11_heard_12 : decode prog_1_method_51_code 12 = .ok (.iload_n 2, 1) := by decide +kernel
theorem t_X11_heard_13 : decode prog_1_method_51_code 13 = .ok (.ifCond .lt 12, 3) := by decide +kernel
theorem t_X11_heard_16 : decode prog_1_method_51_code 16 = .ok (.iload_n 2, 1) := by decide +kernel
theorem t_X11_heard_17 : decode prog_1_method_51_code 17 = .ok (.getstatic 378, 3) := by decide +kernel
theorem t_X11_heard_20 : decode prog_1_method_51_code 20 = .ok (.iload_n 1, 1) := by decide +kernel
theorem t_X11_heard_21 : decode prog_1_method_51_code 21 = .ok (.iaload, 1) := by decide +kernel
theorem t_X11_heard_22 : decode prog_1_method_51_code 22 = .ok (.if_icmp .le 5, 3) := by decide +kernel
theorem t_X11_heard_25 : decode prog_1_method_51_code 25 = .ok (.iconst (-1), 1) := by decide +kernel
theorem t_X11_heard_26 : decode prog_1_method_51_code 26 = .ok (.ireturn, 1) := by decide +kernel
theorem t_X11_heard_27 : decode prog_1_method_51_code 27 = .ok (.aload_n 0, 1) := by decide +kernel
theorem t_X11_heard_28 : decode prog_1_method_51_code 28 = .ok (.getfield 101, 3) := by decide +kernel
theorem t_X11_heard_31 : decode prog_1_method_51_code 31 = .ok (.iload_n 1, 1) := by decide +kernel
theorem t_X11_heard_32 : decode prog_1_method_51_code 32 = .ok (.iload_n 2, 1) := by decide +kernel
theorem t_X11_heard_33 : decode prog_1_method_51_code 33 = .ok (.invokevirtual 381, 3) := by decide +kernel
theorem t_X11_heard_36 : decode prog_1_method_51_code 36 = .ok (.ifCond .eq 13, 3) := by decide +kernel
theorem t_X11_heard_39 : decode prog_1_method_51_code 39 = .ok (.aload_n 0, 1) := by decide +kernel
theorem t_X11_heard_40 : decode prog_1_method_51_code 40 = .ok (.getfield 101, 3) := by decide +kernel
theorem t_X11_heard_43 : decode prog_1_method_51_code 43 = .ok (.getfield 383, 3) := by decide +kernel
theorem t_X11_heard_46 : decode prog_1_method_51_code 46 = .ok (.goto 4, 3) := by decide +kernel
theorem t_X11_heard_49 : decode prog_1_method_51_code 49 = .ok (.iconst (-1), 1) := by decide +kernel
theorem t_X11_heard_50 : decode prog_1_method_51_code 50 = .ok (.ireturn, 1) := by decide +kernel
def y_X11_forget : MethodName := ⟨"SowingBoards", "forget", "()I"⟩
theorem t_X11_forget_0 : decode prog_1_method_52_code 0 = .ok (.aload_n 0, 1) := by decide +kernel
theorem t_X11_forget_1 : decode prog_1_method_52_code 1 = .ok (.getfield 101, 3) := by decide +kernel
theorem t_X11_forget_4 : decode prog_1_method_52_code 4 = .ok (.invokevirtual 384, 3) := by decide +kernel
theorem t_X11_forget_7 : decode prog_1_method_52_code 7 = .ok (.ireturn, 1) := by decide +kernel
def y_X11_isSo : MethodName := ⟨"SowingBoards", "isSo", "(III)Z"⟩
theorem t_X11_isSo_0 : decode prog_1_method_56_code 0 = .ok (.aload_n 0, 1) := by decide +kernel
theorem t_X11_isSo_1 : decode prog_1_method_56_code 1 = .ok (.getfield 10, 3) := by decide +kernel
theorem t_X11_isSo_4 : decode prog_1_method_56_code 4 = .ok (.iload_n 1, 1) := by decide +kernel
theorem t_X11_isSo_5 : decode prog_1_method_56_code 5 = .ok (.iconst 0, 1) := by decide +kernel
theorem t_X11_isSo_6 : decode prog_1_method_56_code 6 = .ok (.invokevirtual 402, 3) := by decide +kernel
theorem t_X11_isSo_9 : decode prog_1_method_56_code 9 = .ok (.ifCond .eq 7, 3) := by decide +kernel
theorem t_X11_isSo_12 : decode prog_1_method_56_code 12 = .ok (.iconst 0, 1) := by decide +kernel
theorem t_X11_isSo_13 : decode prog_1_method_56_code 13 = .ok (.goto 4, 3) := by decide +kernel
theorem t_X11_isSo_16 : decode prog_1_method_56_code 16 = .ok (.iconst 1, 1) := by decide +kernel
theorem t_X11_isSo_17 : decode prog_1_method_56_code 17 = .ok (.istore 4, 2) := by decide +kernel
theorem t_X11_isSo_19 : decode prog_1_method_56_code 19 = .ok (.iload_n 2, 1) := by decide +kernel
theorem t_X11_isSo_20 : decode prog_1_method_56_code 20 = .ok (.tableswitch 111 0 3 #[32, 44, 63, 89], 32) := by decide +kernel
theorem t_X11_isSo_52 : decode prog_1_method_56_code 52 = .ok (.iload 4, 2) := by decide +kernel
theorem t_X11_isSo_54 : decode prog_1_method_56_code 54 = .ok (.iload_n 3, 1) := by decide +kernel
theorem t_X11_isSo_55 : decode prog_1_method_56_code 55 = .ok (.if_icmp .ne 7, 3) := by decide +kernel
theorem t_X11_isSo_58 : decode prog_1_method_56_code 58 = .ok (.iconst 1, 1) := by decide +kernel
theorem t_X11_isSo_59 : decode prog_1_method_56_code 59 = .ok (.goto 4, 3) := by decide +kernel
theorem t_X11_isSo_62 : decode prog_1_method_56_code 62 = .ok (.iconst 0, 1) := by decide +kernel
theorem t_X11_isSo_63 : decode prog_1_method_56_code 63 = .ok (.ireturn, 1) := by decide +kernel
theorem t_X11_isSo_64 : decode prog_1_method_56_code 64 = .ok (.aload_n 0, 1) := by decide +kernel
theorem t_X11_isSo_65 : decode prog_1_method_56_code 65 = .ok (.getfield 10, 3) := by decide +kernel
theorem t_X11_isSo_68 : decode prog_1_method_56_code 68 = .ok (.getfield 120, 3) := by decide +kernel
theorem t_X11_isSo_71 : decode prog_1_method_56_code 71 = .ok (.iload_n 1, 1) := by decide +kernel
theorem t_X11_isSo_72 : decode prog_1_method_56_code 72 = .ok (.iaload, 1) := by decide +kernel
theorem t_X11_isSo_73 : decode prog_1_method_56_code 73 = .ok (.iload_n 3, 1) := by decide +kernel
theorem t_X11_isSo_74 : decode prog_1_method_56_code 74 = .ok (.if_icmp .lt 7, 3) := by decide +kernel
theorem t_X11_isSo_77 : decode prog_1_method_56_code 77 = .ok (.iconst 1, 1) := by decide +kernel
theorem t_X11_isSo_78 : decode prog_1_method_56_code 78 = .ok (.goto 4, 3) := by decide +kernel
theorem t_X11_isSo_81 : decode prog_1_method_56_code 81 = .ok (.iconst 0, 1) := by decide +kernel
theorem t_X11_isSo_82 : decode prog_1_method_56_code 82 = .ok (.ireturn, 1) := by decide +kernel
theorem t_X11_isSo_83 : decode prog_1_method_56_code 83 = .ok (.aload_n 0, 1) := by decide +kernel
theorem t_X11_isSo_84 : decode prog_1_method_56_code 84 = .ok (.getfield 10, 3) := by decide +kernel
theorem t_X11_isSo_87 : decode prog_1_method_56_code 87 = .ok (.getfield 120, 3) := by decide +kernel
theorem t_X11_isSo_90 : decode prog_1_method_56_code 90 = .ok (.aload_n 0, 1) := by decide +kernel
theorem t_X11_isSo_91 : decode prog_1_method_56_code 91 = .ok (.getfield 10, 3) := by decide +kernel
theorem t_X11_isSo_94 : decode prog_1_method_56_code 94 = .ok (.iload_n 1, 1) := by decide +kernel
theorem t_X11_isSo_95 : decode prog_1_method_56_code 95 = .ok (.invokevirtual 405, 3) := by decide +kernel
theorem t_X11_isSo_98 : decode prog_1_method_56_code 98 = .ok (.iaload, 1) := by decide +kernel
theorem t_X11_isSo_99 : decode prog_1_method_56_code 99 = .ok (.iload_n 3, 1) := by decide +kernel
theorem t_X11_isSo_100 : decode prog_1_method_56_code 100 = .ok (.if_icmp .lt 7, 3) := by decide +kernel
theorem t_X11_isSo_103 : decode prog_1_method_56_code 103 = .ok (.iconst 1, 1) := by decide +kernel
theorem t_X11_isSo_104 : decode prog_1_method_56_code 104 = .ok (.goto 4, 3) := by decide +kernel
theorem t_X11_isSo_107 : decode prog_1_method_56_code 107 = .ok (.iconst 0, 1) := by decide +kernel
theorem t_X11_isSo_108 : decode prog_1_method_56_code 108 = .ok (.ireturn, 1) := by decide +kernel
theorem t_X11_isSo_109 : decode prog_1_method_56_code 109 = .ok (.iload_n 1, 1) := by decide +kernel
theorem t_X11_isSo_110 : decode prog_1_method_56_code 110 = .ok (.iload 4, 2) := by decide +kernel
theorem t_X11_isSo_112 : decode prog_1_method_56_code 112 = .ok (.aload_n 0, 1) := by decide +kernel
theorem t_X11_isSo_113 : decode prog_1_method_56_code 113 = .ok (.getfield 10, 3) := by decide +kernel
theorem t_X11_isSo_116 : decode prog_1_method_56_code 116 = .ok (.getfield 152, 3) := by decide +kernel
theorem t_X11_isSo_119 : decode prog_1_method_56_code 119 = .ok (.imul, 1) := by decide +kernel
theorem t_X11_isSo_120 : decode prog_1_method_56_code 120 = .ok (.isub, 1) := by decide +kernel
theorem t_X11_isSo_121 : decode prog_1_method_56_code 121 = .ok (.iload_n 3, 1) := by decide +kernel
theorem t_X11_isSo_122 : decode prog_1_method_56_code 122 = .ok (.if_icmp .ne 7, 3) := by decide +kernel
theorem t_X11_isSo_125 : decode prog_1_method_56_code 125 = .ok (.iconst 1, 1) := by decide +kernel
theorem t_X11_isSo_126 : decode prog_1_method_56_code 126 = .ok (.goto 4, 3) := by decide +kernel
theorem t_X11_isSo_129 : decode prog_1_method_56_code 129 = .ok (.iconst 0, 1) := by decide +kernel
theorem t_X11_isSo_130 : decode prog_1_method_56_code 130 = .ok (.ireturn, 1) := by decide +kernel
theorem t_X11_isSo_131 : decode prog_1_method_56_code 131 = .ok (.iload 4, 2) := by decide +kernel
theorem t_X11_isSo_133 : decode prog_1_method_56_code 133 = .ok (.aload_n 0, 1) := by decide +kernel
theorem t_X11_isSo_134 : decode prog_1_method_56_code 134 = .ok (.getfield 10, 3) := by decide +kernel
theorem t_X11_isSo_137 : decode prog_1_method_56_code 137 = .ok (.getfield 158, 3) := by decide +kernel
theorem t_X11_isSo_140 : decode prog_1_method_56_code 140 = .ok (.if_icmp .ne 7, 3) := by decide +kernel
theorem t_X11_isSo_143 : decode prog_1_method_56_code 143 = .ok (.iconst 1, 1) := by decide +kernel
theorem t_X11_isSo_144 : decode prog_1_method_56_code 144 = .ok (.goto 4, 3) := by decide +kernel
theorem t_X11_isSo_147 : decode prog_1_method_56_code 147 = .ok (.iconst 0, 1) := by decide +kernel
theorem t_X11_isSo_148 : decode prog_1_method_56_code 148 = .ok (.iload_n 3, 1) := by decide +kernel
theorem t_X11_isSo_149 : decode prog_1_method_56_code 149 = .ok (.iconst 1, 1) := by decide +kernel
theorem t_X11_isSo_150 : decode prog_1_method_56_code 150 = .ok (.if_icmp .ne 7, 3) := by decide +kernel
theorem t_X11_isSo_153 : decode prog_1_method_56_code 153 = .ok (.iconst 1, 1) := by decide +kernel
theorem t_X11_isSo_154 : decode prog_1_method_56_code 154 = .ok (.goto 4, 3) := by decide +kernel
theorem t_X11_isSo_157 : decode prog_1_method_56_code 157 = .ok (.iconst 0, 1) := by decide +kernel
theorem t_X11_isSo_158 : decode prog_1_method_56_code 158 = .ok (.if_icmp .ne 7, 3) := by decide +kernel
theorem t_X11_isSo_161 : decode prog_1_method_56_code 161 = .ok (.iconst 1, 1) := by decide +kernel
theorem t_X11_isSo_162 : decode prog_1_method_56_code 162 = .ok (.goto 4, 3) := by decide +kernel
theorem t_X11_isSo_165 : decode prog_1_method_56_code 165 = .ok (.iconst 0, 1) := by decide +kernel
theorem t_X11_isSo_166 : decode prog_1_method_56_code 166 = .ok (.ireturn, 1) := by decide +kernel
theorem fl_11_75 : FLk "SowingBoards" 75 11 11 := ⟨_, rfl, by decide, Or.inl (vtb_at 486 (by decide +kernel) rfl)⟩
theorem fl_11_101 : FLk "SowingBoards" 101 11 15 := ⟨_, rfl, by decide, Or.inl (vtb_at 490 (by decide +kernel) rfl)⟩
theorem fl_11_108 : FLk "SowingBoards" 108 11 17 := ⟨_, rfl, by decide, Or.inl (vtb_at 492 (by decide +kernel) rfl)⟩
theorem fl_11_325 : FLk "SowingBoards" 325 1 7 := ⟨_, rfl, by decide, Or.inr ⟨"SowingBoards", vnl_at 288 (by decide +kernel) rfl⟩⟩
theorem fl_11_337 : FLk "SowingBoards" 337 8 1 := ⟨_, rfl, by decide, Or.inr ⟨"SowingBoards", vnl_at 384 (by decide +kernel) rfl⟩⟩
theorem fl_11_383 : FLk "SowingBoards" 383 2 3 := ⟨_, rfl, by decide, Or.inr ⟨"SowingBoards", vnl_at 453 (by decide +kernel) rfl⟩⟩
theorem cc_11_348 : Cond.constantLong "SowingBoards" 348 12960000 ∈ vtb := vtb_at 1062 (by decide +kernel) rfl
theorem my_X10_duel : MY y_X10_duel prog_12_method_9_code 5 (some .int) 3 := ⟨vtb_at 999 (by decide +kernel) rfl, vtb_at 146 (by decide +kernel) rfl, ⟨by decide, by decide, by decide +kernel⟩, by decide⟩
theorem mi_X10_duel : MI y_X10_duel := ⟨vtb_at 998 (by decide +kernel) rfl, vtb_at 61 (by decide +kernel) rfl⟩
theorem my_X10_tellDuel : MY y_X10_tellDuel prog_12_method_10_code 3 none 1 := ⟨vtb_at 1013 (by decide +kernel) rfl, vtb_at 146 (by decide +kernel) rfl, ⟨by decide, by decide, by decide +kernel⟩, by decide⟩
theorem mi_X10_tellDuel : MI y_X10_tellDuel := ⟨vtb_at 1012 (by decide +kernel) rfl, vtb_at 63 (by decide +kernel) rfl⟩
theorem my_X8_clear : MY y_X8_clear prog_10_method_2_code 1 none 0 := ⟨vtb_at 1025 (by decide +kernel) rfl, vtb_at 147 (by decide +kernel) rfl, ⟨by decide, by decide, by decide +kernel⟩, by decide⟩
theorem mi_X8_clear : MI y_X8_clear := ⟨vtb_at 1024 (by decide +kernel) rfl, vtb_at 64 (by decide +kernel) rfl⟩
theorem my_X8_putNew : MY y_X8_putNew prog_10_method_3_code 2 none 1 := ⟨vtb_at 1029 (by decide +kernel) rfl, vtb_at 147 (by decide +kernel) rfl, ⟨by decide, by decide, by decide +kernel⟩, by decide⟩
theorem mi_X8_putNew : MI y_X8_putNew := ⟨vtb_at 1028 (by decide +kernel) rfl, vtb_at 65 (by decide +kernel) rfl⟩
theorem my_X10_isAtEnd : MY y_X10_isAtEnd prog_12_method_6_code 1 (some .boolean) 0 := ⟨vtb_at 1050 (by decide +kernel) rfl, vtb_at 146 (by decide +kernel) rfl, ⟨by decide, by decide, by decide +kernel⟩, by decide⟩
theorem mi_X10_isAtEnd : MI y_X10_isAtEnd := ⟨vtb_at 1049 (by decide +kernel) rfl, vtb_at 69 (by decide +kernel) rfl⟩
theorem my_X10_share : MY y_X10_share prog_12_method_7_code 4 (some .long) 0 := ⟨vtb_at 1054 (by decide +kernel) rfl, vtb_at 146 (by decide +kernel) rfl, ⟨by decide, by decide, by decide +kernel⟩, by decide⟩
theorem mi_X10_share : MI y_X10_share := ⟨vtb_at 1053 (by decide +kernel) rfl, vtb_at 70 (by decide +kernel) rfl⟩
theorem my_X11_tellFraction : MY y_X11_tellFraction prog_1_method_39_code 12 none 2 := ⟨vtb_at 1066 (by decide +kernel) rfl, vtb_at 139 (by decide +kernel) rfl, ⟨by decide, by decide, by decide +kernel⟩, by decide⟩
theorem mi_X11_tellFraction : MI y_X11_tellFraction := ⟨vtb_at 1065 (by decide +kernel) rfl, vtb_at 72 (by decide +kernel) rfl⟩
theorem my_X11_clearTally : MY y_X11_clearTally prog_1_method_46_code 2 none 0 := ⟨vtb_at 1093 (by decide +kernel) rfl, vtb_at 139 (by decide +kernel) rfl, ⟨by decide, by decide, by decide +kernel⟩, by decide⟩
theorem mi_X11_clearTally : MI y_X11_clearTally := ⟨vtb_at 1092 (by decide +kernel) rfl, vtb_at 73 (by decide +kernel) rfl⟩
theorem my_X11_unsow : MY y_X11_unsow prog_1_method_45_code 2 none 0 := ⟨vtb_at 1097 (by decide +kernel) rfl, vtb_at 139 (by decide +kernel) rfl, ⟨by decide, by decide, by decide +kernel⟩, by decide⟩
theorem mi_X11_unsow : MI y_X11_unsow := ⟨vtb_at 1096 (by decide +kernel) rfl, vtb_at 74 (by decide +kernel) rfl⟩
theorem my_X11_liftLeast : MY y_X11_liftLeast prog_1_method_50_code 3 (some .boolean) 0 := ⟨vtb_at 1113 (by decide +kernel) rfl, vtb_at 139 (by decide +kernel) rfl, ⟨by decide, by decide, by decide +kernel⟩, by decide⟩
theorem mi_X11_liftLeast : MI y_X11_liftLeast := ⟨vtb_at 1112 (by decide +kernel) rfl, vtb_at 77 (by decide +kernel) rfl⟩
theorem my_X11_wrongInRow : MY y_X11_wrongInRow prog_1_method_48_code 2 (some .int) 0 := ⟨vtb_at 1105 (by decide +kernel) rfl, vtb_at 139 (by decide +kernel) rfl, ⟨by decide, by decide, by decide +kernel⟩, by decide⟩
theorem mi_X11_wrongInRow : MI y_X11_wrongInRow := ⟨vtb_at 1104 (by decide +kernel) rfl, vtb_at 75 (by decide +kernel) rfl⟩
theorem my_X11_liftAll : MY y_X11_liftAll prog_1_method_49_code 3 (some .int) 0 := ⟨vtb_at 1109 (by decide +kernel) rfl, vtb_at 139 (by decide +kernel) rfl, ⟨by decide, by decide, by decide +kernel⟩, by decide⟩
theorem mi_X11_liftAll : MI y_X11_liftAll := ⟨vtb_at 1108 (by decide +kernel) rfl, vtb_at 76 (by decide +kernel) rfl⟩
theorem my_X2_add : MY y_X2_add prog_4_method_2_code 3 (some .boolean) 2 := ⟨vtb_at 1123 (by decide +kernel) rfl, vtb_at 150 (by decide +kernel) rfl, ⟨by decide, by decide, by decide +kernel⟩, by decide⟩
theorem mi_X2_add : MI y_X2_add := ⟨vtb_at 1122 (by decide +kernel) rfl, vtb_at 78 (by decide +kernel) rfl⟩
theorem my_X2_clear : MY y_X2_clear prog_4_method_3_code 2 (some .int) 0 := ⟨vtb_at 1131 (by decide +kernel) rfl, vtb_at 150 (by decide +kernel) rfl, ⟨by decide, by decide, by decide +kernel⟩, by decide⟩
theorem mi_X2_clear : MI y_X2_clear := ⟨vtb_at 1130 (by decide +kernel) rfl, vtb_at 79 (by decide +kernel) rfl⟩
theorem ml_11_329 : ML "SowingBoards" 329 y_X10_duel := Or.inr ⟨"SowingBoards", vnl_at 996 (by decide +kernel) rfl⟩
theorem ml_11_333 : ML "SowingBoards" 333 y_X10_tellDuel := Or.inr ⟨"SowingBoards", vnl_at 1010 (by decide +kernel) rfl⟩
theorem ml_11_336 : ML "SowingBoards" 336 y_X8_clear := Or.inr ⟨"SowingBoards", vnl_at 1022 (by decide +kernel) rfl⟩
theorem ml_11_338 : ML "SowingBoards" 338 y_X8_putNew := Or.inr ⟨"SowingBoards", vnl_at 1026 (by decide +kernel) rfl⟩
theorem ml_11_341 : ML "SowingBoards" 341 y_X10_isAtEnd := Or.inr ⟨"SowingBoards", vnl_at 1047 (by decide +kernel) rfl⟩
theorem ml_11_344 : ML "SowingBoards" 344 y_X10_share := Or.inr ⟨"SowingBoards", vnl_at 1051 (by decide +kernel) rfl⟩
theorem ml_11_350 : ML "SowingBoards" 350 y_X11_tellFraction := Or.inl (vtb_at 1063 (by decide +kernel) rfl)
theorem ml_11_353 : ML "SowingBoards" 353 y_X5_ownedBy := Or.inr ⟨"SowingBoards", vnl_at 1075 (by decide +kernel) rfl⟩
theorem ml_11_356 : ML "SowingBoards" 356 y_X8_put := Or.inr ⟨"SowingBoards", vnl_at 1080 (by decide +kernel) rfl⟩
theorem ml_11_359 : ML "SowingBoards" 359 y_X8_find := Or.inr ⟨"SowingBoards", vnl_at 1081 (by decide +kernel) rfl⟩
theorem ml_11_363 : ML "SowingBoards" 363 y_X11_clearTally := Or.inl (vtb_at 1090 (by decide +kernel) rfl)
theorem ml_11_366 : ML "SowingBoards" 366 y_X11_unsow := Or.inl (vtb_at 1094 (by decide +kernel) rfl)
theorem ml_11_369 : ML "SowingBoards" 369 y_X11_wrongInRow := Or.inl (vtb_at 1102 (by decide +kernel) rfl)
theorem ml_11_372 : ML "SowingBoards" 372 y_X11_liftAll := Or.inl (vtb_at 1106 (by decide +kernel) rfl)
theorem ml_11_375 : ML "SowingBoards" 375 y_X11_liftLeast := Or.inl (vtb_at 1110 (by decide +kernel) rfl)
theorem ml_11_381 : ML "SowingBoards" 381 y_X2_add := Or.inr ⟨"SowingBoards", vnl_at 1120 (by decide +kernel) rfl⟩
theorem ml_11_384 : ML "SowingBoards" 384 y_X2_clear := Or.inr ⟨"SowingBoards", vnl_at 1128 (by decide +kernel) rfl⟩
theorem ml_11_402 : ML "SowingBoards" 402 y_X5_isOf := Or.inr ⟨"SowingBoards", vnl_at 1148 (by decide +kernel) rfl⟩
theorem ml_11_405 : ML "SowingBoards" 405 y_X5_opposite := Or.inr ⟨"SowingBoards", vnl_at 1149 (by decide +kernel) rfl⟩
def D_X11_risks (p1 : Int32) : Wd → Option (Int32 × Wd) := fun w =>
  bc (D_X11_refusal p1 w) fun x2 w1 => if 0 ≤ x2 then (bc (D_X11_tryMove p1 (w1.1 75 18) w1) fun x4 w3 => if (w3.1 84 7) = 0 then (bc (D_X4_choose 6 109 (w3.1 75 18) w3) fun x6 w5 => some (w5.1 85 2, w5)) else (some (0, w3))) else (some (x2, w1))
set_option maxRecDepth 20000 in
theorem S_X11_risks {l0 : Launch} {ρ : Nat → Nat} {cs : Nat → ClassId} {G : va_G} (hρ : injN ρ) {p1 : Int32} {w : Wd} {rr : (Int32 × Wd)} (hD : D_X11_risks p1 w = some rr) : CtI l0 ρ cs G y_X11_risks prog_1_method_33_code 3 .int 12 [.ref (ρ 75), .int p1] w rr.1 rr.2 := by
  refine ctI_of hρ (by decide) (Nat.le_of_ble_eq_true rfl) (fun X hn h hR => ?_)
  unfold D_X11_risks at hD
  show gG ρ cs G X 0 [(0, .ref (ρ 75)), (1, .int p1)] [] w
  refine g_aload_n h 0 t_X11_risks_0 rfl ?_
  refine g_iload_n h 1 t_X11_risks_1 rfl ?_
  refine g_callVI h 75 (As := [.int p1]) (st := []) my_X11_refusal mi_X11_refusal ml_11_218 rfl (by decide) rfl rfl rfl (Nat.le_of_ble_eq_true rfl) (by decide) t_X11_risks_2 hD (fun _ _ e => S_X11_refusal hρ  e) (fun x2 w1 hD => ?_)
  refine g_istore_n (L' := [(2, .int x2), (0, .ref (ρ 75)), (1, .int p1)]) h hn t_X11_risks_5 rfl (by decide) rfl ?_
  refine g_iload_n h 0 t_X11_risks_6 rfl ?_
  refine g_if_ge (tgt := 12) h t_X11_risks_7 (by decide) hD (fun hD => ?_) (fun hD => ?_)
  · refine g_aload_n h 1 t_X11_risks_12 rfl ?_
    refine g_iload_n h 2 t_X11_risks_13 rfl ?_
    refine g_aload_n h 1 t_X11_risks_14 rfl ?_
    refine g_getI h 75 18 fl_11_112 rfl (by decide) rfl t_X11_risks_15 ?_
    refine g_callVI h 75 (As := [.int p1, .int (w1.1 75 18)]) (st := []) my_X11_tryMove mi_X11_tryMove ml_11_284 rfl (by decide) rfl rfl rfl (Nat.le_of_ble_eq_true rfl) (by decide) t_X11_risks_18 hD (fun _ _ e => S_X11_tryMove hρ  e) (fun x4 w3 hD => ?_)
    refine g_pop h t_X11_risks_21 rfl ?_
    refine g_aload_n h 1 t_X11_risks_22 rfl ?_
    refine g_getR h 75 8 84 fl_11_54 rfl (by decide) rfl t_X11_risks_23 ?_
    refine g_getI h 84 7 fl_11_325 rfl (by decide) rfl t_X11_risks_26 ?_
    refine g_if_eq (tgt := 34) h t_X11_risks_29 (by decide) hD (fun hD => ?_) (fun hD => ?_)
    · refine g_aload_n h 1 t_X11_risks_34 rfl ?_
      refine g_getR h 75 9 85 fl_11_61 rfl (by decide) rfl t_X11_risks_35 ?_
      refine g_aload_n h 1 t_X11_risks_38 rfl ?_
      refine g_getR h 75 2 6 fl_11_19 rfl (by decide) rfl t_X11_risks_39 ?_
      refine g_aload_n h 1 t_X11_risks_42 rfl ?_
      refine g_getR h 75 14 109 fl_11_93 rfl (by decide) rfl t_X11_risks_43 ?_
      refine g_aload_n h 1 t_X11_risks_46 rfl ?_
      refine g_getI h 75 18 fl_11_112 rfl (by decide) rfl t_X11_risks_47 ?_
      refine g_callVI h 85 (As := [.ref (ρ 6), .ref (ρ 109), .int (w3.1 75 18)]) (st := []) my_X4_choose mi_X4_choose ml_11_295 rfl (by decide) rfl rfl rfl (Nat.le_of_ble_eq_true rfl) (by decide) t_X11_risks_50 hD (fun _ _ e => S_X4_choose hρ (by decide) (by decide) e) (fun x6 w5 hD => ?_)
      refine g_pop h t_X11_risks_53 rfl ?_
      refine g_aload_n h 1 t_X11_risks_54 rfl ?_
      refine g_getR h 75 9 85 fl_11_61 rfl (by decide) rfl t_X11_risks_55 ?_
      refine g_getI h 85 2 fl_11_299 rfl (by decide) rfl t_X11_risks_58 ?_
      obtain rfl := Option.some.inj hD
      exact hR _ _ t_X11_risks_61 rfl
    · refine g_iconst (v := 0) h t_X11_risks_32 (by decide) ?_
      obtain rfl := Option.some.inj hD
      exact hR _ _ t_X11_risks_33 rfl
  · refine g_iload_n h 0 t_X11_risks_10 rfl ?_
    obtain rfl := Option.some.inj hD
    exact hR _ _ t_X11_risks_11 rfl
def J_X11_starves_j43_1 (r4 : Int32 → Int32 → Wd → Option (Int32 × Wd)) (x4 : Int32) : Int32 → Wd → Option (Int32 × Wd) := fun x8 w9 =>
  bd (x4 + 1) fun x11 => r4 x8 x11 w9
def L_X11_starves_4 (k1 : Int32 → Wd → Option (Int32 × Wd)) : Nat → Int32 → Int32 → Wd → Option (Int32 × Wd)
  | 0, _, _, _ => none
  | n2 + 1, x3, x4, w5 =>
    if (w5.1 0 2) ≤ x4 then (k1 x3 w5) else (bc (D_X11_tryMove x4 (w5.1 75 18) w5) fun x7 w6 => bd (J_X11_starves_j43_1 (L_X11_starves_4 k1 n2) x4) fun k10 => if x7 = 0 then (k10 x3 w6) else (bc (D_X5_isOver 6 w6) fun x13 w12 => if x13 = 0 then (k10 x3 w12) else (bd (x3 ||| (1 <<< (x4 &&& 31))) fun x14 => k10 x14 w12)))
def J_X11_starves_x49_2  : Int32 → Wd → Option (Int32 × Wd) := fun x15 w16 =>
  bv (D_X3_tell x15.toInt64 w16) fun w17 => bc (D_J6_bitCount_0f7a4 x15 w17) fun x19 w18 => some (x19, w18)
def D_X11_starves  : Wd → Option (Int32 × Wd) := fun w =>
  L_X11_starves_4 J_X11_starves_x49_2 FU 0 0 w
set_option maxRecDepth 20000 in
theorem Q_X11_starves_4 {l0 : Launch} {ρ : Nat → Nat} {cs : Nat → ClassId} {G : va_G} {X : Cx} (hρ : injN ρ) (hn : X.2.2.2.2.2.2.2.2.2.2.1 = 3) (h : Okx l0 ρ cs G X prog_1_method_34_code "SowingBoards" 4) {rr : (Int32 × Wd)} (hR : ∀ pc L, decode prog_1_method_34_code pc = .ok (.ireturn, 1) → narrow .int (.int rr.1) = .int rr.1 → gG ρ cs G X pc L [.int rr.1] rr.2)  {k1 : Int32 → Wd → Option (Int32 × Wd)} (hk1 : ∀ (z1 : Int32) (w1 : Wd), k1 z1 w1 = some rr → gG ρ cs G X 49 [(0, .ref (ρ 75)), (1, .int z1)] [] w1) : ∀ (n : Nat) (x3 : Int32) (x4 : Int32) (w : Wd), L_X11_starves_4 k1 n x3 x4 w = some rr → gG ρ cs G X 4 [(0, .ref (ρ 75)), (1, .int x3), (2, .int x4)] [] w := by
  intro n
  induction n with
  | zero =>
    intro x3 x4 w hD
    cases hD
  | succ n2 ih =>
    intro x3 x4 w5 hD
    unfold L_X11_starves_4 at hD
    refine g_iload_n h 2 t_X11_starves_4 rfl ?_
    refine g_aload_n h 0 t_X11_starves_5 rfl ?_
    refine g_getR h 75 0 0 fl_11_10 rfl (by decide) rfl t_X11_starves_6 ?_
    refine g_getI h 0 2 fl_11_152 rfl (by decide) rfl t_X11_starves_9 ?_
    refine g_icmp_ge (tgt := 49) h t_X11_starves_12 (by decide) hD (fun hD => ?_) (fun hD => ?_)
    · refine g_loc (L' := [(0, .ref (ρ 75)), (1, .int x3)]) h [0, 1] rfl ?_
      exact hk1 x3 _ hD
    · refine g_aload_n h 0 t_X11_starves_15 rfl ?_
      refine g_iload_n h 2 t_X11_starves_16 rfl ?_
      refine g_aload_n h 0 t_X11_starves_17 rfl ?_
      refine g_getI h 75 18 fl_11_112 rfl (by decide) rfl t_X11_starves_18 ?_
      refine g_callVI h 75 (As := [.int x4, .int (w5.1 75 18)]) (st := []) my_X11_tryMove mi_X11_tryMove ml_11_284 rfl (by decide) rfl rfl rfl (Nat.le_of_ble_eq_true rfl) (by decide) t_X11_starves_21 hD (fun _ _ e => S_X11_tryMove hρ  e) (fun x7 w6 hD => ?_)
      refine g_join (P := fun k10 => ∀ (x8 : Int32) (w9 : Wd), k10 x8 w9 = some rr → gG ρ cs G X 43 [(0, .ref (ρ 75)), (1, .int x8), (2, .int x4)] [] w9) hD ?_ (fun k10 hk10 hD => ?_)
      · intro x8 w9 hD
        unfold J_X11_starves_j43_1 at hD
        obtain ⟨x11, ex11, hD⟩ := bd_ex hD
        refine g_iinc (v := x11) (L' := [(2, .int x11), (0, .ref (ρ 75)), (1, .int x8)]) h hn t_X11_starves_43 (k := 2) rfl (by rw [ex11]; rfl) (by decide) rfl ?_
        refine g_goto (tgt := 4) h t_X11_starves_46 (by decide) ?_
        refine g_loc (L' := [(0, .ref (ρ 75)), (1, .int x8), (2, .int x11)]) h [1, 2, 0] rfl ?_
        exact ih x8 x11 _ hD
      · refine g_if_eq (tgt := 43) h t_X11_starves_24 (by decide) hD (fun hD => ?_) (fun hD => ?_)
        · refine g_loc (L' := [(0, .ref (ρ 75)), (1, .int x3), (2, .int x4)]) h [0, 1, 2] rfl ?_
          exact hk10 x3 _ hD
        · refine g_aload_n h 0 t_X11_starves_27 rfl ?_
          refine g_getR h 75 2 6 fl_11_19 rfl (by decide) rfl t_X11_starves_28 ?_
          refine g_callVI h 6 (As := []) (st := []) my_X5_isOver mi_X5_isOver ml_11_245 rfl (by decide) rfl rfl rfl (Nat.le_of_ble_eq_true rfl) (by decide) t_X11_starves_31 hD (fun _ _ e => S_X5_isOver hρ (by decide) e) (fun x13 w12 hD => ?_)
          refine g_if_eq (tgt := 43) h t_X11_starves_34 (by decide) hD (fun hD => ?_) (fun hD => ?_)
          · refine g_loc (L' := [(0, .ref (ρ 75)), (1, .int x3), (2, .int x4)]) h [0, 1, 2] rfl ?_
            exact hk10 x3 _ hD
          · refine g_iload_n h 1 t_X11_starves_37 rfl ?_
            refine g_iconst (v := 1) h t_X11_starves_38 (by decide) ?_
            refine g_iload_n h 2 t_X11_starves_39 rfl ?_
            refine g_ishl h t_X11_starves_40 ?_
            refine g_ior h t_X11_starves_41 ?_
            refine g_bdI hD (fun x14 hD => ?_)
            refine g_istore_n (L' := [(1, .int x14), (0, .ref (ρ 75)), (2, .int x4)]) h hn t_X11_starves_42 rfl (by decide) rfl ?_
            refine g_loc (L' := [(0, .ref (ρ 75)), (1, .int x14), (2, .int x4)]) h [1, 0, 2] rfl ?_
            exact hk10 x14 _ hD
set_option maxRecDepth 20000 in
theorem S_X11_starves {l0 : Launch} {ρ : Nat → Nat} {cs : Nat → ClassId} {G : va_G} (hρ : injN ρ)  {w : Wd} {rr : (Int32 × Wd)} (hD : D_X11_starves w = some rr) : CtI l0 ρ cs G y_X11_starves prog_1_method_34_code 3 .int 4 [.ref (ρ 75)] w rr.1 rr.2 := by
  refine ctI_of hρ (by decide) (Nat.le_of_ble_eq_true rfl) (fun X hn h hR => ?_)
  unfold D_X11_starves at hD
  show gG ρ cs G X 0 [(0, .ref (ρ 75))] [] w
  refine g_iconst (v := 0) h t_X11_starves_0 (by decide) ?_
  refine g_istore_n (L' := [(1, .int 0), (0, .ref (ρ 75))]) h hn t_X11_starves_1 rfl (by decide) rfl ?_
  refine g_iconst (v := 0) h t_X11_starves_2 (by decide) ?_
  refine g_istore_n (L' := [(2, .int 0), (1, .int 0), (0, .ref (ρ 75))]) h hn t_X11_starves_3 rfl (by decide) rfl ?_
  refine g_loc (L' := [(0, .ref (ρ 75)), (1, .int 0), (2, .int 0)]) h [2, 1, 0] rfl ?_
  refine Q_X11_starves_4 hρ hn h hR  ?_ _ _ _ _ hD
  · intro x15 w16 hD
    unfold J_X11_starves_x49_2 at hD
    refine g_aload_n h 0 t_X11_starves_49 rfl ?_
    refine g_getR h 75 7 82 fl_11_47 rfl (by decide) rfl t_X11_starves_50 ?_
    refine g_iload_n h 1 t_X11_starves_53 rfl ?_
    refine g_i2l h t_X11_starves_54 ?_
    refine g_callVV h 82 (As := [.long x15.toInt64]) (st := []) my_X3_tell mi_X3_tell ml_11_292 rfl (by decide) rfl rfl rfl (Nat.le_of_ble_eq_true rfl) (by decide) t_X11_starves_55 hD (fun _ e => S_X3_tell hρ  e) (fun w17 hD => ?_)
    refine g_iload_n h 1 t_X11_starves_58 rfl ?_
    refine g_callSI h (As := [.int x15]) (st := []) my_J6_bitCount_0f7a4 ms_J6_bitCount_0f7a4 ml_11_168 rfl rfl (Nat.le_of_ble_eq_true rfl) (by decide) t_X11_starves_59 hD (fun _ _ e => S_J6_bitCount_0f7a4 hρ  e) (fun x19 w18 hD => ?_)
    obtain rfl := Option.some.inj hD
    exact hR _ _ t_X11_starves_62 rfl
def D_X11_looks (p1 : Int32) : Wd → Option (Int32 × Wd) := fun w =>
  if p1 < 0 then (some ((-1), w)) else (if p1 ≤ 4 then (bc (D_X10_duel 0 p1 (w.1 75 18) w) fun x2 w1 => bv (D_X10_tellDuel w1) fun w3 => some (300 + x2, w3)) else (some ((-1), w)))
set_option maxRecDepth 20000 in
theorem S_X11_looks {l0 : Launch} {ρ : Nat → Nat} {cs : Nat → ClassId} {G : va_G} (hρ : injN ρ) {p1 : Int32} {w : Wd} {rr : (Int32 × Wd)} (hD : D_X11_looks p1 w = some rr) : CtI l0 ρ cs G y_X11_looks prog_1_method_35_code 3 .int 85 [.ref (ρ 75), .int p1] w rr.1 rr.2 := by
  refine ctI_of hρ (by decide) (Nat.le_of_ble_eq_true rfl) (fun X hn h hR => ?_)
  unfold D_X11_looks at hD
  show gG ρ cs G X 0 [(0, .ref (ρ 75)), (1, .int p1)] [] w
  refine g_iload_n h 1 t_X11_looks_0 rfl ?_
  refine g_if_lt (tgt := 9) h t_X11_looks_1 (by decide) hD (fun hD => ?_) (fun hD => ?_)
  · refine g_iconst (v := (-1)) h t_X11_looks_9 (by decide) ?_
    obtain rfl := Option.some.inj hD
    exact hR _ _ t_X11_looks_10 rfl
  · refine g_iload_n h 1 t_X11_looks_4 rfl ?_
    refine g_iconst (v := 4) h t_X11_looks_5 (by decide) ?_
    refine g_icmp_le (tgt := 11) h t_X11_looks_6 (by decide) hD (fun hD => ?_) (fun hD => ?_)
    · refine g_aload_n h 0 t_X11_looks_11 rfl ?_
      refine g_getR h 75 10 87 fl_11_68 rfl (by decide) rfl t_X11_looks_12 ?_
      refine g_aload_n h 0 t_X11_looks_15 rfl ?_
      refine g_getR h 75 0 0 fl_11_10 rfl (by decide) rfl t_X11_looks_16 ?_
      refine g_iload_n h 1 t_X11_looks_19 rfl ?_
      refine g_aload_n h 0 t_X11_looks_20 rfl ?_
      refine g_getI h 75 18 fl_11_112 rfl (by decide) rfl t_X11_looks_21 ?_
      refine g_callVI h 87 (As := [.ref (ρ 0), .int p1, .int (w.1 75 18)]) (st := []) my_X10_duel mi_X10_duel ml_11_329 rfl (by decide) rfl rfl rfl (Nat.le_of_ble_eq_true rfl) (by decide) t_X11_looks_24 hD (fun _ _ e => S_X10_duel hρ (by decide) e) (fun x2 w1 hD => ?_)
      refine g_istore_n (L' := [(2, .int x2), (0, .ref (ρ 75)), (1, .int p1)]) h hn t_X11_looks_27 rfl (by decide) rfl ?_
      refine g_aload_n h 1 t_X11_looks_28 rfl ?_
      refine g_getR h 75 10 87 fl_11_68 rfl (by decide) rfl t_X11_looks_29 ?_
      refine g_aload_n h 1 t_X11_looks_32 rfl ?_
      refine g_getR h 75 7 82 fl_11_47 rfl (by decide) rfl t_X11_looks_33 ?_
      refine g_callVV h 87 (As := [.ref (ρ 82)]) (st := []) my_X10_tellDuel mi_X10_tellDuel ml_11_333 rfl (by decide) rfl rfl rfl (Nat.le_of_ble_eq_true rfl) (by decide) t_X11_looks_36 hD (fun _ e => S_X10_tellDuel hρ  e) (fun w3 hD => ?_)
      refine g_sipush (v := 300) h t_X11_looks_39 (by decide) ?_
      refine g_iload_n h 0 t_X11_looks_42 rfl ?_
      refine g_iadd h t_X11_looks_43 ?_
      obtain rfl := Option.some.inj hD
      exact hR _ _ t_X11_looks_44 rfl
    · refine g_iconst (v := (-1)) h t_X11_looks_9 (by decide) ?_
      obtain rfl := Option.some.inj hD
      exact hR _ _ t_X11_looks_10 rfl
def J_X11_ways_j100_1 (x10 : Int32) (k15 : Int32 → Wd → Option (Int32 × Wd)) : Wd → Option (Int32 × Wd) := fun w21 =>
  bd (x10 + 1) fun x23 => k15 x23 w21
def J_X11_ways_j103_2 (r51 : Int32 → Int32 → Wd → Option (Int32 × Wd)) (k7 : Int32 → Wd → Option (Int32 × Wd)) (x11 : Int32) : Int32 → Wd → Option (Int32 × Wd) := fun x13 w14 =>
  bc (D_X10_step w14) fun x17 w16 => if x17 = 0 then (k7 x13 w16) else (bd (x11 + 1) fun x18 => r51 x13 x18 w16)
def L_X11_ways_51 (x5 : Int32) (x6 : Int32) (k7 : Int32 → Wd → Option (Int32 × Wd)) (k8 : Int32 → Wd → Option (Int32 × Wd)) : Nat → Int32 → Int32 → Wd → Option (Int32 × Wd)
  | 0, _, _, _ => none
  | n9 + 1, x10, x11, w12 =>
    if 1000000 ≤ x11 then (k8 x10 w12) else (bd (J_X11_ways_j103_2 (L_X11_ways_51 x5 x6 k7 k8 n9) k7 x11) fun k15 => if (w12.1 87 5) = x6 then (bc (D_X10_here w12) fun q20 w19 => if ib x5 12 then (if (w19.1 (q20 + 1) x5.toNatClampNeg) = 0 then (bd (J_X11_ways_j100_1 x10 k15) fun k22 => if x10 = 0 then (bv (D_X10_tellPath w19) fun w24 => k22 w24) else (k22 w19)) else (k15 x10 w19)) else none) else (k15 x10 w12))
def J_X11_ways_x113_3  : Int32 → Wd → Option (Int32 × Wd) := fun x25 w26 =>
  some (x25, w26)
def J_X11_ways_x122_4  : Int32 → Wd → Option (Int32 × Wd) := fun x27 w28 =>
  some (x27, w28)
def D_X11_ways (p1 : Int32) (p2 : Int32) : Wd → Option (Int32 × Wd) := fun w =>
  bc (D_X5_hasPit 0 p1 w) fun x2 w1 => if x2 = 0 then (some ((-1), w1)) else (if p2 < 0 then (some ((-1), w1)) else (if p2 ≤ 4 then (bv (D_X3_clear w1) fun w3 => bv (D_X10_start 0 p2 0 (w3.1 75 18) w3) fun w4 => L_X11_ways_51 p1 p2 J_X11_ways_x113_3 J_X11_ways_x122_4 FU 0 0 w4) else (some ((-1), w1))))
set_option maxRecDepth 20000 in
theorem Q_X11_ways_51 {l0 : Launch} {ρ : Nat → Nat} {cs : Nat → ClassId} {G : va_G} {X : Cx} (hρ : injN ρ) (hn : X.2.2.2.2.2.2.2.2.2.2.1 = 5) (h : Okx l0 ρ cs G X prog_1_method_36_code "SowingBoards" 5) {rr : (Int32 × Wd)} (hR : ∀ pc L, decode prog_1_method_36_code pc = .ok (.ireturn, 1) → narrow .int (.int rr.1) = .int rr.1 → gG ρ cs G X pc L [.int rr.1] rr.2) {x5 : Int32} {x6 : Int32} {k7 : Int32 → Wd → Option (Int32 × Wd)} (hk7 : ∀ (z3 : Int32) (w1 : Wd), k7 z3 w1 = some rr → gG ρ cs G X 113 [(3, .int z3)] [] w1) {k8 : Int32 → Wd → Option (Int32 × Wd)} (hk8 : ∀ (z3 : Int32) (w1 : Wd), k8 z3 w1 = some rr → gG ρ cs G X 122 [(3, .int z3)] [] w1) : ∀ (n : Nat) (x10 : Int32) (x11 : Int32) (w : Wd), L_X11_ways_51 x5 x6 k7 k8 n x10 x11 w = some rr → gG ρ cs G X 51 [(0, .ref (ρ 75)), (1, .int x5), (2, .int x6), (3, .int x10), (4, .int x11)] [] w := by
  intro n
  induction n with
  | zero =>
    intro x10 x11 w hD
    cases hD
  | succ n9 ih =>
    intro x10 x11 w12 hD
    unfold L_X11_ways_51 at hD
    refine g_iload h 4 t_X11_ways_51 rfl ?_
    refine g_ldcw (v := 1000000) h t_X11_ways_53 cc_11_306 ?_
    refine g_icmp_ge (tgt := 122) h t_X11_ways_56 (by decide) hD (fun hD => ?_) (fun hD => ?_)
    · refine g_loc (L' := [(3, .int x10)]) h [3] rfl ?_
      exact hk8 x10 _ hD
    · refine g_aload_n h 0 t_X11_ways_59 rfl ?_
      refine g_getR h 75 10 87 fl_11_68 rfl (by decide) rfl t_X11_ways_60 ?_
      refine g_getI h 87 5 fl_11_318 rfl (by decide) rfl t_X11_ways_63 ?_
      refine g_iload_n h 2 t_X11_ways_66 rfl ?_
      refine g_join (P := fun k15 => ∀ (x13 : Int32) (w14 : Wd), k15 x13 w14 = some rr → gG ρ cs G X 103 [(0, .ref (ρ 75)), (1, .int x5), (2, .int x6), (3, .int x13), (4, .int x11)] [] w14) hD ?_ (fun k15 hk15 hD => ?_)
      · intro x13 w14 hD
        unfold J_X11_ways_j103_2 at hD
        refine g_aload_n h 0 t_X11_ways_103 rfl ?_
        refine g_getR h 75 10 87 fl_11_68 rfl (by decide) rfl t_X11_ways_104 ?_
        refine g_callVI h 87 (As := []) (st := []) my_X10_step mi_X10_step ml_11_307 rfl (by decide) rfl rfl rfl (Nat.le_of_ble_eq_true rfl) (by decide) t_X11_ways_107 hD (fun _ _ e => S_X10_step hρ  e) (fun x17 w16 hD => ?_)
        refine g_if_ne (tgt := 116) h t_X11_ways_110 (by decide) hD (fun hD => ?_) (fun hD => ?_)
        · obtain ⟨x18, ex18, hD⟩ := bd_ex hD
          refine g_iinc (v := x18) (L' := [(4, .int x18), (0, .ref (ρ 75)), (1, .int x5), (2, .int x6), (3, .int x13)]) h hn t_X11_ways_116 (k := 4) rfl (by rw [ex18]; rfl) (by decide) rfl ?_
          refine g_goto (tgt := 51) h t_X11_ways_119 (by decide) ?_
          refine g_loc (L' := [(0, .ref (ρ 75)), (1, .int x5), (2, .int x6), (3, .int x13), (4, .int x18)]) h [1, 2, 3, 4, 0] rfl ?_
          exact ih x13 x18 _ hD
        · refine g_loc (L' := [(3, .int x13)]) h [3] rfl ?_
          exact hk7 x13 _ hD
      · refine g_icmp_ne (tgt := 103) h t_X11_ways_67 (by decide) hD (fun hD => ?_) (fun hD => ?_)
        · refine g_loc (L' := [(0, .ref (ρ 75)), (1, .int x5), (2, .int x6), (3, .int x10), (4, .int x11)]) h [0, 1, 2, 3, 4] rfl ?_
          exact hk15 x10 _ hD
        · refine g_aload_n h 0 t_X11_ways_70 rfl ?_
          refine g_getR h 75 10 87 fl_11_68 rfl (by decide) rfl t_X11_ways_71 ?_
          refine g_callVR h 87 (As := []) (st := []) my_X10_here mi_X10_here ml_11_310 rfl (by decide) rfl rfl rfl (Nat.le_of_ble_eq_true rfl) (by decide) t_X11_ways_74 hD (fun _ _ e => S_X10_here hρ  e) (fun q20 w19 eq20 hD => ?_)
          have hq20 : isPos q20 := pos_X10_here eq20
          refine g_getQ h q20 0 (q20 + 1) 1 (by decide) rfl fl_11_120 (isPos_sh hq20) (isPos_lt hq20) rfl t_X11_ways_77 ?_
          refine g_iload_n h 1 t_X11_ways_80 rfl ?_
          refine g_iald h (q20 + 1) (isPos_s1 hq20) (isPos_l1 hq20) t_X11_ways_81 hD (fun hD => ?_)
          refine g_if_ne (tgt := 103) h t_X11_ways_82 (by decide) hD (fun hD => ?_) (fun hD => ?_)
          · refine g_loc (L' := [(0, .ref (ρ 75)), (1, .int x5), (2, .int x6), (3, .int x10), (4, .int x11)]) h [0, 1, 2, 3, 4] rfl ?_
            exact hk15 x10 _ hD
          · refine g_iload_n h 3 t_X11_ways_85 rfl ?_
            refine g_join (P := fun k22 => ∀ (w21 : Wd), k22 w21 = some rr → gG ρ cs G X 100 [(0, .ref (ρ 75)), (1, .int x5), (2, .int x6), (3, .int x10), (4, .int x11)] [] w21) hD ?_ (fun k22 hk22 hD => ?_)
            · intro w21 hD
              unfold J_X11_ways_j100_1 at hD
              obtain ⟨x23, ex23, hD⟩ := bd_ex hD
              refine g_iinc (v := x23) (L' := [(3, .int x23), (0, .ref (ρ 75)), (1, .int x5), (2, .int x6), (4, .int x11)]) h hn t_X11_ways_100 (k := 3) rfl (by rw [ex23]; rfl) (by decide) rfl ?_
              refine g_loc (L' := [(0, .ref (ρ 75)), (1, .int x5), (2, .int x6), (3, .int x23), (4, .int x11)]) h [1, 2, 3, 0, 4] rfl ?_
              exact hk15 x23 _ hD
            · refine g_if_ne (tgt := 100) h t_X11_ways_86 (by decide) hD (fun hD => ?_) (fun hD => ?_)
              · refine g_loc (L' := [(0, .ref (ρ 75)), (1, .int x5), (2, .int x6), (3, .int x10), (4, .int x11)]) h [0, 1, 2, 3, 4] rfl ?_
                exact hk22 _ hD
              · refine g_aload_n h 0 t_X11_ways_89 rfl ?_
                refine g_getR h 75 10 87 fl_11_68 rfl (by decide) rfl t_X11_ways_90 ?_
                refine g_aload_n h 0 t_X11_ways_93 rfl ?_
                refine g_getR h 75 7 82 fl_11_47 rfl (by decide) rfl t_X11_ways_94 ?_
                refine g_callVV h 87 (As := [.ref (ρ 82)]) (st := []) my_X10_tellPath mi_X10_tellPath ml_11_314 rfl (by decide) rfl rfl rfl (Nat.le_of_ble_eq_true rfl) (by decide) t_X11_ways_97 hD (fun _ e => S_X10_tellPath hρ  e) (fun w24 hD => ?_)
                refine g_loc (L' := [(0, .ref (ρ 75)), (1, .int x5), (2, .int x6), (3, .int x10), (4, .int x11)]) h [0, 1, 2, 3, 4] rfl ?_
                exact hk22 _ hD
set_option maxRecDepth 20000 in
theorem S_X11_ways {l0 : Launch} {ρ : Nat → Nat} {cs : Nat → ClassId} {G : va_G} (hρ : injN ρ) {p1 : Int32} {p2 : Int32} {w : Wd} {rr : (Int32 × Wd)} (hD : D_X11_ways p1 p2 w = some rr) : CtI l0 ρ cs G y_X11_ways prog_1_method_36_code 5 .int 5 [.ref (ρ 75), .int p1, .int p2] w rr.1 rr.2 := by
  refine ctI_of hρ (by decide) (Nat.le_of_ble_eq_true rfl) (fun X hn h hR => ?_)
  unfold D_X11_ways at hD
  show gG ρ cs G X 0 [(0, .ref (ρ 75)), (1, .int p1), (2, .int p2)] [] w
  refine g_aload_n h 0 t_X11_ways_0 rfl ?_
  refine g_getR h 75 0 0 fl_11_10 rfl (by decide) rfl t_X11_ways_1 ?_
  refine g_iload_n h 1 t_X11_ways_4 rfl ?_
  refine g_callVI h 0 (As := [.int p1]) (st := []) my_X5_hasPit mi_X5_hasPit ml_11_194 rfl (by decide) rfl rfl rfl (Nat.le_of_ble_eq_true rfl) (by decide) t_X11_ways_5 hD (fun _ _ e => S_X5_hasPit hρ (by decide) e) (fun x2 w1 hD => ?_)
  refine g_if_eq (tgt := 20) h t_X11_ways_8 (by decide) hD (fun hD => ?_) (fun hD => ?_)
  · refine g_iconst (v := (-1)) h t_X11_ways_20 (by decide) ?_
    obtain rfl := Option.some.inj hD
    exact hR _ _ t_X11_ways_21 rfl
  · refine g_iload_n h 2 t_X11_ways_11 rfl ?_
    refine g_if_lt (tgt := 20) h t_X11_ways_12 (by decide) hD (fun hD => ?_) (fun hD => ?_)
    · refine g_iconst (v := (-1)) h t_X11_ways_20 (by decide) ?_
      obtain rfl := Option.some.inj hD
      exact hR _ _ t_X11_ways_21 rfl
    · refine g_iload_n h 2 t_X11_ways_15 rfl ?_
      refine g_iconst (v := 4) h t_X11_ways_16 (by decide) ?_
      refine g_icmp_le (tgt := 22) h t_X11_ways_17 (by decide) hD (fun hD => ?_) (fun hD => ?_)
      · refine g_iconst (v := 0) h t_X11_ways_22 (by decide) ?_
        refine g_istore_n (L' := [(3, .int 0), (0, .ref (ρ 75)), (1, .int p1), (2, .int p2)]) h hn t_X11_ways_23 rfl (by decide) rfl ?_
        refine g_aload_n h 1 t_X11_ways_24 rfl ?_
        refine g_getR h 75 7 82 fl_11_47 rfl (by decide) rfl t_X11_ways_25 ?_
        refine g_callVV h 82 (As := []) (st := []) my_X3_clear mi_X3_clear ml_11_321 rfl (by decide) rfl rfl rfl (Nat.le_of_ble_eq_true rfl) (by decide) t_X11_ways_28 hD (fun _ e => S_X3_clear hρ  e) (fun w3 hD => ?_)
        refine g_aload_n h 1 t_X11_ways_31 rfl ?_
        refine g_getR h 75 10 87 fl_11_68 rfl (by decide) rfl t_X11_ways_32 ?_
        refine g_aload_n h 1 t_X11_ways_35 rfl ?_
        refine g_getR h 75 0 0 fl_11_10 rfl (by decide) rfl t_X11_ways_36 ?_
        refine g_iload_n h 3 t_X11_ways_39 rfl ?_
        refine g_iconst (v := 0) h t_X11_ways_40 (by decide) ?_
        refine g_aload_n h 1 t_X11_ways_41 rfl ?_
        refine g_getI h 75 18 fl_11_112 rfl (by decide) rfl t_X11_ways_42 ?_
        refine g_callVV h 87 (As := [.ref (ρ 0), .int p2, .int 0, .int (w3.1 75 18)]) (st := []) my_X10_start mi_X10_start ml_11_302 rfl (by decide) rfl rfl rfl (Nat.le_of_ble_eq_true rfl) (by decide) t_X11_ways_45 hD (fun _ e => S_X10_start hρ (by decide) e) (fun w4 hD => ?_)
        refine g_iconst (v := 0) h t_X11_ways_48 (by decide) ?_
        refine g_istore (L' := [(4, .int 0), (3, .int 0), (0, .ref (ρ 75)), (1, .int p1), (2, .int p2)]) h hn t_X11_ways_49 (by decide) rfl ?_
        refine g_loc (L' := [(0, .ref (ρ 75)), (1, .int p1), (2, .int p2), (3, .int 0), (4, .int 0)]) h [2, 3, 4, 1, 0] rfl ?_
        refine Q_X11_ways_51 hρ hn h hR  ?_ ?_ _ _ _ _ hD
        · intro x25 w26 hD
          unfold J_X11_ways_x113_3 at hD
          refine g_goto (tgt := 122) h t_X11_ways_113 (by decide) ?_
          refine g_iload_n h 0 t_X11_ways_122 rfl ?_
          obtain rfl := Option.some.inj hD
          exact hR _ _ t_X11_ways_123 rfl
        · intro x27 w28 hD
          unfold J_X11_ways_x122_4 at hD
          refine g_iload_n h 0 t_X11_ways_122 rfl ?_
          obtain rfl := Option.some.inj hD
          exact hR _ _ t_X11_ways_123 rfl
      · refine g_iconst (v := (-1)) h t_X11_ways_20 (by decide) ?_
        obtain rfl := Option.some.inj hD
        exact hR _ _ t_X11_ways_21 rfl
def J_X11_reach_j102_1 (x8 : Int32) (x20 : Int32) (k14 : Int32 → Int32 → Wd → Option (Int32 × Wd)) : Int32 → Wd → Option (Int32 × Wd) := fun x21 w22 =>
  bd (imax x8 x20) fun x24 => bc (D_X10_here w22) fun q26 w25 => bv (D_X8_putNew q26 w25) fun w27 => k14 x21 x24 w27
def J_X11_reach_j124_2 (r42 : Int32 → Int32 → Int32 → Wd → Option (Int32 × Wd)) (k4 : Int32 → Int32 → Wd → Option (Int32 × Wd)) (x9 : Int32) : Int32 → Int32 → Wd → Option (Int32 × Wd) := fun x11 x12 w13 =>
  bc (D_X10_step w13) fun x16 w15 => if x16 = 0 then (k4 x11 x12 w15) else (bd (x9 + 1) fun x17 => r42 x11 x12 x17 w15)
def L_X11_reach_42 (x3 : Int32) (k4 : Int32 → Int32 → Wd → Option (Int32 × Wd)) (k5 : Int32 → Int32 → Wd → Option (Int32 × Wd)) : Nat → Int32 → Int32 → Int32 → Wd → Option (Int32 × Wd)
  | 0, _, _, _, _ => none
  | n6 + 1, x7, x8, x9, w10 =>
    if 1000000 ≤ x9 then (k5 x7 x8 w10) else (bd (J_X11_reach_j124_2 (L_X11_reach_42 x3 k4 k5 n6) k4 x9) fun k14 => if (w10.1 87 5) = x3 then (bc (D_X10_here w10) fun q19 w18 => if ib (w18.1 0 3) 2 then (bd (w18.1 (q19 + 2) (w18.1 0 3).toNatClampNeg) fun x20 => bd (J_X11_reach_j102_1 x8 x20 k14) fun k23 => if (w18.1 98 1) = 0 then (k23 x20 w18) else (k23 (imin x7 x20) w18)) else none) else (k14 x7 x8 w10))
def J_X11_reach_x134_3  : Int32 → Int32 → Wd → Option (Int32 × Wd) := fun x28 x29 w30 =>
  bv (D_X3_clear w30) fun w31 => if (w31.1 98 1) ≤ 0 then (some (w31.1 98 1, w31)) else (bv (D_X3_tell_ x28.toInt64 x29.toInt64 w31) fun w32 => some (w32.1 98 1, w32))
def J_X11_reach_x143_4  : Int32 → Int32 → Wd → Option (Int32 × Wd) := fun x33 x34 w35 =>
  bv (D_X3_clear w35) fun w36 => if (w36.1 98 1) ≤ 0 then (some (w36.1 98 1, w36)) else (bv (D_X3_tell_ x33.toInt64 x34.toInt64 w36) fun w37 => some (w37.1 98 1, w37))
def D_X11_reach (p1 : Int32) : Wd → Option (Int32 × Wd) := fun w =>
  if p1 < 0 then (some ((-1), w)) else (if p1 ≤ 3 then (bv (D_X8_clear w) fun w1 => bv (D_X10_start 0 p1 0 (w1.1 75 18) w1) fun w2 => L_X11_reach_42 p1 J_X11_reach_x134_3 J_X11_reach_x143_4 FU 0 0 0 w2) else (some ((-1), w)))
set_option maxRecDepth 20000 in
theorem Q_X11_reach_42 {l0 : Launch} {ρ : Nat → Nat} {cs : Nat → ClassId} {G : va_G} {X : Cx} (hρ : injN ρ) (hn : X.2.2.2.2.2.2.2.2.2.2.1 = 6) (h : Okx l0 ρ cs G X prog_1_method_37_code "SowingBoards" 5) {rr : (Int32 × Wd)} (hR : ∀ pc L, decode prog_1_method_37_code pc = .ok (.ireturn, 1) → narrow .int (.int rr.1) = .int rr.1 → gG ρ cs G X pc L [.int rr.1] rr.2) {x3 : Int32} {k4 : Int32 → Int32 → Wd → Option (Int32 × Wd)} (hk4 : ∀ (z2 : Int32) (z3 : Int32) (w1 : Wd), k4 z2 z3 w1 = some rr → gG ρ cs G X 134 [(0, .ref (ρ 75)), (2, .int z2), (3, .int z3)] [] w1) {k5 : Int32 → Int32 → Wd → Option (Int32 × Wd)} (hk5 : ∀ (z2 : Int32) (z3 : Int32) (w1 : Wd), k5 z2 z3 w1 = some rr → gG ρ cs G X 143 [(0, .ref (ρ 75)), (2, .int z2), (3, .int z3)] [] w1) : ∀ (n : Nat) (x7 : Int32) (x8 : Int32) (x9 : Int32) (w : Wd), L_X11_reach_42 x3 k4 k5 n x7 x8 x9 w = some rr → gG ρ cs G X 42 [(0, .ref (ρ 75)), (1, .int x3), (2, .int x7), (3, .int x8), (4, .int x9)] [] w := by
  intro n
  induction n with
  | zero =>
    intro x7 x8 x9 w hD
    cases hD
  | succ n6 ih =>
    intro x7 x8 x9 w10 hD
    unfold L_X11_reach_42 at hD
    refine g_iload h 4 t_X11_reach_42 rfl ?_
    refine g_ldcw (v := 1000000) h t_X11_reach_44 cc_11_306 ?_
    refine g_icmp_ge (tgt := 143) h t_X11_reach_47 (by decide) hD (fun hD => ?_) (fun hD => ?_)
    · refine g_loc (L' := [(0, .ref (ρ 75)), (2, .int x7), (3, .int x8)]) h [0, 2, 3] rfl ?_
      exact hk5 x7 x8 _ hD
    · refine g_aload_n h 0 t_X11_reach_50 rfl ?_
      refine g_getR h 75 10 87 fl_11_68 rfl (by decide) rfl t_X11_reach_51 ?_
      refine g_getI h 87 5 fl_11_318 rfl (by decide) rfl t_X11_reach_54 ?_
      refine g_iload_n h 1 t_X11_reach_57 rfl ?_
      refine g_join (P := fun k14 => ∀ (x11 : Int32) (x12 : Int32) (w13 : Wd), k14 x11 x12 w13 = some rr → gG ρ cs G X 124 [(0, .ref (ρ 75)), (1, .int x3), (2, .int x11), (3, .int x12), (4, .int x9)] [] w13) hD ?_ (fun k14 hk14 hD => ?_)
      · intro x11 x12 w13 hD
        unfold J_X11_reach_j124_2 at hD
        refine g_aload_n h 0 t_X11_reach_124 rfl ?_
        refine g_getR h 75 10 87 fl_11_68 rfl (by decide) rfl t_X11_reach_125 ?_
        refine g_callVI h 87 (As := []) (st := []) my_X10_step mi_X10_step ml_11_307 rfl (by decide) rfl rfl rfl (Nat.le_of_ble_eq_true rfl) (by decide) t_X11_reach_128 hD (fun _ _ e => S_X10_step hρ  e) (fun x16 w15 hD => ?_)
        refine g_if_ne (tgt := 137) h t_X11_reach_131 (by decide) hD (fun hD => ?_) (fun hD => ?_)
        · obtain ⟨x17, ex17, hD⟩ := bd_ex hD
          refine g_iinc (v := x17) (L' := [(4, .int x17), (0, .ref (ρ 75)), (1, .int x3), (2, .int x11), (3, .int x12)]) h hn t_X11_reach_137 (k := 4) rfl (by rw [ex17]; rfl) (by decide) rfl ?_
          refine g_goto (tgt := 42) h t_X11_reach_140 (by decide) ?_
          refine g_loc (L' := [(0, .ref (ρ 75)), (1, .int x3), (2, .int x11), (3, .int x12), (4, .int x17)]) h [1, 2, 3, 4, 0] rfl ?_
          exact ih x11 x12 x17 _ hD
        · refine g_loc (L' := [(0, .ref (ρ 75)), (2, .int x11), (3, .int x12)]) h [0, 2, 3] rfl ?_
          exact hk4 x11 x12 _ hD
      · refine g_icmp_ne (tgt := 124) h t_X11_reach_58 (by decide) hD (fun hD => ?_) (fun hD => ?_)
        · refine g_loc (L' := [(0, .ref (ρ 75)), (1, .int x3), (2, .int x7), (3, .int x8), (4, .int x9)]) h [0, 1, 2, 3, 4] rfl ?_
          exact hk14 x7 x8 _ hD
        · refine g_aload_n h 0 t_X11_reach_61 rfl ?_
          refine g_getR h 75 10 87 fl_11_68 rfl (by decide) rfl t_X11_reach_62 ?_
          refine g_callVR h 87 (As := []) (st := []) my_X10_here mi_X10_here ml_11_310 rfl (by decide) rfl rfl rfl (Nat.le_of_ble_eq_true rfl) (by decide) t_X11_reach_65 hD (fun _ _ e => S_X10_here hρ  e) (fun q19 w18 eq19 hD => ?_)
          have hq19 : isPos q19 := pos_X10_here eq19
          refine g_getQ h q19 1 (q19 + 2) 2 (by decide) rfl fl_11_155 (isPos_sh hq19) (isPos_lt hq19) rfl t_X11_reach_68 ?_
          refine g_aload_n h 0 t_X11_reach_71 rfl ?_
          refine g_getR h 75 0 0 fl_11_10 rfl (by decide) rfl t_X11_reach_72 ?_
          refine g_getI h 0 3 fl_11_158 rfl (by decide) rfl t_X11_reach_75 ?_
          refine g_iald h (q19 + 2) (isPos_s2 hq19) (isPos_l2 hq19) t_X11_reach_78 hD (fun hD => ?_)
          refine g_bdI hD (fun x20 hD => ?_)
          refine g_istore (L' := [(5, .int x20), (0, .ref (ρ 75)), (1, .int x3), (2, .int x7), (3, .int x8), (4, .int x9)]) h hn t_X11_reach_79 (by decide) rfl ?_
          refine g_aload_n h 1 t_X11_reach_81 rfl ?_
          refine g_getR h 75 11 98 fl_11_75 rfl (by decide) rfl t_X11_reach_82 ?_
          refine g_getI h 98 1 fl_11_337 rfl (by decide) rfl t_X11_reach_85 ?_
          refine g_join (P := fun k23 => ∀ (x21 : Int32) (w22 : Wd), k23 x21 w22 = some rr → gG ρ cs G X 102 [(0, .ref (ρ 75)), (1, .int x3), (3, .int x8), (4, .int x9), (5, .int x20)] [.int x21] w22) hD ?_ (fun k23 hk23 hD => ?_)
          · intro x21 w22 hD
            unfold J_X11_reach_j102_1 at hD
            refine g_istore_n (L' := [(2, .int x21), (0, .ref (ρ 75)), (1, .int x3), (3, .int x8), (4, .int x9), (5, .int x20)]) h hn t_X11_reach_102 rfl (by decide) rfl ?_
            refine g_iload_n h 3 t_X11_reach_103 rfl ?_
            refine g_iload h 5 t_X11_reach_104 rfl ?_
            refine g_mmax h (st := []) (vtb_at 751 (by decide +kernel) rfl) (Nat.le_of_ble_eq_true rfl) t_X11_reach_106 ?_
            refine g_bdI hD (fun x24 hD => ?_)
            refine g_istore_n (L' := [(3, .int x24), (2, .int x21), (0, .ref (ρ 75)), (1, .int x3), (4, .int x9), (5, .int x20)]) h hn t_X11_reach_109 rfl (by decide) rfl ?_
            refine g_aload_n h 2 t_X11_reach_110 rfl ?_
            refine g_getR h 75 11 98 fl_11_75 rfl (by decide) rfl t_X11_reach_111 ?_
            refine g_aload_n h 2 t_X11_reach_114 rfl ?_
            refine g_getR h 75 10 87 fl_11_68 rfl (by decide) rfl t_X11_reach_115 ?_
            refine g_callVR h 87 (As := []) (st := [.ref (ρ 98)]) my_X10_here mi_X10_here ml_11_310 rfl (by decide) rfl rfl rfl (Nat.le_of_ble_eq_true rfl) (by decide) t_X11_reach_118 hD (fun _ _ e => S_X10_here hρ  e) (fun q26 w25 eq26 hD => ?_)
            have hq26 : isPos q26 := pos_X10_here eq26
            refine g_callVV h 98 (As := [.ref (ρ q26)]) (st := []) my_X8_putNew mi_X8_putNew ml_11_338 rfl (by decide) rfl rfl rfl (Nat.le_of_ble_eq_true rfl) (by decide) t_X11_reach_121 hD (fun _ e => S_X8_putNew hρ hq26 e) (fun w27 hD => ?_)
            refine g_loc (L' := [(0, .ref (ρ 75)), (1, .int x3), (2, .int x21), (3, .int x24), (4, .int x9)]) h [2, 3, 1, 0, 4] rfl ?_
            exact hk14 x21 x24 _ hD
          · refine g_if_ne (tgt := 96) h t_X11_reach_88 (by decide) hD (fun hD => ?_) (fun hD => ?_)
            · refine g_iload_n h 3 t_X11_reach_96 rfl ?_
              refine g_iload h 0 t_X11_reach_97 rfl ?_
              refine g_mmin h (st := []) (vtb_at 750 (by decide +kernel) rfl) (Nat.le_of_ble_eq_true rfl) t_X11_reach_99 ?_
              refine g_loc (L' := [(0, .ref (ρ 75)), (1, .int x3), (3, .int x8), (4, .int x9), (5, .int x20)]) h [1, 2, 4, 5, 0] rfl ?_
              exact hk23 (imin x7 x20) _ hD
            · refine g_iload h 0 t_X11_reach_91 rfl ?_
              refine g_goto (tgt := 102) h t_X11_reach_93 (by decide) ?_
              refine g_loc (L' := [(0, .ref (ρ 75)), (1, .int x3), (3, .int x8), (4, .int x9), (5, .int x20)]) h [1, 2, 4, 5, 0] rfl ?_
              exact hk23 x20 _ hD
set_option maxRecDepth 20000 in
theorem S_X11_reach {l0 : Launch} {ρ : Nat → Nat} {cs : Nat → ClassId} {G : va_G} (hρ : injN ρ) {p1 : Int32} {w : Wd} {rr : (Int32 × Wd)} (hD : D_X11_reach p1 w = some rr) : CtI l0 ρ cs G y_X11_reach prog_1_method_37_code 6 .int 5 [.ref (ρ 75), .int p1] w rr.1 rr.2 := by
  refine ctI_of hρ (by decide) (Nat.le_of_ble_eq_true rfl) (fun X hn h hR => ?_)
  unfold D_X11_reach at hD
  show gG ρ cs G X 0 [(0, .ref (ρ 75)), (1, .int p1)] [] w
  refine g_iload_n h 1 t_X11_reach_0 rfl ?_
  refine g_if_lt (tgt := 9) h t_X11_reach_1 (by decide) hD (fun hD => ?_) (fun hD => ?_)
  · refine g_iconst (v := (-1)) h t_X11_reach_9 (by decide) ?_
    obtain rfl := Option.some.inj hD
    exact hR _ _ t_X11_reach_10 rfl
  · refine g_iload_n h 1 t_X11_reach_4 rfl ?_
    refine g_iconst (v := 3) h t_X11_reach_5 (by decide) ?_
    refine g_icmp_le (tgt := 11) h t_X11_reach_6 (by decide) hD (fun hD => ?_) (fun hD => ?_)
    · refine g_iconst (v := 0) h t_X11_reach_11 (by decide) ?_
      refine g_istore_n (L' := [(2, .int 0), (0, .ref (ρ 75)), (1, .int p1)]) h hn t_X11_reach_12 rfl (by decide) rfl ?_
      refine g_iconst (v := 0) h t_X11_reach_13 (by decide) ?_
      refine g_istore_n (L' := [(3, .int 0), (2, .int 0), (0, .ref (ρ 75)), (1, .int p1)]) h hn t_X11_reach_14 rfl (by decide) rfl ?_
      refine g_aload_n h 2 t_X11_reach_15 rfl ?_
      refine g_getR h 75 11 98 fl_11_75 rfl (by decide) rfl t_X11_reach_16 ?_
      refine g_callVV h 98 (As := []) (st := []) my_X8_clear mi_X8_clear ml_11_336 rfl (by decide) rfl rfl rfl (Nat.le_of_ble_eq_true rfl) (by decide) t_X11_reach_19 hD (fun _ e => S_X8_clear hρ  e) (fun w1 hD => ?_)
      refine g_aload_n h 2 t_X11_reach_22 rfl ?_
      refine g_getR h 75 10 87 fl_11_68 rfl (by decide) rfl t_X11_reach_23 ?_
      refine g_aload_n h 2 t_X11_reach_26 rfl ?_
      refine g_getR h 75 0 0 fl_11_10 rfl (by decide) rfl t_X11_reach_27 ?_
      refine g_iload_n h 3 t_X11_reach_30 rfl ?_
      refine g_iconst (v := 0) h t_X11_reach_31 (by decide) ?_
      refine g_aload_n h 2 t_X11_reach_32 rfl ?_
      refine g_getI h 75 18 fl_11_112 rfl (by decide) rfl t_X11_reach_33 ?_
      refine g_callVV h 87 (As := [.ref (ρ 0), .int p1, .int 0, .int (w1.1 75 18)]) (st := []) my_X10_start mi_X10_start ml_11_302 rfl (by decide) rfl rfl rfl (Nat.le_of_ble_eq_true rfl) (by decide) t_X11_reach_36 hD (fun _ e => S_X10_start hρ (by decide) e) (fun w2 hD => ?_)
      refine g_iconst (v := 0) h t_X11_reach_39 (by decide) ?_
      refine g_istore (L' := [(4, .int 0), (3, .int 0), (2, .int 0), (0, .ref (ρ 75)), (1, .int p1)]) h hn t_X11_reach_40 (by decide) rfl ?_
      refine g_loc (L' := [(0, .ref (ρ 75)), (1, .int p1), (2, .int 0), (3, .int 0), (4, .int 0)]) h [3, 4, 2, 1, 0] rfl ?_
      refine Q_X11_reach_42 hρ hn h hR  ?_ ?_ _ _ _ _ _ hD
      · intro x28 x29 w30 hD
        unfold J_X11_reach_x134_3 at hD
        refine g_goto (tgt := 143) h t_X11_reach_134 (by decide) ?_
        refine g_aload_n h 0 t_X11_reach_143 rfl ?_
        refine g_getR h 75 7 82 fl_11_47 rfl (by decide) rfl t_X11_reach_144 ?_
        refine g_callVV h 82 (As := []) (st := []) my_X3_clear mi_X3_clear ml_11_321 rfl (by decide) rfl rfl rfl (Nat.le_of_ble_eq_true rfl) (by decide) t_X11_reach_147 hD (fun _ e => S_X3_clear hρ  e) (fun w31 hD => ?_)
        refine g_aload_n h 0 t_X11_reach_150 rfl ?_
        refine g_getR h 75 11 98 fl_11_75 rfl (by decide) rfl t_X11_reach_151 ?_
        refine g_getI h 98 1 fl_11_337 rfl (by decide) rfl t_X11_reach_154 ?_
        refine g_if_le (tgt := 171) h t_X11_reach_157 (by decide) hD (fun hD => ?_) (fun hD => ?_)
        · refine g_aload_n h 0 t_X11_reach_171 rfl ?_
          refine g_getR h 75 11 98 fl_11_75 rfl (by decide) rfl t_X11_reach_172 ?_
          refine g_getI h 98 1 fl_11_337 rfl (by decide) rfl t_X11_reach_175 ?_
          obtain rfl := Option.some.inj hD
          exact hR _ _ t_X11_reach_178 rfl
        · refine g_aload_n h 0 t_X11_reach_160 rfl ?_
          refine g_getR h 75 7 82 fl_11_47 rfl (by decide) rfl t_X11_reach_161 ?_
          refine g_iload_n h 1 t_X11_reach_164 rfl ?_
          refine g_i2l h t_X11_reach_165 ?_
          refine g_iload_n h 2 t_X11_reach_166 rfl ?_
          refine g_i2l h t_X11_reach_167 ?_
          refine g_callVV h 82 (As := [.long x28.toInt64, .long x29.toInt64]) (st := []) my_X3_tell_ mi_X3_tell_ ml_11_253 rfl (by decide) rfl rfl rfl (Nat.le_of_ble_eq_true rfl) (by decide) t_X11_reach_168 hD (fun _ e => S_X3_tell_ hρ  e) (fun w32 hD => ?_)
          refine g_aload_n h 0 t_X11_reach_171 rfl ?_
          refine g_getR h 75 11 98 fl_11_75 rfl (by decide) rfl t_X11_reach_172 ?_
          refine g_getI h 98 1 fl_11_337 rfl (by decide) rfl t_X11_reach_175 ?_
          obtain rfl := Option.some.inj hD
          exact hR _ _ t_X11_reach_178 rfl
      · intro x33 x34 w35 hD
        unfold J_X11_reach_x143_4 at hD
        refine g_aload_n h 0 t_X11_reach_143 rfl ?_
        refine g_getR h 75 7 82 fl_11_47 rfl (by decide) rfl t_X11_reach_144 ?_
        refine g_callVV h 82 (As := []) (st := []) my_X3_clear mi_X3_clear ml_11_321 rfl (by decide) rfl rfl rfl (Nat.le_of_ble_eq_true rfl) (by decide) t_X11_reach_147 hD (fun _ e => S_X3_clear hρ  e) (fun w36 hD => ?_)
        refine g_aload_n h 0 t_X11_reach_150 rfl ?_
        refine g_getR h 75 11 98 fl_11_75 rfl (by decide) rfl t_X11_reach_151 ?_
        refine g_getI h 98 1 fl_11_337 rfl (by decide) rfl t_X11_reach_154 ?_
        refine g_if_le (tgt := 171) h t_X11_reach_157 (by decide) hD (fun hD => ?_) (fun hD => ?_)
        · refine g_aload_n h 0 t_X11_reach_171 rfl ?_
          refine g_getR h 75 11 98 fl_11_75 rfl (by decide) rfl t_X11_reach_172 ?_
          refine g_getI h 98 1 fl_11_337 rfl (by decide) rfl t_X11_reach_175 ?_
          obtain rfl := Option.some.inj hD
          exact hR _ _ t_X11_reach_178 rfl
        · refine g_aload_n h 0 t_X11_reach_160 rfl ?_
          refine g_getR h 75 7 82 fl_11_47 rfl (by decide) rfl t_X11_reach_161 ?_
          refine g_iload_n h 1 t_X11_reach_164 rfl ?_
          refine g_i2l h t_X11_reach_165 ?_
          refine g_iload_n h 2 t_X11_reach_166 rfl ?_
          refine g_i2l h t_X11_reach_167 ?_
          refine g_callVV h 82 (As := [.long x33.toInt64, .long x34.toInt64]) (st := []) my_X3_tell_ mi_X3_tell_ ml_11_253 rfl (by decide) rfl rfl rfl (Nat.le_of_ble_eq_true rfl) (by decide) t_X11_reach_168 hD (fun _ e => S_X3_tell_ hρ  e) (fun w37 hD => ?_)
          refine g_aload_n h 0 t_X11_reach_171 rfl ?_
          refine g_getR h 75 11 98 fl_11_75 rfl (by decide) rfl t_X11_reach_172 ?_
          refine g_getI h 98 1 fl_11_337 rfl (by decide) rfl t_X11_reach_175 ?_
          obtain rfl := Option.some.inj hD
          exact hR _ _ t_X11_reach_178 rfl
    · refine g_iconst (v := (-1)) h t_X11_reach_9 (by decide) ?_
      obtain rfl := Option.some.inj hD
      exact hR _ _ t_X11_reach_10 rfl
def L_X11_tellFraction_9 (x1 : Int64) (x2 : Int64) (k3 : Int64 → Wd → Option Wd) : Nat → Int64 → Int64 → Int32 → Wd → Option Wd
  | 0, _, _, _, _ => none
  | n4 + 1, x5, x6, x7, w8 =>
    if 200 ≤ x7 then (k3 x5 w8) else (if (lg_cmp x6 (0 : Int64)) = 0 then (k3 x5 w8) else (if ¬ (x6) = 0 then (bd (x5 - x5 / x6 * x6) fun x9 => bd (x7 + 1) fun x10 => L_X11_tellFraction_9 x1 x2 k3 n4 x6 x9 x10 w8) else none))
def J_X11_tellFraction_x45_1 (p1 : Int64) (p2 : Int64) : Int64 → Wd → Option Wd := fun x11 w12 =>
  if (lg_cmp x11 (0 : Int64)) = 0 then (some w12) else (if ¬ (x11) = 0 then (if ¬ (x11) = 0 then (bv (D_X3_tell_ (p1 / x11) (p2 / x11) w12) fun w13 => some w13) else none) else none)
def D_X11_tellFraction (p1 : Int64) (p2 : Int64) : Wd → Option Wd := fun w =>
  L_X11_tellFraction_9 p1 p2 (J_X11_tellFraction_x45_1 p1 p2) FU p2 p1 0 w
set_option maxRecDepth 20000 in
theorem Q_X11_tellFraction_9 {l0 : Launch} {ρ : Nat → Nat} {cs : Nat → ClassId} {G : va_G} {X : Cx} (hρ : injN ρ) (hn : X.2.2.2.2.2.2.2.2.2.2.1 = 12) (h : Okx l0 ρ cs G X prog_1_method_39_code "SowingBoards" 3) {rr : Wd} (hR : ∀ pc L, decode prog_1_method_39_code pc = .ok (.return_, 1) → gG ρ cs G X pc L [] rr) {x1 : Int64} {x2 : Int64} {k3 : Int64 → Wd → Option Wd} (hk3 : ∀ (z5 : Int64) (w1 : Wd), k3 z5 w1 = some rr → gG ρ cs G X 45 [(0, .ref (ρ 75)), (1, .long x1), (3, .long x2), (5, .long z5)] [] w1) : ∀ (n : Nat) (x5 : Int64) (x6 : Int64) (x7 : Int32) (w : Wd), L_X11_tellFraction_9 x1 x2 k3 n x5 x6 x7 w = some rr → gG ρ cs G X 9 [(0, .ref (ρ 75)), (1, .long x1), (3, .long x2), (5, .long x5), (7, .long x6), (9, .int x7)] [] w := by
  intro n
  induction n with
  | zero =>
    intro x5 x6 x7 w hD
    cases hD
  | succ n4 ih =>
    intro x5 x6 x7 w8 hD
    unfold L_X11_tellFraction_9 at hD
    refine g_iload h 5 t_X11_tellFraction_9 rfl ?_
    refine g_sipush (v := 200) h t_X11_tellFraction_11 (by decide) ?_
    refine g_icmp_ge (tgt := 45) h t_X11_tellFraction_14 (by decide) hD (fun hD => ?_) (fun hD => ?_)
    · refine g_loc (L' := [(0, .ref (ρ 75)), (1, .long x1), (3, .long x2), (5, .long x5)]) h [0, 1, 2, 3] rfl ?_
      exact hk3 x5 _ hD
    · refine g_lload h 4 t_X11_tellFraction_17 rfl ?_
      refine g_lconst (v := 0) h t_X11_tellFraction_19 (by decide) ?_
      refine g_lcmp h t_X11_tellFraction_20 ?_
      refine g_if_eq (tgt := 45) h t_X11_tellFraction_21 (by decide) hD (fun hD => ?_) (fun hD => ?_)
      · refine g_loc (L' := [(0, .ref (ρ 75)), (1, .long x1), (3, .long x2), (5, .long x5)]) h [0, 1, 2, 3] rfl ?_
        exact hk3 x5 _ hD
      · refine g_lload h 3 t_X11_tellFraction_24 rfl ?_
        refine g_lload h 4 t_X11_tellFraction_26 rfl ?_
        refine g_lrem h t_X11_tellFraction_28 hD (fun hD => ?_)
        refine g_bdJ hD (fun x9 hD => ?_)
        refine g_lstore (L' := [(10, .long x9), (0, .ref (ρ 75)), (1, .long x1), (3, .long x2), (5, .long x5), (7, .long x6), (9, .int x7)]) h hn t_X11_tellFraction_29 (by decide) rfl ?_
        refine g_lload h 5 t_X11_tellFraction_31 rfl ?_
        refine g_lstore (L' := [(5, .long x6), (10, .long x9), (0, .ref (ρ 75)), (1, .long x1), (3, .long x2), (7, .long x6), (9, .int x7)]) h hn t_X11_tellFraction_33 (by decide) rfl ?_
        refine g_lload h 1 t_X11_tellFraction_35 rfl ?_
        refine g_lstore (L' := [(7, .long x9), (5, .long x6), (10, .long x9), (0, .ref (ρ 75)), (1, .long x1), (3, .long x2), (9, .int x7)]) h hn t_X11_tellFraction_37 (by decide) rfl ?_
        obtain ⟨x10, ex10, hD⟩ := bd_ex hD
        refine g_iinc (v := x10) (L' := [(9, .int x10), (7, .long x9), (5, .long x6), (10, .long x9), (0, .ref (ρ 75)), (1, .long x1), (3, .long x2)]) h hn t_X11_tellFraction_39 (k := 6) rfl (by rw [ex10]; rfl) (by decide) rfl ?_
        refine g_goto (tgt := 9) h t_X11_tellFraction_42 (by decide) ?_
        refine g_loc (L' := [(0, .ref (ρ 75)), (1, .long x1), (3, .long x2), (5, .long x6), (7, .long x9), (9, .int x10)]) h [4, 5, 6, 2, 1, 0] rfl ?_
        exact ih x6 x9 x10 _ hD
set_option maxRecDepth 20000 in
theorem S_X11_tellFraction {l0 : Launch} {ρ : Nat → Nat} {cs : Nat → ClassId} {G : va_G} (hρ : injN ρ) {p1 : Int64} {p2 : Int64} {w : Wd} {rr : Wd} (hD : D_X11_tellFraction p1 p2 w = some rr) : CtV l0 ρ cs G y_X11_tellFraction prog_1_method_39_code 12 3 [.ref (ρ 75), .long p1, .long p2] w rr := by
  refine ctV_of hρ (by decide) (Nat.le_of_ble_eq_true rfl) (fun X hn h hR => ?_)
  unfold D_X11_tellFraction at hD
  show gG ρ cs G X 0 [(0, .ref (ρ 75)), (1, .long p1), (3, .long p2)] [] w
  refine g_lload_n h 2 t_X11_tellFraction_0 rfl ?_
  refine g_lstore (L' := [(5, .long p2), (0, .ref (ρ 75)), (1, .long p1), (3, .long p2)]) h hn t_X11_tellFraction_1 (by decide) rfl ?_
  refine g_lload_n h 2 t_X11_tellFraction_3 rfl ?_
  refine g_lstore (L' := [(7, .long p1), (5, .long p2), (0, .ref (ρ 75)), (1, .long p1), (3, .long p2)]) h hn t_X11_tellFraction_4 (by decide) rfl ?_
  refine g_iconst (v := 0) h t_X11_tellFraction_6 (by decide) ?_
  refine g_istore (L' := [(9, .int 0), (7, .long p1), (5, .long p2), (0, .ref (ρ 75)), (1, .long p1), (3, .long p2)]) h hn t_X11_tellFraction_7 (by decide) rfl ?_
  refine g_loc (L' := [(0, .ref (ρ 75)), (1, .long p1), (3, .long p2), (5, .long p2), (7, .long p1), (9, .int 0)]) h [3, 4, 5, 2, 1, 0] rfl ?_
  refine Q_X11_tellFraction_9 hρ hn h hR  ?_ _ _ _ _ _ hD
  · intro x11 w12 hD
    unfold J_X11_tellFraction_x45_1 at hD
    refine g_lload h 3 t_X11_tellFraction_45 rfl ?_
    refine g_lconst (v := 0) h t_X11_tellFraction_47 (by decide) ?_
    refine g_lcmp h t_X11_tellFraction_48 ?_
    refine g_if_eq (tgt := 67) h t_X11_tellFraction_49 (by decide) hD (fun hD => ?_) (fun hD => ?_)
    · obtain rfl := Option.some.inj hD
      exact hR _ _ t_X11_tellFraction_67
    · refine g_aload_n h 0 t_X11_tellFraction_52 rfl ?_
      refine g_getR h 75 7 82 fl_11_47 rfl (by decide) rfl t_X11_tellFraction_53 ?_
      refine g_lload_n h 1 t_X11_tellFraction_56 rfl ?_
      refine g_lload h 3 t_X11_tellFraction_57 rfl ?_
      refine g_ldiv h t_X11_tellFraction_59 hD (fun hD => ?_)
      refine g_lload_n h 2 t_X11_tellFraction_60 rfl ?_
      refine g_lload h 3 t_X11_tellFraction_61 rfl ?_
      refine g_ldiv h t_X11_tellFraction_63 hD (fun hD => ?_)
      refine g_callVV h 82 (As := [.long (p1 / x11), .long (p2 / x11)]) (st := []) my_X3_tell_ mi_X3_tell_ ml_11_253 rfl (by decide) rfl rfl rfl (Nat.le_of_ble_eq_true rfl) (by decide) t_X11_tellFraction_64 hD (fun _ e => S_X3_tell_ hρ  e) (fun w13 hD => ?_)
      obtain rfl := Option.some.inj hD
      exact hR _ _ t_X11_tellFraction_67
def J_X11_luck_j87_1 (r43 : Int64 → Int32 → Wd → Option (Int32 × Wd)) (k3 : Int64 → Wd → Option (Int32 × Wd)) (x7 : Int32) : Int64 → Wd → Option (Int32 × Wd) := fun x11 w12 =>
  bc (D_X10_step w12) fun x15 w14 => if x15 = 0 then (k3 x11 w14) else (bd (x7 + 1) fun x16 => r43 x11 x16 w14)
def L_X11_luck_43 (x2 : Int32) (k3 : Int64 → Wd → Option (Int32 × Wd)) (k4 : Int64 → Wd → Option (Int32 × Wd)) : Nat → Int64 → Int32 → Wd → Option (Int32 × Wd)
  | 0, _, _, _ => none
  | n5 + 1, x6, x7, w8 =>
    if 1000000 ≤ x7 then (k4 x6 w8) else (bc (D_X10_isAtEnd w8) fun x10 w9 => bd (J_X11_luck_j87_1 (L_X11_luck_43 x2 k3 k4 n5) k3 x7) fun k13 => if x10 = 0 then (k13 x6 w9) else (bc (D_X10_here w9) fun q18 w17 => if ib 0 2 then (if (w17.1 (q18 + 2) (0 : Int32).toNatClampNeg) < x2 then (k13 x6 w17) else (bc (D_X10_share w17) fun x20 w19 => bd (x6 + x20) fun x21 => k13 x21 w19)) else none))
def J_X11_luck_x97_2  : Int64 → Wd → Option (Int32 × Wd) := fun x22 w23 =>
  bv (D_X11_tellFraction x22 (12960000 : Int64) w23) fun w24 => some (0, w24)
def J_X11_luck_x106_3  : Int64 → Wd → Option (Int32 × Wd) := fun x25 w26 =>
  bv (D_X11_tellFraction x25 (12960000 : Int64) w26) fun w27 => some (0, w27)
def D_X11_luck (p1 : Int32) (p2 : Int32) : Wd → Option (Int32 × Wd) := fun w =>
  if p1 < 0 then (some ((-1), w)) else (if 4 < p1 then (some ((-1), w)) else (if p2 < 0 then (some ((-1), w)) else (if p2 ≤ 108 then (bv (D_X10_start 0 p1 0 (w.1 75 18) w) fun w1 => L_X11_luck_43 p2 J_X11_luck_x97_2 J_X11_luck_x106_3 FU (0 : Int64) 0 w1) else (some ((-1), w)))))
set_option maxRecDepth 20000 in
theorem Q_X11_luck_43 {l0 : Launch} {ρ : Nat → Nat} {cs : Nat → ClassId} {G : va_G} {X : Cx} (hρ : injN ρ) (hn : X.2.2.2.2.2.2.2.2.2.2.1 = 6) (h : Okx l0 ρ cs G X prog_1_method_38_code "SowingBoards" 5) {rr : (Int32 × Wd)} (hR : ∀ pc L, decode prog_1_method_38_code pc = .ok (.ireturn, 1) → narrow .int (.int rr.1) = .int rr.1 → gG ρ cs G X pc L [.int rr.1] rr.2) {x2 : Int32} {k3 : Int64 → Wd → Option (Int32 × Wd)} (hk3 : ∀ (z3 : Int64) (w1 : Wd), k3 z3 w1 = some rr → gG ρ cs G X 97 [(0, .ref (ρ 75)), (3, .long z3)] [] w1) {k4 : Int64 → Wd → Option (Int32 × Wd)} (hk4 : ∀ (z3 : Int64) (w1 : Wd), k4 z3 w1 = some rr → gG ρ cs G X 106 [(0, .ref (ρ 75)), (3, .long z3)] [] w1) : ∀ (n : Nat) (x6 : Int64) (x7 : Int32) (w : Wd), L_X11_luck_43 x2 k3 k4 n x6 x7 w = some rr → gG ρ cs G X 43 [(0, .ref (ρ 75)), (2, .int x2), (3, .long x6), (5, .int x7)] [] w := by
  intro n
  induction n with
  | zero =>
    intro x6 x7 w hD
    cases hD
  | succ n5 ih =>
    intro x6 x7 w8 hD
    unfold L_X11_luck_43 at hD
    refine g_iload h 3 t_X11_luck_43 rfl ?_
    refine g_ldcw (v := 1000000) h t_X11_luck_45 cc_11_306 ?_
    refine g_icmp_ge (tgt := 106) h t_X11_luck_48 (by decide) hD (fun hD => ?_) (fun hD => ?_)
    · refine g_loc (L' := [(0, .ref (ρ 75)), (3, .long x6)]) h [0, 2] rfl ?_
      exact hk4 x6 _ hD
    · refine g_aload_n h 0 t_X11_luck_51 rfl ?_
      refine g_getR h 75 10 87 fl_11_68 rfl (by decide) rfl t_X11_luck_52 ?_
      refine g_callVI h 87 (As := []) (st := []) my_X10_isAtEnd mi_X10_isAtEnd ml_11_341 rfl (by decide) rfl rfl rfl (Nat.le_of_ble_eq_true rfl) (by decide) t_X11_luck_55 hD (fun _ _ e => S_X10_isAtEnd hρ  e) (fun x10 w9 hD => ?_)
      refine g_join (P := fun k13 => ∀ (x11 : Int64) (w12 : Wd), k13 x11 w12 = some rr → gG ρ cs G X 87 [(0, .ref (ρ 75)), (2, .int x2), (3, .long x11), (5, .int x7)] [] w12) hD ?_ (fun k13 hk13 hD => ?_)
      · intro x11 w12 hD
        unfold J_X11_luck_j87_1 at hD
        refine g_aload_n h 0 t_X11_luck_87 rfl ?_
        refine g_getR h 75 10 87 fl_11_68 rfl (by decide) rfl t_X11_luck_88 ?_
        refine g_callVI h 87 (As := []) (st := []) my_X10_step mi_X10_step ml_11_307 rfl (by decide) rfl rfl rfl (Nat.le_of_ble_eq_true rfl) (by decide) t_X11_luck_91 hD (fun _ _ e => S_X10_step hρ  e) (fun x15 w14 hD => ?_)
        refine g_if_ne (tgt := 100) h t_X11_luck_94 (by decide) hD (fun hD => ?_) (fun hD => ?_)
        · obtain ⟨x16, ex16, hD⟩ := bd_ex hD
          refine g_iinc (v := x16) (L' := [(5, .int x16), (0, .ref (ρ 75)), (2, .int x2), (3, .long x11)]) h hn t_X11_luck_100 (k := 3) rfl (by rw [ex16]; rfl) (by decide) rfl ?_
          refine g_goto (tgt := 43) h t_X11_luck_103 (by decide) ?_
          refine g_loc (L' := [(0, .ref (ρ 75)), (2, .int x2), (3, .long x11), (5, .int x16)]) h [1, 2, 3, 0] rfl ?_
          exact ih x11 x16 _ hD
        · refine g_loc (L' := [(0, .ref (ρ 75)), (3, .long x11)]) h [0, 2] rfl ?_
          exact hk3 x11 _ hD
      · refine g_if_eq (tgt := 87) h t_X11_luck_58 (by decide) hD (fun hD => ?_) (fun hD => ?_)
        · refine g_loc (L' := [(0, .ref (ρ 75)), (2, .int x2), (3, .long x6), (5, .int x7)]) h [0, 1, 2, 3] rfl ?_
          exact hk13 x6 _ hD
        · refine g_aload_n h 0 t_X11_luck_61 rfl ?_
          refine g_getR h 75 10 87 fl_11_68 rfl (by decide) rfl t_X11_luck_62 ?_
          refine g_callVR h 87 (As := []) (st := []) my_X10_here mi_X10_here ml_11_310 rfl (by decide) rfl rfl rfl (Nat.le_of_ble_eq_true rfl) (by decide) t_X11_luck_65 hD (fun _ _ e => S_X10_here hρ  e) (fun q18 w17 eq18 hD => ?_)
          have hq18 : isPos q18 := pos_X10_here eq18
          refine g_getQ h q18 1 (q18 + 2) 2 (by decide) rfl fl_11_155 (isPos_sh hq18) (isPos_lt hq18) rfl t_X11_luck_68 ?_
          refine g_iconst (v := 0) h t_X11_luck_71 (by decide) ?_
          refine g_iald h (q18 + 2) (isPos_s2 hq18) (isPos_l2 hq18) t_X11_luck_72 hD (fun hD => ?_)
          refine g_iload_n h 1 t_X11_luck_73 rfl ?_
          refine g_icmp_lt (tgt := 87) h t_X11_luck_74 (by decide) hD (fun hD => ?_) (fun hD => ?_)
          · refine g_loc (L' := [(0, .ref (ρ 75)), (2, .int x2), (3, .long x6), (5, .int x7)]) h [0, 1, 2, 3] rfl ?_
            exact hk13 x6 _ hD
          · refine g_lload_n h 2 t_X11_luck_77 rfl ?_
            refine g_aload_n h 0 t_X11_luck_78 rfl ?_
            refine g_getR h 75 10 87 fl_11_68 rfl (by decide) rfl t_X11_luck_79 ?_
            refine g_callVJ h 87 (As := []) (st := [.long x6]) my_X10_share mi_X10_share ml_11_344 rfl (by decide) rfl rfl rfl (Nat.le_of_ble_eq_true rfl) (by decide) t_X11_luck_82 hD (fun _ _ e => S_X10_share hρ  e) (fun x20 w19 hD => ?_)
            refine g_ladd h t_X11_luck_85 ?_
            refine g_bdJ hD (fun x21 hD => ?_)
            refine g_lstore_n (L' := [(3, .long x21), (0, .ref (ρ 75)), (2, .int x2), (5, .int x7)]) h hn t_X11_luck_86 rfl (by decide) rfl ?_
            refine g_loc (L' := [(0, .ref (ρ 75)), (2, .int x2), (3, .long x21), (5, .int x7)]) h [1, 2, 0, 3] rfl ?_
            exact hk13 x21 _ hD
set_option maxRecDepth 20000 in
theorem S_X11_luck {l0 : Launch} {ρ : Nat → Nat} {cs : Nat → ClassId} {G : va_G} (hρ : injN ρ) {p1 : Int32} {p2 : Int32} {w : Wd} {rr : (Int32 × Wd)} (hD : D_X11_luck p1 p2 w = some rr) : CtI l0 ρ cs G y_X11_luck prog_1_method_38_code 6 .int 5 [.ref (ρ 75), .int p1, .int p2] w rr.1 rr.2 := by
  refine ctI_of hρ (by decide) (Nat.le_of_ble_eq_true rfl) (fun X hn h hR => ?_)
  unfold D_X11_luck at hD
  show gG ρ cs G X 0 [(0, .ref (ρ 75)), (1, .int p1), (2, .int p2)] [] w
  refine g_iload_n h 1 t_X11_luck_0 rfl ?_
  refine g_if_lt (tgt := 19) h t_X11_luck_1 (by decide) hD (fun hD => ?_) (fun hD => ?_)
  · refine g_iconst (v := (-1)) h t_X11_luck_19 (by decide) ?_
    obtain rfl := Option.some.inj hD
    exact hR _ _ t_X11_luck_20 rfl
  · refine g_iload_n h 1 t_X11_luck_4 rfl ?_
    refine g_iconst (v := 4) h t_X11_luck_5 (by decide) ?_
    refine g_icmp_gt (tgt := 19) h t_X11_luck_6 (by decide) hD (fun hD => ?_) (fun hD => ?_)
    · refine g_iconst (v := (-1)) h t_X11_luck_19 (by decide) ?_
      obtain rfl := Option.some.inj hD
      exact hR _ _ t_X11_luck_20 rfl
    · refine g_iload_n h 2 t_X11_luck_9 rfl ?_
      refine g_if_lt (tgt := 19) h t_X11_luck_10 (by decide) hD (fun hD => ?_) (fun hD => ?_)
      · refine g_iconst (v := (-1)) h t_X11_luck_19 (by decide) ?_
        obtain rfl := Option.some.inj hD
        exact hR _ _ t_X11_luck_20 rfl
      · refine g_iload_n h 2 t_X11_luck_13 rfl ?_
        refine g_bipush (v := 108) h t_X11_luck_14 (by decide) ?_
        refine g_icmp_le (tgt := 21) h t_X11_luck_16 (by decide) hD (fun hD => ?_) (fun hD => ?_)
        · refine g_lconst (v := 0) h t_X11_luck_21 (by decide) ?_
          refine g_lstore_n (L' := [(3, .long (0 : Int64)), (0, .ref (ρ 75)), (1, .int p1), (2, .int p2)]) h hn t_X11_luck_22 rfl (by decide) rfl ?_
          refine g_aload_n h 1 t_X11_luck_23 rfl ?_
          refine g_getR h 75 10 87 fl_11_68 rfl (by decide) rfl t_X11_luck_24 ?_
          refine g_aload_n h 1 t_X11_luck_27 rfl ?_
          refine g_getR h 75 0 0 fl_11_10 rfl (by decide) rfl t_X11_luck_28 ?_
          refine g_iload_n h 2 t_X11_luck_31 rfl ?_
          refine g_iconst (v := 0) h t_X11_luck_32 (by decide) ?_
          refine g_aload_n h 1 t_X11_luck_33 rfl ?_
          refine g_getI h 75 18 fl_11_112 rfl (by decide) rfl t_X11_luck_34 ?_
          refine g_callVV h 87 (As := [.ref (ρ 0), .int p1, .int 0, .int (w.1 75 18)]) (st := []) my_X10_start mi_X10_start ml_11_302 rfl (by decide) rfl rfl rfl (Nat.le_of_ble_eq_true rfl) (by decide) t_X11_luck_37 hD (fun _ e => S_X10_start hρ (by decide) e) (fun w1 hD => ?_)
          refine g_iconst (v := 0) h t_X11_luck_40 (by decide) ?_
          refine g_istore (L' := [(5, .int 0), (3, .long (0 : Int64)), (0, .ref (ρ 75)), (1, .int p1), (2, .int p2)]) h hn t_X11_luck_41 (by decide) rfl ?_
          refine g_loc (L' := [(0, .ref (ρ 75)), (2, .int p2), (3, .long (0 : Int64)), (5, .int 0)]) h [2, 4, 1, 0] rfl ?_
          refine Q_X11_luck_43 hρ hn h hR  ?_ ?_ _ _ _ _ hD
          · intro x22 w23 hD
            unfold J_X11_luck_x97_2 at hD
            refine g_goto (tgt := 106) h t_X11_luck_97 (by decide) ?_
            refine g_aload_n h 0 t_X11_luck_106 rfl ?_
            refine g_lload_n h 1 t_X11_luck_107 rfl ?_
            refine g_ldc2 (v := 12960000) h t_X11_luck_108 cc_11_348 ?_
            refine g_callVV h 75 (As := [.long x22, .long (12960000 : Int64)]) (st := []) my_X11_tellFraction mi_X11_tellFraction ml_11_350 rfl (by decide) rfl rfl rfl (Nat.le_of_ble_eq_true rfl) (by decide) t_X11_luck_111 hD (fun _ e => S_X11_tellFraction hρ  e) (fun w24 hD => ?_)
            refine g_iconst (v := 0) h t_X11_luck_114 (by decide) ?_
            obtain rfl := Option.some.inj hD
            exact hR _ _ t_X11_luck_115 rfl
          · intro x25 w26 hD
            unfold J_X11_luck_x106_3 at hD
            refine g_aload_n h 0 t_X11_luck_106 rfl ?_
            refine g_lload_n h 1 t_X11_luck_107 rfl ?_
            refine g_ldc2 (v := 12960000) h t_X11_luck_108 cc_11_348 ?_
            refine g_callVV h 75 (As := [.long x25, .long (12960000 : Int64)]) (st := []) my_X11_tellFraction mi_X11_tellFraction ml_11_350 rfl (by decide) rfl rfl rfl (Nat.le_of_ble_eq_true rfl) (by decide) t_X11_luck_111 hD (fun _ e => S_X11_tellFraction hρ  e) (fun w27 hD => ?_)
            refine g_iconst (v := 0) h t_X11_luck_114 (by decide) ?_
            obtain rfl := Option.some.inj hD
            exact hR _ _ t_X11_luck_115 rfl
        · refine g_iconst (v := (-1)) h t_X11_luck_19 (by decide) ?_
          obtain rfl := Option.some.inj hD
          exact hR _ _ t_X11_luck_20 rfl
def L_X11_when_26 (x4 : Int32) (k5 : Int32 → Wd → Option (Int32 × Wd)) (k6 : Wd → Option (Int32 × Wd)) (k7 : Wd → Option (Int32 × Wd)) : Nat → Int32 → Wd → Option (Int32 × Wd)
  | 0, _, _ => none
  | n8 + 1, x9, w10 =>
    if 60 < x9 then (k7 w10) else (if ib x4 12 then (if (w10.1 7 x4.toNatClampNeg) = 0 then (k5 x9 w10) else (bc (D_X4_play 6 106 (w10.1 75 18) w10) fun x12 w11 => if x12 = 0 then (k6 w11) else (bd (x9 + 1) fun x13 => L_X11_when_26 x4 k5 k6 k7 n8 x13 w11))) else none)
def J_X11_when_x44_1  : Int32 → Wd → Option (Int32 × Wd) := fun x14 w15 =>
  if ib 0 2 then (if ib 1 2 then (bv (D_X3_tell_ ((w15.1 8 (0 : Int32).toNatClampNeg).toInt64) ((w15.1 8 (1 : Int32).toNatClampNeg).toInt64) w15) fun w16 => some (x14, w16)) else none) else none
def J_X11_when_x95_2  : Wd → Option (Int32 × Wd) := fun w17 =>
  some ((-2), w17)
def J_X11_when_x104_3  : Wd → Option (Int32 × Wd) := fun w18 =>
  some ((-2), w18)
def D_X11_when (p1 : Int32) : Wd → Option (Int32 × Wd) := fun w =>
  bc (D_X5_hasPit 0 p1 w) fun x2 w1 => if x2 = 0 then (some ((-1), w1)) else (bv (D_X5_take 6 0 w1) fun w3 => L_X11_when_26 p1 J_X11_when_x44_1 J_X11_when_x95_2 J_X11_when_x104_3 FU 0 w3)
set_option maxRecDepth 20000 in
theorem Q_X11_when_26 {l0 : Launch} {ρ : Nat → Nat} {cs : Nat → ClassId} {G : va_G} {X : Cx} (hρ : injN ρ) (hn : X.2.2.2.2.2.2.2.2.2.2.1 = 3) (h : Okx l0 ρ cs G X prog_1_method_40_code "SowingBoards" 13) {rr : (Int32 × Wd)} (hR : ∀ pc L, decode prog_1_method_40_code pc = .ok (.ireturn, 1) → narrow .int (.int rr.1) = .int rr.1 → gG ρ cs G X pc L [.int rr.1] rr.2) {x4 : Int32} {k5 : Int32 → Wd → Option (Int32 × Wd)} (hk5 : ∀ (z2 : Int32) (w1 : Wd), k5 z2 w1 = some rr → gG ρ cs G X 44 [(0, .ref (ρ 75)), (2, .int z2)] [] w1) {k6 : Wd → Option (Int32 × Wd)} (hk6 : ∀ (w1 : Wd), k6 w1 = some rr → gG ρ cs G X 95 [] [] w1) {k7 : Wd → Option (Int32 × Wd)} (hk7 : ∀ (w1 : Wd), k7 w1 = some rr → gG ρ cs G X 104 [] [] w1) : ∀ (n : Nat) (x9 : Int32) (w : Wd), L_X11_when_26 x4 k5 k6 k7 n x9 w = some rr → gG ρ cs G X 26 [(0, .ref (ρ 75)), (1, .int x4), (2, .int x9)] [] w := by
  intro n
  induction n with
  | zero =>
    intro x9 w hD
    cases hD
  | succ n8 ih =>
    intro x9 w10 hD
    unfold L_X11_when_26 at hD
    refine g_iload_n h 2 t_X11_when_26 rfl ?_
    refine g_bipush (v := 60) h t_X11_when_27 (by decide) ?_
    refine g_icmp_gt (tgt := 104) h t_X11_when_29 (by decide) hD (fun hD => ?_) (fun hD => ?_)
    · refine g_loc (L' := []) h [] rfl ?_
      exact hk7 _ hD
    · refine g_aload_n h 0 t_X11_when_32 rfl ?_
      refine g_getR h 75 2 6 fl_11_19 rfl (by decide) rfl t_X11_when_33 ?_
      refine g_getQ h 6 0 7 1 (by decide) rfl fl_11_120 rfl (by decide) rfl t_X11_when_36 ?_
      refine g_iload_n h 1 t_X11_when_39 rfl ?_
      refine g_iald h 7 rfl (by decide) t_X11_when_40 hD (fun hD => ?_)
      refine g_if_ne (tgt := 73) h t_X11_when_41 (by decide) hD (fun hD => ?_) (fun hD => ?_)
      · refine g_aload_n h 0 t_X11_when_73 rfl ?_
        refine g_getR h 75 9 85 fl_11_61 rfl (by decide) rfl t_X11_when_74 ?_
        refine g_aload_n h 0 t_X11_when_77 rfl ?_
        refine g_getR h 75 2 6 fl_11_19 rfl (by decide) rfl t_X11_when_78 ?_
        refine g_aload_n h 0 t_X11_when_81 rfl ?_
        refine g_getR h 75 13 106 fl_11_89 rfl (by decide) rfl t_X11_when_82 ?_
        refine g_aload_n h 0 t_X11_when_85 rfl ?_
        refine g_getI h 75 18 fl_11_112 rfl (by decide) rfl t_X11_when_86 ?_
        refine g_callVI h 85 (As := [.ref (ρ 6), .ref (ρ 106), .int (w10.1 75 18)]) (st := []) my_X4_play mi_X4_play ml_11_256 rfl (by decide) rfl rfl rfl (Nat.le_of_ble_eq_true rfl) (by decide) t_X11_when_89 hD (fun _ _ e => S_X4_play hρ (by decide) (by decide) e) (fun x12 w11 hD => ?_)
        refine g_if_ne (tgt := 98) h t_X11_when_92 (by decide) hD (fun hD => ?_) (fun hD => ?_)
        · obtain ⟨x13, ex13, hD⟩ := bd_ex hD
          refine g_iinc (v := x13) (L' := [(2, .int x13), (0, .ref (ρ 75)), (1, .int x4)]) h hn t_X11_when_98 (k := 2) rfl (by rw [ex13]; rfl) (by decide) rfl ?_
          refine g_goto (tgt := 26) h t_X11_when_101 (by decide) ?_
          refine g_loc (L' := [(0, .ref (ρ 75)), (1, .int x4), (2, .int x13)]) h [1, 2, 0] rfl ?_
          exact ih x13 _ hD
        · refine g_loc (L' := []) h [] rfl ?_
          exact hk6 _ hD
      · refine g_loc (L' := [(0, .ref (ρ 75)), (2, .int x9)]) h [0, 2] rfl ?_
        exact hk5 x9 _ hD
set_option maxRecDepth 20000 in
theorem S_X11_when {l0 : Launch} {ρ : Nat → Nat} {cs : Nat → ClassId} {G : va_G} (hρ : injN ρ) {p1 : Int32} {w : Wd} {rr : (Int32 × Wd)} (hD : D_X11_when p1 w = some rr) : CtI l0 ρ cs G y_X11_when prog_1_method_40_code 3 .int 13 [.ref (ρ 75), .int p1] w rr.1 rr.2 := by
  refine ctI_of hρ (by decide) (Nat.le_of_ble_eq_true rfl) (fun X hn h hR => ?_)
  unfold D_X11_when at hD
  show gG ρ cs G X 0 [(0, .ref (ρ 75)), (1, .int p1)] [] w
  refine g_aload_n h 0 t_X11_when_0 rfl ?_
  refine g_getR h 75 0 0 fl_11_10 rfl (by decide) rfl t_X11_when_1 ?_
  refine g_iload_n h 1 t_X11_when_4 rfl ?_
  refine g_callVI h 0 (As := [.int p1]) (st := []) my_X5_hasPit mi_X5_hasPit ml_11_194 rfl (by decide) rfl rfl rfl (Nat.le_of_ble_eq_true rfl) (by decide) t_X11_when_5 hD (fun _ _ e => S_X5_hasPit hρ (by decide) e) (fun x2 w1 hD => ?_)
  refine g_if_ne (tgt := 13) h t_X11_when_8 (by decide) hD (fun hD => ?_) (fun hD => ?_)
  · refine g_aload_n h 0 t_X11_when_13 rfl ?_
    refine g_getR h 75 2 6 fl_11_19 rfl (by decide) rfl t_X11_when_14 ?_
    refine g_aload_n h 0 t_X11_when_17 rfl ?_
    refine g_getR h 75 0 0 fl_11_10 rfl (by decide) rfl t_X11_when_18 ?_
    refine g_callVV h 6 (As := [.ref (ρ 0)]) (st := []) my_X5_take mi_X5_take ml_11_269 rfl (by decide) rfl rfl rfl (Nat.le_of_ble_eq_true rfl) (by decide) t_X11_when_21 hD (fun _ e => S_X5_take hρ (by decide) (by decide) e) (fun w3 hD => ?_)
    refine g_iconst (v := 0) h t_X11_when_24 (by decide) ?_
    refine g_istore_n (L' := [(2, .int 0), (0, .ref (ρ 75)), (1, .int p1)]) h hn t_X11_when_25 rfl (by decide) rfl ?_
    refine g_loc (L' := [(0, .ref (ρ 75)), (1, .int p1), (2, .int 0)]) h [1, 2, 0] rfl ?_
    refine Q_X11_when_26 hρ hn h hR  ?_ ?_ ?_ _ _ _ hD
    · intro x14 w15 hD
      unfold J_X11_when_x44_1 at hD
      refine g_aload_n h 0 t_X11_when_44 rfl ?_
      refine g_getR h 75 7 82 fl_11_47 rfl (by decide) rfl t_X11_when_45 ?_
      refine g_aload_n h 0 t_X11_when_48 rfl ?_
      refine g_getR h 75 2 6 fl_11_19 rfl (by decide) rfl t_X11_when_49 ?_
      refine g_getQ h 6 1 8 2 (by decide) rfl fl_11_155 rfl (by decide) rfl t_X11_when_52 ?_
      refine g_iconst (v := 0) h t_X11_when_55 (by decide) ?_
      refine g_iald h 8 rfl (by decide) t_X11_when_56 hD (fun hD => ?_)
      refine g_i2l h t_X11_when_57 ?_
      refine g_aload_n h 0 t_X11_when_58 rfl ?_
      refine g_getR h 75 2 6 fl_11_19 rfl (by decide) rfl t_X11_when_59 ?_
      refine g_getQ h 6 1 8 2 (by decide) rfl fl_11_155 rfl (by decide) rfl t_X11_when_62 ?_
      refine g_iconst (v := 1) h t_X11_when_65 (by decide) ?_
      refine g_iald h 8 rfl (by decide) t_X11_when_66 hD (fun hD => ?_)
      refine g_i2l h t_X11_when_67 ?_
      refine g_callVV h 82 (As := [.long ((w15.1 8 (0 : Int32).toNatClampNeg).toInt64), .long ((w15.1 8 (1 : Int32).toNatClampNeg).toInt64)]) (st := []) my_X3_tell_ mi_X3_tell_ ml_11_253 rfl (by decide) rfl rfl rfl (Nat.le_of_ble_eq_true rfl) (by decide) t_X11_when_68 hD (fun _ e => S_X3_tell_ hρ  e) (fun w16 hD => ?_)
      refine g_iload_n h 1 t_X11_when_71 rfl ?_
      obtain rfl := Option.some.inj hD
      exact hR _ _ t_X11_when_72 rfl
    · intro w17 hD
      unfold J_X11_when_x95_2 at hD
      refine g_bipush (v := (-2)) h t_X11_when_95 (by decide) ?_
      obtain rfl := Option.some.inj hD
      exact hR _ _ t_X11_when_97 rfl
    · intro w18 hD
      unfold J_X11_when_x104_3 at hD
      refine g_bipush (v := (-2)) h t_X11_when_104 (by decide) ?_
      obtain rfl := Option.some.inj hD
      exact hR _ _ t_X11_when_106 rfl
  · refine g_iconst (v := (-1)) h t_X11_when_11 (by decide) ?_
    obtain rfl := Option.some.inj hD
    exact hR _ _ t_X11_when_12 rfl
def D_X11_ends  : Wd → Option (Int32 × Wd) := fun w =>
  bv (D_X5_take 6 0 w) fun w1 => bc (D_X11_playOn 6 99 w1) fun x3 w2 => bc (D_X5_isOver 6 w2) fun x5 w4 => if x5 = 0 then (some ((-2), w4)) else (bc (D_X5_ownedBy 6 0 w4) fun x7 w6 => bc (D_X5_ownedBy 6 1 w6) fun x9 w8 => bv (D_X3_tell_ x7.toInt64 x9.toInt64 w8) fun w10 => some (x3, w10))
set_option maxRecDepth 20000 in
theorem S_X11_ends {l0 : Launch} {ρ : Nat → Nat} {cs : Nat → ClassId} {G : va_G} (hρ : injN ρ)  {w : Wd} {rr : (Int32 × Wd)} (hD : D_X11_ends w = some rr) : CtI l0 ρ cs G y_X11_ends prog_1_method_41_code 2 .int 14 [.ref (ρ 75)] w rr.1 rr.2 := by
  refine ctI_of hρ (by decide) (Nat.le_of_ble_eq_true rfl) (fun X hn h hR => ?_)
  unfold D_X11_ends at hD
  show gG ρ cs G X 0 [(0, .ref (ρ 75))] [] w
  refine g_aload_n h 0 t_X11_ends_0 rfl ?_
  refine g_getR h 75 2 6 fl_11_19 rfl (by decide) rfl t_X11_ends_1 ?_
  refine g_aload_n h 0 t_X11_ends_4 rfl ?_
  refine g_getR h 75 0 0 fl_11_10 rfl (by decide) rfl t_X11_ends_5 ?_
  refine g_callVV h 6 (As := [.ref (ρ 0)]) (st := []) my_X5_take mi_X5_take ml_11_269 rfl (by decide) rfl rfl rfl (Nat.le_of_ble_eq_true rfl) (by decide) t_X11_ends_8 hD (fun _ e => S_X5_take hρ (by decide) (by decide) e) (fun w1 hD => ?_)
  refine g_aload_n h 0 t_X11_ends_11 rfl ?_
  refine g_aload_n h 0 t_X11_ends_12 rfl ?_
  refine g_getR h 75 2 6 fl_11_19 rfl (by decide) rfl t_X11_ends_13 ?_
  refine g_bipush (v := 99) h t_X11_ends_16 (by decide) ?_
  refine g_callVI h 75 (As := [.ref (ρ 6), .int 99]) (st := []) my_X11_playOn mi_X11_playOn ml_11_249 rfl (by decide) rfl rfl rfl (Nat.le_of_ble_eq_true rfl) (by decide) t_X11_ends_18 hD (fun _ _ e => S_X11_playOn hρ (by decide) e) (fun x3 w2 hD => ?_)
  refine g_istore_n (L' := [(1, .int x3), (0, .ref (ρ 75))]) h hn t_X11_ends_21 rfl (by decide) rfl ?_
  refine g_aload_n h 1 t_X11_ends_22 rfl ?_
  refine g_getR h 75 2 6 fl_11_19 rfl (by decide) rfl t_X11_ends_23 ?_
  refine g_callVI h 6 (As := []) (st := []) my_X5_isOver mi_X5_isOver ml_11_245 rfl (by decide) rfl rfl rfl (Nat.le_of_ble_eq_true rfl) (by decide) t_X11_ends_26 hD (fun _ _ e => S_X5_isOver hρ (by decide) e) (fun x5 w4 hD => ?_)
  refine g_if_ne (tgt := 35) h t_X11_ends_29 (by decide) hD (fun hD => ?_) (fun hD => ?_)
  · refine g_aload_n h 1 t_X11_ends_35 rfl ?_
    refine g_getR h 75 7 82 fl_11_47 rfl (by decide) rfl t_X11_ends_36 ?_
    refine g_aload_n h 1 t_X11_ends_39 rfl ?_
    refine g_getR h 75 2 6 fl_11_19 rfl (by decide) rfl t_X11_ends_40 ?_
    refine g_iconst (v := 0) h t_X11_ends_43 (by decide) ?_
    refine g_callVI h 6 (As := [.int 0]) (st := [.ref (ρ 82)]) my_X5_ownedBy mi_X5_ownedBy ml_11_353 rfl (by decide) rfl rfl rfl (Nat.le_of_ble_eq_true rfl) (by decide) t_X11_ends_44 hD (fun _ _ e => S_X5_ownedBy hρ (by decide) e) (fun x7 w6 hD => ?_)
    refine g_i2l h t_X11_ends_47 ?_
    refine g_aload_n h 1 t_X11_ends_48 rfl ?_
    refine g_getR h 75 2 6 fl_11_19 rfl (by decide) rfl t_X11_ends_49 ?_
    refine g_iconst (v := 1) h t_X11_ends_52 (by decide) ?_
    refine g_callVI h 6 (As := [.int 1]) (st := [.long x7.toInt64, .ref (ρ 82)]) my_X5_ownedBy mi_X5_ownedBy ml_11_353 rfl (by decide) rfl rfl rfl (Nat.le_of_ble_eq_true rfl) (by decide) t_X11_ends_53 hD (fun _ _ e => S_X5_ownedBy hρ (by decide) e) (fun x9 w8 hD => ?_)
    refine g_i2l h t_X11_ends_56 ?_
    refine g_callVV h 82 (As := [.long x7.toInt64, .long x9.toInt64]) (st := []) my_X3_tell_ mi_X3_tell_ ml_11_253 rfl (by decide) rfl rfl rfl (Nat.le_of_ble_eq_true rfl) (by decide) t_X11_ends_57 hD (fun _ e => S_X3_tell_ hρ  e) (fun w10 hD => ?_)
    refine g_iload_n h 0 t_X11_ends_60 rfl ?_
    obtain rfl := Option.some.inj hD
    exact hR _ _ t_X11_ends_61 rfl
  · refine g_bipush (v := (-2)) h t_X11_ends_32 (by decide) ?_
    obtain rfl := Option.some.inj hD
    exact hR _ _ t_X11_ends_34 rfl
def L_X11_round_31 (k4 : Wd → Option (Int32 × Wd)) (k5 : Int32 → Int32 → Wd → Option (Int32 × Wd)) (k6 : Wd → Option (Int32 × Wd)) : Nat → Int32 → Wd → Option (Int32 × Wd)
  | 0, _, _ => none
  | n7 + 1, x8, w9 =>
    if 60 < x8 then (k6 w9) else (bc (D_X4_play 6 106 (w9.1 75 18) w9) fun x11 w10 => if x11 = 0 then (k4 w10) else (bc (D_X8_find 6 w10) fun x13 w12 => if x13 < 0 then (bv (D_X8_put 6 w12) fun w14 => bd (x8 + 1) fun x15 => L_X11_round_31 k4 k5 k6 n7 x15 w14) else (k5 x8 x13 w12)))
def J_X11_round_x59_1  : Wd → Option (Int32 × Wd) := fun w16 =>
  some ((-2), w16)
def J_X11_round_x78_2  : Int32 → Int32 → Wd → Option (Int32 × Wd) := fun x17 x18 w19 =>
  bv (D_X3_tell x18.toInt64 w19) fun w20 => some (x17, w20)
def J_X11_round_x106_3  : Wd → Option (Int32 × Wd) := fun w21 =>
  some ((-2), w21)
def D_X11_round  : Wd → Option (Int32 × Wd) := fun w =>
  bv (D_X8_clear w) fun w1 => bv (D_X8_put 0 w1) fun w2 => bv (D_X5_take 6 0 w2) fun w3 => L_X11_round_31 J_X11_round_x59_1 J_X11_round_x78_2 J_X11_round_x106_3 FU 1 w3
set_option maxRecDepth 20000 in
theorem Q_X11_round_31 {l0 : Launch} {ρ : Nat → Nat} {cs : Nat → ClassId} {G : va_G} {X : Cx} (hρ : injN ρ) (hn : X.2.2.2.2.2.2.2.2.2.2.1 = 3) (h : Okx l0 ρ cs G X prog_1_method_42_code "SowingBoards" 13) {rr : (Int32 × Wd)} (hR : ∀ pc L, decode prog_1_method_42_code pc = .ok (.ireturn, 1) → narrow .int (.int rr.1) = .int rr.1 → gG ρ cs G X pc L [.int rr.1] rr.2)  {k4 : Wd → Option (Int32 × Wd)} (hk4 : ∀ (w1 : Wd), k4 w1 = some rr → gG ρ cs G X 59 [] [] w1) {k5 : Int32 → Int32 → Wd → Option (Int32 × Wd)} (hk5 : ∀ (z1 : Int32) (z2 : Int32) (w1 : Wd), k5 z1 z2 w1 = some rr → gG ρ cs G X 78 [(0, .ref (ρ 75)), (1, .int z1), (2, .int z2)] [] w1) {k6 : Wd → Option (Int32 × Wd)} (hk6 : ∀ (w1 : Wd), k6 w1 = some rr → gG ρ cs G X 106 [] [] w1) : ∀ (n : Nat) (x8 : Int32) (w : Wd), L_X11_round_31 k4 k5 k6 n x8 w = some rr → gG ρ cs G X 31 [(0, .ref (ρ 75)), (1, .int x8)] [] w := by
  intro n
  induction n with
  | zero =>
    intro x8 w hD
    cases hD
  | succ n7 ih =>
    intro x8 w9 hD
    unfold L_X11_round_31 at hD
    refine g_iload_n h 1 t_X11_round_31 rfl ?_
    refine g_bipush (v := 60) h t_X11_round_32 (by decide) ?_
    refine g_icmp_gt (tgt := 106) h t_X11_round_34 (by decide) hD (fun hD => ?_) (fun hD => ?_)
    · refine g_loc (L' := []) h [] rfl ?_
      exact hk6 _ hD
    · refine g_aload_n h 0 t_X11_round_37 rfl ?_
      refine g_getR h 75 9 85 fl_11_61 rfl (by decide) rfl t_X11_round_38 ?_
      refine g_aload_n h 0 t_X11_round_41 rfl ?_
      refine g_getR h 75 2 6 fl_11_19 rfl (by decide) rfl t_X11_round_42 ?_
      refine g_aload_n h 0 t_X11_round_45 rfl ?_
      refine g_getR h 75 13 106 fl_11_89 rfl (by decide) rfl t_X11_round_46 ?_
      refine g_aload_n h 0 t_X11_round_49 rfl ?_
      refine g_getI h 75 18 fl_11_112 rfl (by decide) rfl t_X11_round_50 ?_
      refine g_callVI h 85 (As := [.ref (ρ 6), .ref (ρ 106), .int (w9.1 75 18)]) (st := []) my_X4_play mi_X4_play ml_11_256 rfl (by decide) rfl rfl rfl (Nat.le_of_ble_eq_true rfl) (by decide) t_X11_round_53 hD (fun _ _ e => S_X4_play hρ (by decide) (by decide) e) (fun x11 w10 hD => ?_)
      refine g_if_ne (tgt := 62) h t_X11_round_56 (by decide) hD (fun hD => ?_) (fun hD => ?_)
      · refine g_aload_n h 0 t_X11_round_62 rfl ?_
        refine g_getR h 75 11 98 fl_11_75 rfl (by decide) rfl t_X11_round_63 ?_
        refine g_aload_n h 0 t_X11_round_66 rfl ?_
        refine g_getR h 75 2 6 fl_11_19 rfl (by decide) rfl t_X11_round_67 ?_
        refine g_callVI h 98 (As := [.ref (ρ 6)]) (st := []) my_X8_find mi_X8_find ml_11_359 rfl (by decide) rfl rfl rfl (Nat.le_of_ble_eq_true rfl) (by decide) t_X11_round_70 hD (fun _ _ e => S_X8_find hρ (by decide) e) (fun x13 w12 hD => ?_)
        refine g_istore_n (L' := [(2, .int x13), (0, .ref (ρ 75)), (1, .int x8)]) h hn t_X11_round_73 rfl (by decide) rfl ?_
        refine g_iload_n h 0 t_X11_round_74 rfl ?_
        refine g_if_lt (tgt := 89) h t_X11_round_75 (by decide) hD (fun hD => ?_) (fun hD => ?_)
        · refine g_aload_n h 1 t_X11_round_89 rfl ?_
          refine g_getR h 75 11 98 fl_11_75 rfl (by decide) rfl t_X11_round_90 ?_
          refine g_aload_n h 1 t_X11_round_93 rfl ?_
          refine g_getR h 75 2 6 fl_11_19 rfl (by decide) rfl t_X11_round_94 ?_
          refine g_callVV h 98 (As := [.ref (ρ 6)]) (st := []) my_X8_put mi_X8_put ml_11_356 rfl (by decide) rfl rfl rfl (Nat.le_of_ble_eq_true rfl) (by decide) t_X11_round_97 hD (fun _ e => S_X8_put hρ (by decide) e) (fun w14 hD => ?_)
          obtain ⟨x15, ex15, hD⟩ := bd_ex hD
          refine g_iinc (v := x15) (L' := [(1, .int x15), (2, .int x13), (0, .ref (ρ 75))]) h hn t_X11_round_100 (k := 2) rfl (by rw [ex15]; rfl) (by decide) rfl ?_
          refine g_goto (tgt := 31) h t_X11_round_103 (by decide) ?_
          refine g_loc (L' := [(0, .ref (ρ 75)), (1, .int x15)]) h [2, 0] rfl ?_
          exact ih x15 _ hD
        · refine g_loc (L' := [(0, .ref (ρ 75)), (1, .int x8), (2, .int x13)]) h [1, 2, 0] rfl ?_
          exact hk5 x8 x13 _ hD
      · refine g_loc (L' := []) h [] rfl ?_
        exact hk4 _ hD
set_option maxRecDepth 20000 in
theorem S_X11_round {l0 : Launch} {ρ : Nat → Nat} {cs : Nat → ClassId} {G : va_G} (hρ : injN ρ)  {w : Wd} {rr : (Int32 × Wd)} (hD : D_X11_round w = some rr) : CtI l0 ρ cs G y_X11_round prog_1_method_42_code 3 .int 13 [.ref (ρ 75)] w rr.1 rr.2 := by
  refine ctI_of hρ (by decide) (Nat.le_of_ble_eq_true rfl) (fun X hn h hR => ?_)
  unfold D_X11_round at hD
  show gG ρ cs G X 0 [(0, .ref (ρ 75))] [] w
  refine g_aload_n h 0 t_X11_round_0 rfl ?_
  refine g_getR h 75 11 98 fl_11_75 rfl (by decide) rfl t_X11_round_1 ?_
  refine g_callVV h 98 (As := []) (st := []) my_X8_clear mi_X8_clear ml_11_336 rfl (by decide) rfl rfl rfl (Nat.le_of_ble_eq_true rfl) (by decide) t_X11_round_4 hD (fun _ e => S_X8_clear hρ  e) (fun w1 hD => ?_)
  refine g_aload_n h 0 t_X11_round_7 rfl ?_
  refine g_getR h 75 11 98 fl_11_75 rfl (by decide) rfl t_X11_round_8 ?_
  refine g_aload_n h 0 t_X11_round_11 rfl ?_
  refine g_getR h 75 0 0 fl_11_10 rfl (by decide) rfl t_X11_round_12 ?_
  refine g_callVV h 98 (As := [.ref (ρ 0)]) (st := []) my_X8_put mi_X8_put ml_11_356 rfl (by decide) rfl rfl rfl (Nat.le_of_ble_eq_true rfl) (by decide) t_X11_round_15 hD (fun _ e => S_X8_put hρ (by decide) e) (fun w2 hD => ?_)
  refine g_aload_n h 0 t_X11_round_18 rfl ?_
  refine g_getR h 75 2 6 fl_11_19 rfl (by decide) rfl t_X11_round_19 ?_
  refine g_aload_n h 0 t_X11_round_22 rfl ?_
  refine g_getR h 75 0 0 fl_11_10 rfl (by decide) rfl t_X11_round_23 ?_
  refine g_callVV h 6 (As := [.ref (ρ 0)]) (st := []) my_X5_take mi_X5_take ml_11_269 rfl (by decide) rfl rfl rfl (Nat.le_of_ble_eq_true rfl) (by decide) t_X11_round_26 hD (fun _ e => S_X5_take hρ (by decide) (by decide) e) (fun w3 hD => ?_)
  refine g_iconst (v := 1) h t_X11_round_29 (by decide) ?_
  refine g_istore_n (L' := [(1, .int 1), (0, .ref (ρ 75))]) h hn t_X11_round_30 rfl (by decide) rfl ?_
  refine g_loc (L' := [(0, .ref (ρ 75)), (1, .int 1)]) h [1, 0] rfl ?_
  refine Q_X11_round_31 hρ hn h hR  ?_ ?_ ?_ _ _ _ hD
  · intro w16 hD
    unfold J_X11_round_x59_1 at hD
    refine g_bipush (v := (-2)) h t_X11_round_59 (by decide) ?_
    obtain rfl := Option.some.inj hD
    exact hR _ _ t_X11_round_61 rfl
  · intro x17 x18 w19 hD
    unfold J_X11_round_x78_2 at hD
    refine g_aload_n h 0 t_X11_round_78 rfl ?_
    refine g_getR h 75 7 82 fl_11_47 rfl (by decide) rfl t_X11_round_79 ?_
    refine g_iload_n h 2 t_X11_round_82 rfl ?_
    refine g_i2l h t_X11_round_83 ?_
    refine g_callVV h 82 (As := [.long x18.toInt64]) (st := []) my_X3_tell mi_X3_tell ml_11_292 rfl (by decide) rfl rfl rfl (Nat.le_of_ble_eq_true rfl) (by decide) t_X11_round_84 hD (fun _ e => S_X3_tell hρ  e) (fun w20 hD => ?_)
    refine g_iload_n h 1 t_X11_round_87 rfl ?_
    obtain rfl := Option.some.inj hD
    exact hR _ _ t_X11_round_88 rfl
  · intro w21 hD
    unfold J_X11_round_x106_3 at hD
    refine g_bipush (v := (-2)) h t_X11_round_106 (by decide) ?_
    obtain rfl := Option.some.inj hD
    exact hR _ _ t_X11_round_108 rfl
def J_X11_fullest_j71_1 (r37 : Int32 → Int32 → Wd → Option (Int32 × Wd)) (x7 : Int32) : Int32 → Wd → Option (Int32 × Wd) := fun x11 w12 =>
  bd (x7 + 1) fun x14 => r37 x11 x14 w12
def L_X11_fullest_37 (k4 : Int32 → Wd → Option (Int32 × Wd)) : Nat → Int32 → Int32 → Wd → Option (Int32 × Wd)
  | 0, _, _, _ => none
  | n5 + 1, x6, x7, w8 =>
    bc (D_X5_pits 6 w8) fun x10 w9 => if x10 ≤ x7 then (k4 x6 w9) else (if ib x7 12 then (if ib x6 12 then (bd (J_X11_fullest_j71_1 (L_X11_fullest_37 k4 n5) x7) fun k13 => if (w9.1 7 x7.toNatClampNeg) ≤ (w9.1 7 x6.toNatClampNeg) then (k13 x6 w9) else (k13 x7 w9)) else none) else none)
def J_X11_fullest_x77_2  : Int32 → Wd → Option (Int32 × Wd) := fun x15 w16 =>
  if ib x15 12 then (bv (D_X3_tell ((w16.1 7 x15.toNatClampNeg).toInt64) w16) fun w17 => some (x15, w17)) else none
def D_X11_fullest (p1 : Int32) : Wd → Option (Int32 × Wd) := fun w =>
  if p1 < 0 then (some ((-1), w)) else (if p1 ≤ 60 then (bv (D_X5_take 6 0 w) fun w1 => bc (D_X11_playOn 6 p1 w1) fun x3 w2 => L_X11_fullest_37 J_X11_fullest_x77_2 FU 0 1 w2) else (some ((-1), w)))
set_option maxRecDepth 20000 in
theorem Q_X11_fullest_37 {l0 : Launch} {ρ : Nat → Nat} {cs : Nat → ClassId} {G : va_G} {X : Cx} (hρ : injN ρ) (hn : X.2.2.2.2.2.2.2.2.2.2.1 = 4) (h : Okx l0 ρ cs G X prog_1_method_43_code "SowingBoards" 14) {rr : (Int32 × Wd)} (hR : ∀ pc L, decode prog_1_method_43_code pc = .ok (.ireturn, 1) → narrow .int (.int rr.1) = .int rr.1 → gG ρ cs G X pc L [.int rr.1] rr.2)  {k4 : Int32 → Wd → Option (Int32 × Wd)} (hk4 : ∀ (z2 : Int32) (w1 : Wd), k4 z2 w1 = some rr → gG ρ cs G X 77 [(0, .ref (ρ 75)), (2, .int z2)] [] w1) : ∀ (n : Nat) (x6 : Int32) (x7 : Int32) (w : Wd), L_X11_fullest_37 k4 n x6 x7 w = some rr → gG ρ cs G X 37 [(0, .ref (ρ 75)), (2, .int x6), (3, .int x7)] [] w := by
  intro n
  induction n with
  | zero =>
    intro x6 x7 w hD
    cases hD
  | succ n5 ih =>
    intro x6 x7 w8 hD
    unfold L_X11_fullest_37 at hD
    refine g_iload_n h 2 t_X11_fullest_37 rfl ?_
    refine g_aload_n h 0 t_X11_fullest_38 rfl ?_
    refine g_getR h 75 2 6 fl_11_19 rfl (by decide) rfl t_X11_fullest_39 ?_
    refine g_callVI h 6 (As := []) (st := [.int x7]) my_X5_pits mi_X5_pits ml_11_116 rfl (by decide) rfl rfl rfl (Nat.le_of_ble_eq_true rfl) (by decide) t_X11_fullest_42 hD (fun _ _ e => S_X5_pits hρ (by decide) e) (fun x10 w9 hD => ?_)
    refine g_icmp_ge (tgt := 77) h t_X11_fullest_45 (by decide) hD (fun hD => ?_) (fun hD => ?_)
    · refine g_loc (L' := [(0, .ref (ρ 75)), (2, .int x6)]) h [0, 1] rfl ?_
      exact hk4 x6 _ hD
    · refine g_aload_n h 0 t_X11_fullest_48 rfl ?_
      refine g_getR h 75 2 6 fl_11_19 rfl (by decide) rfl t_X11_fullest_49 ?_
      refine g_getQ h 6 0 7 1 (by decide) rfl fl_11_120 rfl (by decide) rfl t_X11_fullest_52 ?_
      refine g_iload_n h 2 t_X11_fullest_55 rfl ?_
      refine g_iald h 7 rfl (by decide) t_X11_fullest_56 hD (fun hD => ?_)
      refine g_aload_n h 0 t_X11_fullest_57 rfl ?_
      refine g_getR h 75 2 6 fl_11_19 rfl (by decide) rfl t_X11_fullest_58 ?_
      refine g_getQ h 6 0 7 1 (by decide) rfl fl_11_120 rfl (by decide) rfl t_X11_fullest_61 ?_
      refine g_iload_n h 1 t_X11_fullest_64 rfl ?_
      refine g_iald h 7 rfl (by decide) t_X11_fullest_65 hD (fun hD => ?_)
      refine g_join (P := fun k13 => ∀ (x11 : Int32) (w12 : Wd), k13 x11 w12 = some rr → gG ρ cs G X 71 [(0, .ref (ρ 75)), (2, .int x11), (3, .int x7)] [] w12) hD ?_ (fun k13 hk13 hD => ?_)
      · intro x11 w12 hD
        unfold J_X11_fullest_j71_1 at hD
        obtain ⟨x14, ex14, hD⟩ := bd_ex hD
        refine g_iinc (v := x14) (L' := [(3, .int x14), (0, .ref (ρ 75)), (2, .int x11)]) h hn t_X11_fullest_71 (k := 2) rfl (by rw [ex14]; rfl) (by decide) rfl ?_
        refine g_goto (tgt := 37) h t_X11_fullest_74 (by decide) ?_
        refine g_loc (L' := [(0, .ref (ρ 75)), (2, .int x11), (3, .int x14)]) h [1, 2, 0] rfl ?_
        exact ih x11 x14 _ hD
      · refine g_icmp_le (tgt := 71) h t_X11_fullest_66 (by decide) hD (fun hD => ?_) (fun hD => ?_)
        · refine g_loc (L' := [(0, .ref (ρ 75)), (2, .int x6), (3, .int x7)]) h [0, 1, 2] rfl ?_
          exact hk13 x6 _ hD
        · refine g_iload_n h 2 t_X11_fullest_69 rfl ?_
          refine g_istore_n (L' := [(2, .int x7), (0, .ref (ρ 75)), (3, .int x7)]) h hn t_X11_fullest_70 rfl (by decide) rfl ?_
          refine g_loc (L' := [(0, .ref (ρ 75)), (2, .int x7), (3, .int x7)]) h [1, 0, 2] rfl ?_
          exact hk13 x7 _ hD
set_option maxRecDepth 20000 in
theorem S_X11_fullest {l0 : Launch} {ρ : Nat → Nat} {cs : Nat → ClassId} {G : va_G} (hρ : injN ρ) {p1 : Int32} {w : Wd} {rr : (Int32 × Wd)} (hD : D_X11_fullest p1 w = some rr) : CtI l0 ρ cs G y_X11_fullest prog_1_method_43_code 4 .int 14 [.ref (ρ 75), .int p1] w rr.1 rr.2 := by
  refine ctI_of hρ (by decide) (Nat.le_of_ble_eq_true rfl) (fun X hn h hR => ?_)
  unfold D_X11_fullest at hD
  show gG ρ cs G X 0 [(0, .ref (ρ 75)), (1, .int p1)] [] w
  refine g_iload_n h 1 t_X11_fullest_0 rfl ?_
  refine g_if_lt (tgt := 10) h t_X11_fullest_1 (by decide) hD (fun hD => ?_) (fun hD => ?_)
  · refine g_iconst (v := (-1)) h t_X11_fullest_10 (by decide) ?_
    obtain rfl := Option.some.inj hD
    exact hR _ _ t_X11_fullest_11 rfl
  · refine g_iload_n h 1 t_X11_fullest_4 rfl ?_
    refine g_bipush (v := 60) h t_X11_fullest_5 (by decide) ?_
    refine g_icmp_le (tgt := 12) h t_X11_fullest_7 (by decide) hD (fun hD => ?_) (fun hD => ?_)
    · refine g_aload_n h 0 t_X11_fullest_12 rfl ?_
      refine g_getR h 75 2 6 fl_11_19 rfl (by decide) rfl t_X11_fullest_13 ?_
      refine g_aload_n h 0 t_X11_fullest_16 rfl ?_
      refine g_getR h 75 0 0 fl_11_10 rfl (by decide) rfl t_X11_fullest_17 ?_
      refine g_callVV h 6 (As := [.ref (ρ 0)]) (st := []) my_X5_take mi_X5_take ml_11_269 rfl (by decide) rfl rfl rfl (Nat.le_of_ble_eq_true rfl) (by decide) t_X11_fullest_20 hD (fun _ e => S_X5_take hρ (by decide) (by decide) e) (fun w1 hD => ?_)
      refine g_aload_n h 0 t_X11_fullest_23 rfl ?_
      refine g_aload_n h 0 t_X11_fullest_24 rfl ?_
      refine g_getR h 75 2 6 fl_11_19 rfl (by decide) rfl t_X11_fullest_25 ?_
      refine g_iload_n h 1 t_X11_fullest_28 rfl ?_
      refine g_callVI h 75 (As := [.ref (ρ 6), .int p1]) (st := []) my_X11_playOn mi_X11_playOn ml_11_249 rfl (by decide) rfl rfl rfl (Nat.le_of_ble_eq_true rfl) (by decide) t_X11_fullest_29 hD (fun _ _ e => S_X11_playOn hρ (by decide) e) (fun x3 w2 hD => ?_)
      refine g_pop h t_X11_fullest_32 rfl ?_
      refine g_iconst (v := 0) h t_X11_fullest_33 (by decide) ?_
      refine g_istore_n (L' := [(2, .int 0), (0, .ref (ρ 75)), (1, .int p1)]) h hn t_X11_fullest_34 rfl (by decide) rfl ?_
      refine g_iconst (v := 1) h t_X11_fullest_35 (by decide) ?_
      refine g_istore_n (L' := [(3, .int 1), (2, .int 0), (0, .ref (ρ 75)), (1, .int p1)]) h hn t_X11_fullest_36 rfl (by decide) rfl ?_
      refine g_loc (L' := [(0, .ref (ρ 75)), (2, .int 0), (3, .int 1)]) h [2, 1, 0] rfl ?_
      refine Q_X11_fullest_37 hρ hn h hR  ?_ _ _ _ _ hD
      · intro x15 w16 hD
        unfold J_X11_fullest_x77_2 at hD
        refine g_aload_n h 0 t_X11_fullest_77 rfl ?_
        refine g_getR h 75 7 82 fl_11_47 rfl (by decide) rfl t_X11_fullest_78 ?_
        refine g_aload_n h 0 t_X11_fullest_81 rfl ?_
        refine g_getR h 75 2 6 fl_11_19 rfl (by decide) rfl t_X11_fullest_82 ?_
        refine g_getQ h 6 0 7 1 (by decide) rfl fl_11_120 rfl (by decide) rfl t_X11_fullest_85 ?_
        refine g_iload_n h 1 t_X11_fullest_88 rfl ?_
        refine g_iald h 7 rfl (by decide) t_X11_fullest_89 hD (fun hD => ?_)
        refine g_i2l h t_X11_fullest_90 ?_
        refine g_callVV h 82 (As := [.long ((w16.1 7 x15.toNatClampNeg).toInt64)]) (st := []) my_X3_tell mi_X3_tell ml_11_292 rfl (by decide) rfl rfl rfl (Nat.le_of_ble_eq_true rfl) (by decide) t_X11_fullest_91 hD (fun _ e => S_X3_tell hρ  e) (fun w17 hD => ?_)
        refine g_iload_n h 1 t_X11_fullest_94 rfl ?_
        obtain rfl := Option.some.inj hD
        exact hR _ _ t_X11_fullest_95 rfl
    · refine g_iconst (v := (-1)) h t_X11_fullest_10 (by decide) ?_
      obtain rfl := Option.some.inj hD
      exact hR _ _ t_X11_fullest_11 rfl
def L_X11_clearTally_2 (k1 : Wd → Option Wd) : Nat → Int32 → Wd → Option Wd
  | 0, _, _ => none
  | n2 + 1, x3, w4 =>
    if 21 ≤ x3 then (k1 w4) else (if ib x3 21 then bd (wI w4 118 x3.toNatClampNeg 0) (fun w5 => bd (x3 + 1) fun x6 => L_X11_clearTally_2 k1 n2 x6 w5) else none)
def J_X11_clearTally_x24_1  : Wd → Option Wd := fun w7 =>
  some w7
def D_X11_clearTally  : Wd → Option Wd := fun w =>
  L_X11_clearTally_2 J_X11_clearTally_x24_1 FU 0 w
set_option maxRecDepth 20000 in
theorem Q_X11_clearTally_2 {l0 : Launch} {ρ : Nat → Nat} {cs : Nat → ClassId} {G : va_G} {X : Cx} (hρ : injN ρ) (hn : X.2.2.2.2.2.2.2.2.2.2.1 = 2) (h : Okx l0 ρ cs G X prog_1_method_46_code "SowingBoards" 0) {rr : Wd} (hR : ∀ pc L, decode prog_1_method_46_code pc = .ok (.return_, 1) → gG ρ cs G X pc L [] rr)  {k1 : Wd → Option Wd} (hk1 : ∀ (w1 : Wd), k1 w1 = some rr → gG ρ cs G X 24 [] [] w1) : ∀ (n : Nat) (x3 : Int32) (w : Wd), L_X11_clearTally_2 k1 n x3 w = some rr → gG ρ cs G X 2 [(0, .ref (ρ 75)), (1, .int x3)] [] w := by
  intro n
  induction n with
  | zero =>
    intro x3 w hD
    cases hD
  | succ n2 ih =>
    intro x3 w4 hD
    unfold L_X11_clearTally_2 at hD
    refine g_iload_n h 1 t_X11_clearTally_2 rfl ?_
    refine g_aload_n h 0 t_X11_clearTally_3 rfl ?_
    refine g_getR h 75 17 118 fl_11_108 rfl (by decide) rfl t_X11_clearTally_4 ?_
    refine g_alen (v := 21) h 118 rfl (by decide) (by decide) t_X11_clearTally_7 ?_
    refine g_icmp_ge (tgt := 24) h t_X11_clearTally_8 (by decide) hD (fun hD => ?_) (fun hD => ?_)
    · refine g_loc (L' := []) h [] rfl ?_
      exact hk1 _ hD
    · refine g_aload_n h 0 t_X11_clearTally_11 rfl ?_
      refine g_getR h 75 17 118 fl_11_108 rfl (by decide) rfl t_X11_clearTally_12 ?_
      refine g_iload_n h 1 t_X11_clearTally_15 rfl ?_
      refine g_iconst (v := 0) h t_X11_clearTally_16 (by decide) ?_
      refine g_iast h 118 rfl (by decide) t_X11_clearTally_17 hD (fun w5 hD => ?_)
      obtain ⟨x6, ex6, hD⟩ := bd_ex hD
      refine g_iinc (v := x6) (L' := [(1, .int x6), (0, .ref (ρ 75))]) h hn t_X11_clearTally_18 (k := 1) rfl (by rw [ex6]; rfl) (by decide) rfl ?_
      refine g_goto (tgt := 2) h t_X11_clearTally_21 (by decide) ?_
      refine g_loc (L' := [(0, .ref (ρ 75)), (1, .int x6)]) h [1, 0] rfl ?_
      exact ih x6 _ hD
set_option maxRecDepth 20000 in
theorem S_X11_clearTally {l0 : Launch} {ρ : Nat → Nat} {cs : Nat → ClassId} {G : va_G} (hρ : injN ρ)  {w : Wd} {rr : Wd} (hD : D_X11_clearTally w = some rr) : CtV l0 ρ cs G y_X11_clearTally prog_1_method_46_code 2 0 [.ref (ρ 75)] w rr := by
  refine ctV_of hρ (by decide) (Nat.le_of_ble_eq_true rfl) (fun X hn h hR => ?_)
  unfold D_X11_clearTally at hD
  show gG ρ cs G X 0 [(0, .ref (ρ 75))] [] w
  refine g_iconst (v := 0) h t_X11_clearTally_0 (by decide) ?_
  refine g_istore_n (L' := [(1, .int 0), (0, .ref (ρ 75))]) h hn t_X11_clearTally_1 rfl (by decide) rfl ?_
  refine g_loc (L' := [(0, .ref (ρ 75)), (1, .int 0)]) h [1, 0] rfl ?_
  refine Q_X11_clearTally_2 hρ hn h hR  ?_ _ _ _ hD
  · intro w7 hD
    unfold J_X11_clearTally_x24_1 at hD
    obtain rfl := Option.some.inj hD
    exact hR _ _ t_X11_clearTally_24
def L_X11_unsow_2 (k1 : Int32 → Wd → Option Wd) : Nat → Int32 → Wd → Option Wd
  | 0, _, _ => none
  | n2 + 1, x3, w4 =>
    if 20 ≤ x3 then (k1 x3 w4) else (if ib x3 21 then (if (w4.1 118 x3.toNatClampNeg) ≤ 0 then (k1 x3 w4) else (if ib x3 21 then (if ib x3 21 then bd (wI w4 118 x3.toNatClampNeg ((w4.1 118 x3.toNatClampNeg) - 1)) (fun w5 => bd (x3 + 1) fun x6 => L_X11_unsow_2 k1 n2 x6 w5) else none) else none)) else none)
def J_X11_unsow_x33_1  : Int32 → Wd → Option Wd := fun x7 w8 =>
  if ib x7 21 then bd (wI w8 118 x7.toNatClampNeg x7) (fun w9 => some w9) else none
def D_X11_unsow  : Wd → Option Wd := fun w =>
  L_X11_unsow_2 J_X11_unsow_x33_1 FU 1 w
set_option maxRecDepth 20000 in
theorem Q_X11_unsow_2 {l0 : Launch} {ρ : Nat → Nat} {cs : Nat → ClassId} {G : va_G} {X : Cx} (hρ : injN ρ) (hn : X.2.2.2.2.2.2.2.2.2.2.1 = 2) (h : Okx l0 ρ cs G X prog_1_method_45_code "SowingBoards" 0) {rr : Wd} (hR : ∀ pc L, decode prog_1_method_45_code pc = .ok (.return_, 1) → gG ρ cs G X pc L [] rr)  {k1 : Int32 → Wd → Option Wd} (hk1 : ∀ (z1 : Int32) (w1 : Wd), k1 z1 w1 = some rr → gG ρ cs G X 33 [(0, .ref (ρ 75)), (1, .int z1)] [] w1) : ∀ (n : Nat) (x3 : Int32) (w : Wd), L_X11_unsow_2 k1 n x3 w = some rr → gG ρ cs G X 2 [(0, .ref (ρ 75)), (1, .int x3)] [] w := by
  intro n
  induction n with
  | zero =>
    intro x3 w hD
    cases hD
  | succ n2 ih =>
    intro x3 w4 hD
    unfold L_X11_unsow_2 at hD
    refine g_iload_n h 1 t_X11_unsow_2 rfl ?_
    refine g_bipush (v := 20) h t_X11_unsow_3 (by decide) ?_
    refine g_icmp_ge (tgt := 33) h t_X11_unsow_5 (by decide) hD (fun hD => ?_) (fun hD => ?_)
    · refine g_loc (L' := [(0, .ref (ρ 75)), (1, .int x3)]) h [0, 1] rfl ?_
      exact hk1 x3 _ hD
    · refine g_aload_n h 0 t_X11_unsow_8 rfl ?_
      refine g_getR h 75 17 118 fl_11_108 rfl (by decide) rfl t_X11_unsow_9 ?_
      refine g_iload_n h 1 t_X11_unsow_12 rfl ?_
      refine g_iald h 118 rfl (by decide) t_X11_unsow_13 hD (fun hD => ?_)
      refine g_if_le (tgt := 33) h t_X11_unsow_14 (by decide) hD (fun hD => ?_) (fun hD => ?_)
      · refine g_loc (L' := [(0, .ref (ρ 75)), (1, .int x3)]) h [0, 1] rfl ?_
        exact hk1 x3 _ hD
      · refine g_aload_n h 0 t_X11_unsow_17 rfl ?_
        refine g_getR h 75 17 118 fl_11_108 rfl (by decide) rfl t_X11_unsow_18 ?_
        refine g_iload_n h 1 t_X11_unsow_21 rfl ?_
        refine g_dup2 h t_X11_unsow_22 rfl rfl ?_
        refine g_iald h 118 rfl (by decide) t_X11_unsow_23 hD (fun hD => ?_)
        refine g_iconst (v := 1) h t_X11_unsow_24 (by decide) ?_
        refine g_isub h t_X11_unsow_25 ?_
        refine g_iast h 118 rfl (by decide) t_X11_unsow_26 hD (fun w5 hD => ?_)
        obtain ⟨x6, ex6, hD⟩ := bd_ex hD
        refine g_iinc (v := x6) (L' := [(1, .int x6), (0, .ref (ρ 75))]) h hn t_X11_unsow_27 (k := 1) rfl (by rw [ex6]; rfl) (by decide) rfl ?_
        refine g_goto (tgt := 2) h t_X11_unsow_30 (by decide) ?_
        refine g_loc (L' := [(0, .ref (ρ 75)), (1, .int x6)]) h [1, 0] rfl ?_
        exact ih x6 _ hD
set_option maxRecDepth 20000 in
theorem S_X11_unsow {l0 : Launch} {ρ : Nat → Nat} {cs : Nat → ClassId} {G : va_G} (hρ : injN ρ)  {w : Wd} {rr : Wd} (hD : D_X11_unsow w = some rr) : CtV l0 ρ cs G y_X11_unsow prog_1_method_45_code 2 0 [.ref (ρ 75)] w rr := by
  refine ctV_of hρ (by decide) (Nat.le_of_ble_eq_true rfl) (fun X hn h hR => ?_)
  unfold D_X11_unsow at hD
  show gG ρ cs G X 0 [(0, .ref (ρ 75))] [] w
  refine g_iconst (v := 1) h t_X11_unsow_0 (by decide) ?_
  refine g_istore_n (L' := [(1, .int 1), (0, .ref (ρ 75))]) h hn t_X11_unsow_1 rfl (by decide) rfl ?_
  refine g_loc (L' := [(0, .ref (ρ 75)), (1, .int 1)]) h [1, 0] rfl ?_
  refine Q_X11_unsow_2 hρ hn h hR  ?_ _ _ _ hD
  · intro x7 w8 hD
    unfold J_X11_unsow_x33_1 at hD
    refine g_aload_n h 0 t_X11_unsow_33 rfl ?_
    refine g_getR h 75 17 118 fl_11_108 rfl (by decide) rfl t_X11_unsow_34 ?_
    refine g_iload_n h 1 t_X11_unsow_37 rfl ?_
    refine g_iload_n h 1 t_X11_unsow_38 rfl ?_
    refine g_iast h 118 rfl (by decide) t_X11_unsow_39 hD (fun w9 hD => ?_)
    obtain rfl := Option.some.inj hD
    exact hR _ _ t_X11_unsow_40
def L_X11_alone_18 (x2 : Int32) (k3 : Wd → Option (Int32 × Wd)) : Nat → Int32 → Wd → Option (Int32 × Wd)
  | 0, _, _ => none
  | n4 + 1, x5, w6 =>
    if x2 ≤ x5 then (k3 w6) else (bv (D_X11_unsow w6) fun w7 => bd (x5 + 1) fun x8 => L_X11_alone_18 x2 k3 n4 x8 w7)
def J_X11_alone_j57_1 (r37 : Int32 → Int32 → Wd → Option (Int32 × Wd)) (x13 : Int32) : Int32 → Wd → Option (Int32 × Wd) := fun x15 w16 =>
  bd (x13 + 1) fun x18 => r37 x15 x18 w16
def L_X11_alone_37 (k10 : Int32 → Wd → Option (Int32 × Wd)) : Nat → Int32 → Int32 → Wd → Option (Int32 × Wd)
  | 0, _, _, _ => none
  | n11 + 1, x12, x13, w14 =>
    if 20 < x13 then (k10 x12 w14) else (if ib x13 21 then (bd (J_X11_alone_j57_1 (L_X11_alone_37 k10 n11) x13) fun k17 => if (w14.1 118 x13.toNatClampNeg) ≤ 0 then (k17 x12 w14) else (k17 x13 w14)) else none)
def L_X11_alone_73 (x22 : Int32) (k23 : Wd → Option (Int32 × Wd)) : Nat → Int32 → Wd → Option (Int32 × Wd)
  | 0, _, _ => none
  | n24 + 1, x25, w26 =>
    if x22 < x25 then (k23 w26) else (if ib x25 21 then (bv (D_X3_add ((w26.1 118 x25.toNatClampNeg).toInt64) w26) fun w27 => bd (x25 + 1) fun x28 => L_X11_alone_73 x22 k23 n24 x28 w27) else none)
def J_X11_alone_x98_2 (x19 : Int32) : Wd → Option (Int32 × Wd) := fun w29 =>
  some (x19, w29)
def J_X11_alone_x64_3  : Int32 → Wd → Option (Int32 × Wd) := fun x19 w20 =>
  bv (D_X3_clear w20) fun w21 => L_X11_alone_73 x19 (J_X11_alone_x98_2 x19) FU 1 w21
def J_X11_alone_x33_4  : Wd → Option (Int32 × Wd) := fun w9 =>
  L_X11_alone_37 J_X11_alone_x64_3 FU 0 1 w9
def D_X11_alone (p1 : Int32) : Wd → Option (Int32 × Wd) := fun w =>
  if p1 < 0 then (some ((-1), w)) else (if p1 ≤ 99 then (bv (D_X11_clearTally w) fun w1 => L_X11_alone_18 p1 J_X11_alone_x33_4 FU 0 w1) else (some ((-1), w)))
set_option maxRecDepth 20000 in
theorem Q_X11_alone_18 {l0 : Launch} {ρ : Nat → Nat} {cs : Nat → ClassId} {G : va_G} {X : Cx} (hρ : injN ρ) (hn : X.2.2.2.2.2.2.2.2.2.2.1 = 4) (h : Okx l0 ρ cs G X prog_1_method_44_code "SowingBoards" 1) {rr : (Int32 × Wd)} (hR : ∀ pc L, decode prog_1_method_44_code pc = .ok (.ireturn, 1) → narrow .int (.int rr.1) = .int rr.1 → gG ρ cs G X pc L [.int rr.1] rr.2) {x2 : Int32} {k3 : Wd → Option (Int32 × Wd)} (hk3 : ∀ (w1 : Wd), k3 w1 = some rr → gG ρ cs G X 33 [(0, .ref (ρ 75))] [] w1) : ∀ (n : Nat) (x5 : Int32) (w : Wd), L_X11_alone_18 x2 k3 n x5 w = some rr → gG ρ cs G X 18 [(0, .ref (ρ 75)), (1, .int x2), (2, .int x5)] [] w := by
  intro n
  induction n with
  | zero =>
    intro x5 w hD
    cases hD
  | succ n4 ih =>
    intro x5 w6 hD
    unfold L_X11_alone_18 at hD
    refine g_iload_n h 2 t_X11_alone_18 rfl ?_
    refine g_iload_n h 1 t_X11_alone_19 rfl ?_
    refine g_icmp_ge (tgt := 33) h t_X11_alone_20 (by decide) hD (fun hD => ?_) (fun hD => ?_)
    · refine g_loc (L' := [(0, .ref (ρ 75))]) h [0] rfl ?_
      exact hk3 _ hD
    · refine g_aload_n h 0 t_X11_alone_23 rfl ?_
      refine g_callVV h 75 (As := []) (st := []) my_X11_unsow mi_X11_unsow ml_11_366 rfl (by decide) rfl rfl rfl (Nat.le_of_ble_eq_true rfl) (by decide) t_X11_alone_24 hD (fun _ e => S_X11_unsow hρ  e) (fun w7 hD => ?_)
      obtain ⟨x8, ex8, hD⟩ := bd_ex hD
      refine g_iinc (v := x8) (L' := [(2, .int x8), (0, .ref (ρ 75)), (1, .int x2)]) h hn t_X11_alone_27 (k := 2) rfl (by rw [ex8]; rfl) (by decide) rfl ?_
      refine g_goto (tgt := 18) h t_X11_alone_30 (by decide) ?_
      refine g_loc (L' := [(0, .ref (ρ 75)), (1, .int x2), (2, .int x8)]) h [1, 2, 0] rfl ?_
      exact ih x8 _ hD
set_option maxRecDepth 20000 in
theorem Q_X11_alone_37 {l0 : Launch} {ρ : Nat → Nat} {cs : Nat → ClassId} {G : va_G} {X : Cx} (hρ : injN ρ) (hn : X.2.2.2.2.2.2.2.2.2.2.1 = 4) (h : Okx l0 ρ cs G X prog_1_method_44_code "SowingBoards" 1) {rr : (Int32 × Wd)} (hR : ∀ pc L, decode prog_1_method_44_code pc = .ok (.ireturn, 1) → narrow .int (.int rr.1) = .int rr.1 → gG ρ cs G X pc L [.int rr.1] rr.2)  {k10 : Int32 → Wd → Option (Int32 × Wd)} (hk10 : ∀ (z2 : Int32) (w1 : Wd), k10 z2 w1 = some rr → gG ρ cs G X 64 [(0, .ref (ρ 75)), (2, .int z2)] [] w1) : ∀ (n : Nat) (x12 : Int32) (x13 : Int32) (w : Wd), L_X11_alone_37 k10 n x12 x13 w = some rr → gG ρ cs G X 37 [(0, .ref (ρ 75)), (2, .int x12), (3, .int x13)] [] w := by
  intro n
  induction n with
  | zero =>
    intro x12 x13 w hD
    cases hD
  | succ n11 ih =>
    intro x12 x13 w14 hD
    unfold L_X11_alone_37 at hD
    refine g_iload_n h 2 t_X11_alone_37 rfl ?_
    refine g_bipush (v := 20) h t_X11_alone_38 (by decide) ?_
    refine g_icmp_gt (tgt := 64) h t_X11_alone_40 (by decide) hD (fun hD => ?_) (fun hD => ?_)
    · refine g_loc (L' := [(0, .ref (ρ 75)), (2, .int x12)]) h [0, 1] rfl ?_
      exact hk10 x12 _ hD
    · refine g_aload_n h 0 t_X11_alone_43 rfl ?_
      refine g_getR h 75 17 118 fl_11_108 rfl (by decide) rfl t_X11_alone_44 ?_
      refine g_iload_n h 2 t_X11_alone_47 rfl ?_
      refine g_iald h 118 rfl (by decide) t_X11_alone_48 hD (fun hD => ?_)
      refine g_join (P := fun k17 => ∀ (x15 : Int32) (w16 : Wd), k17 x15 w16 = some rr → gG ρ cs G X 57 [(0, .ref (ρ 75)), (3, .int x13)] [.int x15] w16) hD ?_ (fun k17 hk17 hD => ?_)
      · intro x15 w16 hD
        unfold J_X11_alone_j57_1 at hD
        refine g_istore_n (L' := [(2, .int x15), (0, .ref (ρ 75)), (3, .int x13)]) h hn t_X11_alone_57 rfl (by decide) rfl ?_
        obtain ⟨x18, ex18, hD⟩ := bd_ex hD
        refine g_iinc (v := x18) (L' := [(3, .int x18), (2, .int x15), (0, .ref (ρ 75))]) h hn t_X11_alone_58 (k := 2) rfl (by rw [ex18]; rfl) (by decide) rfl ?_
        refine g_goto (tgt := 37) h t_X11_alone_61 (by decide) ?_
        refine g_loc (L' := [(0, .ref (ρ 75)), (2, .int x15), (3, .int x18)]) h [2, 1, 0] rfl ?_
        exact ih x15 x18 _ hD
      · refine g_if_le (tgt := 56) h t_X11_alone_49 (by decide) hD (fun hD => ?_) (fun hD => ?_)
        · refine g_iload_n h 1 t_X11_alone_56 rfl ?_
          refine g_loc (L' := [(0, .ref (ρ 75)), (3, .int x13)]) h [0, 2] rfl ?_
          exact hk17 x12 _ hD
        · refine g_iload_n h 2 t_X11_alone_52 rfl ?_
          refine g_goto (tgt := 57) h t_X11_alone_53 (by decide) ?_
          refine g_loc (L' := [(0, .ref (ρ 75)), (3, .int x13)]) h [0, 2] rfl ?_
          exact hk17 x13 _ hD
set_option maxRecDepth 20000 in
theorem Q_X11_alone_73 {l0 : Launch} {ρ : Nat → Nat} {cs : Nat → ClassId} {G : va_G} {X : Cx} (hρ : injN ρ) (hn : X.2.2.2.2.2.2.2.2.2.2.1 = 4) (h : Okx l0 ρ cs G X prog_1_method_44_code "SowingBoards" 1) {rr : (Int32 × Wd)} (hR : ∀ pc L, decode prog_1_method_44_code pc = .ok (.ireturn, 1) → narrow .int (.int rr.1) = .int rr.1 → gG ρ cs G X pc L [.int rr.1] rr.2) {x22 : Int32} {k23 : Wd → Option (Int32 × Wd)} (hk23 : ∀ (w1 : Wd), k23 w1 = some rr → gG ρ cs G X 98 [(2, .int x22)] [] w1) : ∀ (n : Nat) (x25 : Int32) (w : Wd), L_X11_alone_73 x22 k23 n x25 w = some rr → gG ρ cs G X 73 [(0, .ref (ρ 75)), (2, .int x22), (3, .int x25)] [] w := by
  intro n
  induction n with
  | zero =>
    intro x25 w hD
    cases hD
  | succ n24 ih =>
    intro x25 w26 hD
    unfold L_X11_alone_73 at hD
    refine g_iload_n h 2 t_X11_alone_73 rfl ?_
    refine g_iload_n h 1 t_X11_alone_74 rfl ?_
    refine g_icmp_gt (tgt := 98) h t_X11_alone_75 (by decide) hD (fun hD => ?_) (fun hD => ?_)
    · refine g_loc (L' := [(2, .int x22)]) h [1] rfl ?_
      exact hk23 _ hD
    · refine g_aload_n h 0 t_X11_alone_78 rfl ?_
      refine g_getR h 75 7 82 fl_11_47 rfl (by decide) rfl t_X11_alone_79 ?_
      refine g_aload_n h 0 t_X11_alone_82 rfl ?_
      refine g_getR h 75 17 118 fl_11_108 rfl (by decide) rfl t_X11_alone_83 ?_
      refine g_iload_n h 2 t_X11_alone_86 rfl ?_
      refine g_iald h 118 rfl (by decide) t_X11_alone_87 hD (fun hD => ?_)
      refine g_i2l h t_X11_alone_88 ?_
      refine g_callVV h 82 (As := [.long ((w26.1 118 x25.toNatClampNeg).toInt64)]) (st := []) my_X3_add mi_X3_add ml_11_322 rfl (by decide) rfl rfl rfl (Nat.le_of_ble_eq_true rfl) (by decide) t_X11_alone_89 hD (fun _ e => S_X3_add hρ  e) (fun w27 hD => ?_)
      obtain ⟨x28, ex28, hD⟩ := bd_ex hD
      refine g_iinc (v := x28) (L' := [(3, .int x28), (0, .ref (ρ 75)), (2, .int x22)]) h hn t_X11_alone_92 (k := 2) rfl (by rw [ex28]; rfl) (by decide) rfl ?_
      refine g_goto (tgt := 73) h t_X11_alone_95 (by decide) ?_
      refine g_loc (L' := [(0, .ref (ρ 75)), (2, .int x22), (3, .int x28)]) h [1, 2, 0] rfl ?_
      exact ih x28 _ hD
set_option maxRecDepth 20000 in
theorem S_X11_alone {l0 : Launch} {ρ : Nat → Nat} {cs : Nat → ClassId} {G : va_G} (hρ : injN ρ) {p1 : Int32} {w : Wd} {rr : (Int32 × Wd)} (hD : D_X11_alone p1 w = some rr) : CtI l0 ρ cs G y_X11_alone prog_1_method_44_code 4 .int 1 [.ref (ρ 75), .int p1] w rr.1 rr.2 := by
  refine ctI_of hρ (by decide) (Nat.le_of_ble_eq_true rfl) (fun X hn h hR => ?_)
  unfold D_X11_alone at hD
  show gG ρ cs G X 0 [(0, .ref (ρ 75)), (1, .int p1)] [] w
  refine g_iload_n h 1 t_X11_alone_0 rfl ?_
  refine g_if_lt (tgt := 10) h t_X11_alone_1 (by decide) hD (fun hD => ?_) (fun hD => ?_)
  · refine g_iconst (v := (-1)) h t_X11_alone_10 (by decide) ?_
    obtain rfl := Option.some.inj hD
    exact hR _ _ t_X11_alone_11 rfl
  · refine g_iload_n h 1 t_X11_alone_4 rfl ?_
    refine g_bipush (v := 99) h t_X11_alone_5 (by decide) ?_
    refine g_icmp_le (tgt := 12) h t_X11_alone_7 (by decide) hD (fun hD => ?_) (fun hD => ?_)
    · refine g_aload_n h 0 t_X11_alone_12 rfl ?_
      refine g_callVV h 75 (As := []) (st := []) my_X11_clearTally mi_X11_clearTally ml_11_363 rfl (by decide) rfl rfl rfl (Nat.le_of_ble_eq_true rfl) (by decide) t_X11_alone_13 hD (fun _ e => S_X11_clearTally hρ  e) (fun w1 hD => ?_)
      refine g_iconst (v := 0) h t_X11_alone_16 (by decide) ?_
      refine g_istore_n (L' := [(2, .int 0), (0, .ref (ρ 75)), (1, .int p1)]) h hn t_X11_alone_17 rfl (by decide) rfl ?_
      refine g_loc (L' := [(0, .ref (ρ 75)), (1, .int p1), (2, .int 0)]) h [1, 2, 0] rfl ?_
      refine Q_X11_alone_18 hρ hn h hR  ?_ _ _ _ hD
      · intro w9 hD
        unfold J_X11_alone_x33_4 at hD
        refine g_iconst (v := 0) h t_X11_alone_33 (by decide) ?_
        refine g_istore_n (L' := [(2, .int 0), (0, .ref (ρ 75))]) h hn t_X11_alone_34 rfl (by decide) rfl ?_
        refine g_iconst (v := 1) h t_X11_alone_35 (by decide) ?_
        refine g_istore_n (L' := [(3, .int 1), (2, .int 0), (0, .ref (ρ 75))]) h hn t_X11_alone_36 rfl (by decide) rfl ?_
        refine g_loc (L' := [(0, .ref (ρ 75)), (2, .int 0), (3, .int 1)]) h [2, 1, 0] rfl ?_
        refine Q_X11_alone_37 hρ hn h hR  ?_ _ _ _ _ hD
        · intro x19 w20 hD
          unfold J_X11_alone_x64_3 at hD
          refine g_aload_n h 0 t_X11_alone_64 rfl ?_
          refine g_getR h 75 7 82 fl_11_47 rfl (by decide) rfl t_X11_alone_65 ?_
          refine g_callVV h 82 (As := []) (st := []) my_X3_clear mi_X3_clear ml_11_321 rfl (by decide) rfl rfl rfl (Nat.le_of_ble_eq_true rfl) (by decide) t_X11_alone_68 hD (fun _ e => S_X3_clear hρ  e) (fun w21 hD => ?_)
          refine g_iconst (v := 1) h t_X11_alone_71 (by decide) ?_
          refine g_istore_n (L' := [(3, .int 1), (0, .ref (ρ 75)), (2, .int x19)]) h hn t_X11_alone_72 rfl (by decide) rfl ?_
          refine g_loc (L' := [(0, .ref (ρ 75)), (2, .int x19), (3, .int 1)]) h [1, 2, 0] rfl ?_
          refine Q_X11_alone_73 hρ hn h hR  ?_ _ _ _ hD
          · intro w29 hD
            unfold J_X11_alone_x98_2 at hD
            refine g_iload_n h 0 t_X11_alone_98 rfl ?_
            obtain rfl := Option.some.inj hD
            exact hR _ _ t_X11_alone_99 rfl
    · refine g_iconst (v := (-1)) h t_X11_alone_10 (by decide) ?_
      obtain rfl := Option.some.inj hD
      exact hR _ _ t_X11_alone_11 rfl
def L_X11_liftLeast_2 (k1 : Int32 → Wd → Option (Int32 × Wd)) : Nat → Int32 → Wd → Option (Int32 × Wd)
  | 0, _, _ => none
  | n2 + 1, x3, w4 =>
    if 20 ≤ x3 then (k1 x3 w4) else (if ib x3 21 then (if (w4.1 118 x3.toNatClampNeg) = x3 then (k1 x3 w4) else (bd (x3 + 1) fun x5 => L_X11_liftLeast_2 k1 n2 x5 w4)) else none)
def L_X11_liftLeast_45 (x9 : Int32) (k10 : Wd → Option (Int32 × Wd)) : Nat → Int32 → Wd → Option (Int32 × Wd)
  | 0, _, _ => none
  | n11 + 1, x12, w13 =>
    if x9 ≤ x12 then (k10 w13) else (if ib x12 21 then (if ib x12 21 then bd (wI w13 118 x12.toNatClampNeg ((w13.1 118 x12.toNatClampNeg) + 1)) (fun w14 => bd (x12 + 1) fun x15 => L_X11_liftLeast_45 x9 k10 n11 x15 w14) else none) else none)
def J_X11_liftLeast_x66_1  : Wd → Option (Int32 × Wd) := fun w16 =>
  some (1, w16)
def J_X11_liftLeast_x24_2  : Int32 → Wd → Option (Int32 × Wd) := fun x6 w7 =>
  if ib x6 21 then (if (w7.1 118 x6.toNatClampNeg) = x6 then (if ib x6 21 then bd (wI w7 118 x6.toNatClampNeg 0) (fun w8 => L_X11_liftLeast_45 x6 J_X11_liftLeast_x66_1 FU 1 w8) else none) else (some (0, w7))) else none
def D_X11_liftLeast  : Wd → Option (Int32 × Wd) := fun w =>
  L_X11_liftLeast_2 J_X11_liftLeast_x24_2 FU 1 w
set_option maxRecDepth 20000 in
theorem Q_X11_liftLeast_2 {l0 : Launch} {ρ : Nat → Nat} {cs : Nat → ClassId} {G : va_G} {X : Cx} (hρ : injN ρ) (hn : X.2.2.2.2.2.2.2.2.2.2.1 = 3) (h : Okx l0 ρ cs G X prog_1_method_50_code "SowingBoards" 0) {rr : (Int32 × Wd)} (hR : ∀ pc L, decode prog_1_method_50_code pc = .ok (.ireturn, 1) → narrow .boolean (.int rr.1) = .int rr.1 → gG ρ cs G X pc L [.int rr.1] rr.2)  {k1 : Int32 → Wd → Option (Int32 × Wd)} (hk1 : ∀ (z1 : Int32) (w1 : Wd), k1 z1 w1 = some rr → gG ρ cs G X 24 [(0, .ref (ρ 75)), (1, .int z1)] [] w1) : ∀ (n : Nat) (x3 : Int32) (w : Wd), L_X11_liftLeast_2 k1 n x3 w = some rr → gG ρ cs G X 2 [(0, .ref (ρ 75)), (1, .int x3)] [] w := by
  intro n
  induction n with
  | zero =>
    intro x3 w hD
    cases hD
  | succ n2 ih =>
    intro x3 w4 hD
    unfold L_X11_liftLeast_2 at hD
    refine g_iload_n h 1 t_X11_liftLeast_2 rfl ?_
    refine g_bipush (v := 20) h t_X11_liftLeast_3 (by decide) ?_
    refine g_icmp_ge (tgt := 24) h t_X11_liftLeast_5 (by decide) hD (fun hD => ?_) (fun hD => ?_)
    · refine g_loc (L' := [(0, .ref (ρ 75)), (1, .int x3)]) h [0, 1] rfl ?_
      exact hk1 x3 _ hD
    · refine g_aload_n h 0 t_X11_liftLeast_8 rfl ?_
      refine g_getR h 75 17 118 fl_11_108 rfl (by decide) rfl t_X11_liftLeast_9 ?_
      refine g_iload_n h 1 t_X11_liftLeast_12 rfl ?_
      refine g_iald h 118 rfl (by decide) t_X11_liftLeast_13 hD (fun hD => ?_)
      refine g_iload_n h 1 t_X11_liftLeast_14 rfl ?_
      refine g_icmp_eq (tgt := 24) h t_X11_liftLeast_15 (by decide) hD (fun hD => ?_) (fun hD => ?_)
      · refine g_loc (L' := [(0, .ref (ρ 75)), (1, .int x3)]) h [0, 1] rfl ?_
        exact hk1 x3 _ hD
      · obtain ⟨x5, ex5, hD⟩ := bd_ex hD
        refine g_iinc (v := x5) (L' := [(1, .int x5), (0, .ref (ρ 75))]) h hn t_X11_liftLeast_18 (k := 1) rfl (by rw [ex5]; rfl) (by decide) rfl ?_
        refine g_goto (tgt := 2) h t_X11_liftLeast_21 (by decide) ?_
        refine g_loc (L' := [(0, .ref (ρ 75)), (1, .int x5)]) h [1, 0] rfl ?_
        exact ih x5 _ hD
set_option maxRecDepth 20000 in
theorem Q_X11_liftLeast_45 {l0 : Launch} {ρ : Nat → Nat} {cs : Nat → ClassId} {G : va_G} {X : Cx} (hρ : injN ρ) (hn : X.2.2.2.2.2.2.2.2.2.2.1 = 3) (h : Okx l0 ρ cs G X prog_1_method_50_code "SowingBoards" 0) {rr : (Int32 × Wd)} (hR : ∀ pc L, decode prog_1_method_50_code pc = .ok (.ireturn, 1) → narrow .boolean (.int rr.1) = .int rr.1 → gG ρ cs G X pc L [.int rr.1] rr.2) {x9 : Int32} {k10 : Wd → Option (Int32 × Wd)} (hk10 : ∀ (w1 : Wd), k10 w1 = some rr → gG ρ cs G X 66 [] [] w1) : ∀ (n : Nat) (x12 : Int32) (w : Wd), L_X11_liftLeast_45 x9 k10 n x12 w = some rr → gG ρ cs G X 45 [(0, .ref (ρ 75)), (1, .int x9), (2, .int x12)] [] w := by
  intro n
  induction n with
  | zero =>
    intro x12 w hD
    cases hD
  | succ n11 ih =>
    intro x12 w13 hD
    unfold L_X11_liftLeast_45 at hD
    refine g_iload_n h 2 t_X11_liftLeast_45 rfl ?_
    refine g_iload_n h 1 t_X11_liftLeast_46 rfl ?_
    refine g_icmp_ge (tgt := 66) h t_X11_liftLeast_47 (by decide) hD (fun hD => ?_) (fun hD => ?_)
    · refine g_loc (L' := []) h [] rfl ?_
      exact hk10 _ hD
    · refine g_aload_n h 0 t_X11_liftLeast_50 rfl ?_
      refine g_getR h 75 17 118 fl_11_108 rfl (by decide) rfl t_X11_liftLeast_51 ?_
      refine g_iload_n h 2 t_X11_liftLeast_54 rfl ?_
      refine g_dup2 h t_X11_liftLeast_55 rfl rfl ?_
      refine g_iald h 118 rfl (by decide) t_X11_liftLeast_56 hD (fun hD => ?_)
      refine g_iconst (v := 1) h t_X11_liftLeast_57 (by decide) ?_
      refine g_iadd h t_X11_liftLeast_58 ?_
      refine g_iast h 118 rfl (by decide) t_X11_liftLeast_59 hD (fun w14 hD => ?_)
      obtain ⟨x15, ex15, hD⟩ := bd_ex hD
      refine g_iinc (v := x15) (L' := [(2, .int x15), (0, .ref (ρ 75)), (1, .int x9)]) h hn t_X11_liftLeast_60 (k := 2) rfl (by rw [ex15]; rfl) (by decide) rfl ?_
      refine g_goto (tgt := 45) h t_X11_liftLeast_63 (by decide) ?_
      refine g_loc (L' := [(0, .ref (ρ 75)), (1, .int x9), (2, .int x15)]) h [1, 2, 0] rfl ?_
      exact ih x15 _ hD
set_option maxRecDepth 20000 in
theorem S_X11_liftLeast {l0 : Launch} {ρ : Nat → Nat} {cs : Nat → ClassId} {G : va_G} (hρ : injN ρ)  {w : Wd} {rr : (Int32 × Wd)} (hD : D_X11_liftLeast w = some rr) : CtI l0 ρ cs G y_X11_liftLeast prog_1_method_50_code 3 .boolean 0 [.ref (ρ 75)] w rr.1 rr.2 := by
  refine ctI_of hρ (by decide) (Nat.le_of_ble_eq_true rfl) (fun X hn h hR => ?_)
  unfold D_X11_liftLeast at hD
  show gG ρ cs G X 0 [(0, .ref (ρ 75))] [] w
  refine g_iconst (v := 1) h t_X11_liftLeast_0 (by decide) ?_
  refine g_istore_n (L' := [(1, .int 1), (0, .ref (ρ 75))]) h hn t_X11_liftLeast_1 rfl (by decide) rfl ?_
  refine g_loc (L' := [(0, .ref (ρ 75)), (1, .int 1)]) h [1, 0] rfl ?_
  refine Q_X11_liftLeast_2 hρ hn h hR  ?_ _ _ _ hD
  · intro x6 w7 hD
    unfold J_X11_liftLeast_x24_2 at hD
    refine g_aload_n h 0 t_X11_liftLeast_24 rfl ?_
    refine g_getR h 75 17 118 fl_11_108 rfl (by decide) rfl t_X11_liftLeast_25 ?_
    refine g_iload_n h 1 t_X11_liftLeast_28 rfl ?_
    refine g_iald h 118 rfl (by decide) t_X11_liftLeast_29 hD (fun hD => ?_)
    refine g_iload_n h 1 t_X11_liftLeast_30 rfl ?_
    refine g_icmp_eq (tgt := 36) h t_X11_liftLeast_31 (by decide) hD (fun hD => ?_) (fun hD => ?_)
    · refine g_aload_n h 0 t_X11_liftLeast_36 rfl ?_
      refine g_getR h 75 17 118 fl_11_108 rfl (by decide) rfl t_X11_liftLeast_37 ?_
      refine g_iload_n h 1 t_X11_liftLeast_40 rfl ?_
      refine g_iconst (v := 0) h t_X11_liftLeast_41 (by decide) ?_
      refine g_iast h 118 rfl (by decide) t_X11_liftLeast_42 hD (fun w8 hD => ?_)
      refine g_iconst (v := 1) h t_X11_liftLeast_43 (by decide) ?_
      refine g_istore_n (L' := [(2, .int 1), (0, .ref (ρ 75)), (1, .int x6)]) h hn t_X11_liftLeast_44 rfl (by decide) rfl ?_
      refine g_loc (L' := [(0, .ref (ρ 75)), (1, .int x6), (2, .int 1)]) h [1, 2, 0] rfl ?_
      refine Q_X11_liftLeast_45 hρ hn h hR  ?_ _ _ _ hD
      · intro w16 hD
        unfold J_X11_liftLeast_x66_1 at hD
        refine g_iconst (v := 1) h t_X11_liftLeast_66 (by decide) ?_
        obtain rfl := Option.some.inj hD
        exact hR _ _ t_X11_liftLeast_67 (b01_n rfl)
    · refine g_iconst (v := 0) h t_X11_liftLeast_34 (by decide) ?_
      obtain rfl := Option.some.inj hD
      exact hR _ _ t_X11_liftLeast_35 (b01_n rfl)
def L_X11_liftAll_8 (k2 : Int32 → Wd → Option (Int32 × Wd)) : Nat → Int32 → Int32 → Wd → Option (Int32 × Wd)
  | 0, _, _, _ => none
  | n3 + 1, x4, x5, w6 =>
    if (w6.1 80 1) ≤ x5 then (k2 x4 w6) else (if 20 ≤ x5 then (k2 x4 w6) else (bc (D_X9_digitAt x5 w6) fun x8 w7 => if ib (x5 + 1) 21 then bd (wI w7 118 (x5 + 1).toNatClampNeg x8) (fun w9 => bc (D_X9_digitAt x5 w9) fun x11 w10 => bd (x4 + x11) fun x12 => bd (x5 + 1) fun x13 => L_X11_liftAll_8 k2 n3 x12 x13 w10) else none))
def L_X11_liftAll_60 (x16 : Int32) (k17 : Int32 → Wd → Option (Int32 × Wd)) : Nat → Int32 → Wd → Option (Int32 × Wd)
  | 0, _, _ => none
  | n18 + 1, x19, w20 =>
    if x16 ≤ x19 then (k17 x19 w20) else (bc (D_X11_liftLeast w20) fun x22 w21 => if x22 = 0 then (k17 x19 w21) else (bd (x19 + 1) fun x23 => L_X11_liftAll_60 x16 k17 n18 x23 w21))
def J_X11_liftAll_x78_1 (x14 : Int32) : Int32 → Wd → Option (Int32 × Wd) := fun x24 w25 =>
  bv (D_X3_tell_ x24.toInt64 ((x14 - x24).toInt64) w25) fun w26 => some (x24, w26)
def J_X11_liftAll_x58_2  : Int32 → Wd → Option (Int32 × Wd) := fun x14 w15 =>
  L_X11_liftAll_60 x14 (J_X11_liftAll_x78_1 x14) FU 0 w15
def D_X11_liftAll  : Wd → Option (Int32 × Wd) := fun w =>
  bv (D_X11_clearTally w) fun w1 => L_X11_liftAll_8 J_X11_liftAll_x58_2 FU 0 0 w1
set_option maxRecDepth 20000 in
theorem Q_X11_liftAll_8 {l0 : Launch} {ρ : Nat → Nat} {cs : Nat → ClassId} {G : va_G} {X : Cx} (hρ : injN ρ) (hn : X.2.2.2.2.2.2.2.2.2.2.1 = 3) (h : Okx l0 ρ cs G X prog_1_method_49_code "SowingBoards" 3) {rr : (Int32 × Wd)} (hR : ∀ pc L, decode prog_1_method_49_code pc = .ok (.ireturn, 1) → narrow .int (.int rr.1) = .int rr.1 → gG ρ cs G X pc L [.int rr.1] rr.2)  {k2 : Int32 → Wd → Option (Int32 × Wd)} (hk2 : ∀ (z1 : Int32) (w1 : Wd), k2 z1 w1 = some rr → gG ρ cs G X 58 [(0, .ref (ρ 75)), (1, .int z1)] [] w1) : ∀ (n : Nat) (x4 : Int32) (x5 : Int32) (w : Wd), L_X11_liftAll_8 k2 n x4 x5 w = some rr → gG ρ cs G X 8 [(0, .ref (ρ 75)), (1, .int x4), (2, .int x5)] [] w := by
  intro n
  induction n with
  | zero =>
    intro x4 x5 w hD
    cases hD
  | succ n3 ih =>
    intro x4 x5 w6 hD
    unfold L_X11_liftAll_8 at hD
    refine g_iload_n h 2 t_X11_liftAll_8 rfl ?_
    refine g_aload_n h 0 t_X11_liftAll_9 rfl ?_
    refine g_getR h 75 6 80 fl_11_40 rfl (by decide) rfl t_X11_liftAll_10 ?_
    refine g_getI h 80 1 fl_11_130 rfl (by decide) rfl t_X11_liftAll_13 ?_
    refine g_icmp_ge (tgt := 58) h t_X11_liftAll_16 (by decide) hD (fun hD => ?_) (fun hD => ?_)
    · refine g_loc (L' := [(0, .ref (ρ 75)), (1, .int x4)]) h [0, 1] rfl ?_
      exact hk2 x4 _ hD
    · refine g_iload_n h 2 t_X11_liftAll_19 rfl ?_
      refine g_bipush (v := 20) h t_X11_liftAll_20 (by decide) ?_
      refine g_icmp_ge (tgt := 58) h t_X11_liftAll_22 (by decide) hD (fun hD => ?_) (fun hD => ?_)
      · refine g_loc (L' := [(0, .ref (ρ 75)), (1, .int x4)]) h [0, 1] rfl ?_
        exact hk2 x4 _ hD
      · refine g_aload_n h 0 t_X11_liftAll_25 rfl ?_
        refine g_getR h 75 17 118 fl_11_108 rfl (by decide) rfl t_X11_liftAll_26 ?_
        refine g_iload_n h 2 t_X11_liftAll_29 rfl ?_
        refine g_iconst (v := 1) h t_X11_liftAll_30 (by decide) ?_
        refine g_iadd h t_X11_liftAll_31 ?_
        refine g_aload_n h 0 t_X11_liftAll_32 rfl ?_
        refine g_getR h 75 6 80 fl_11_40 rfl (by decide) rfl t_X11_liftAll_33 ?_
        refine g_iload_n h 2 t_X11_liftAll_36 rfl ?_
        refine g_callVI h 80 (As := [.int x5]) (st := [.int (x5 + 1), .ref (ρ 118)]) my_X9_digitAt mi_X9_digitAt ml_11_148 rfl (by decide) rfl rfl rfl (Nat.le_of_ble_eq_true rfl) (by decide) t_X11_liftAll_37 hD (fun _ _ e => S_X9_digitAt hρ  e) (fun x8 w7 hD => ?_)
        refine g_iast h 118 rfl (by decide) t_X11_liftAll_40 hD (fun w9 hD => ?_)
        refine g_iload_n h 1 t_X11_liftAll_41 rfl ?_
        refine g_aload_n h 0 t_X11_liftAll_42 rfl ?_
        refine g_getR h 75 6 80 fl_11_40 rfl (by decide) rfl t_X11_liftAll_43 ?_
        refine g_iload_n h 2 t_X11_liftAll_46 rfl ?_
        refine g_callVI h 80 (As := [.int x5]) (st := [.int x4]) my_X9_digitAt mi_X9_digitAt ml_11_148 rfl (by decide) rfl rfl rfl (Nat.le_of_ble_eq_true rfl) (by decide) t_X11_liftAll_47 hD (fun _ _ e => S_X9_digitAt hρ  e) (fun x11 w10 hD => ?_)
        refine g_iadd h t_X11_liftAll_50 ?_
        refine g_bdI hD (fun x12 hD => ?_)
        refine g_istore_n (L' := [(1, .int x12), (0, .ref (ρ 75)), (2, .int x5)]) h hn t_X11_liftAll_51 rfl (by decide) rfl ?_
        obtain ⟨x13, ex13, hD⟩ := bd_ex hD
        refine g_iinc (v := x13) (L' := [(2, .int x13), (1, .int x12), (0, .ref (ρ 75))]) h hn t_X11_liftAll_52 (k := 2) rfl (by rw [ex13]; rfl) (by decide) rfl ?_
        refine g_goto (tgt := 8) h t_X11_liftAll_55 (by decide) ?_
        refine g_loc (L' := [(0, .ref (ρ 75)), (1, .int x12), (2, .int x13)]) h [2, 1, 0] rfl ?_
        exact ih x12 x13 _ hD
set_option maxRecDepth 20000 in
theorem Q_X11_liftAll_60 {l0 : Launch} {ρ : Nat → Nat} {cs : Nat → ClassId} {G : va_G} {X : Cx} (hρ : injN ρ) (hn : X.2.2.2.2.2.2.2.2.2.2.1 = 3) (h : Okx l0 ρ cs G X prog_1_method_49_code "SowingBoards" 3) {rr : (Int32 × Wd)} (hR : ∀ pc L, decode prog_1_method_49_code pc = .ok (.ireturn, 1) → narrow .int (.int rr.1) = .int rr.1 → gG ρ cs G X pc L [.int rr.1] rr.2) {x16 : Int32} {k17 : Int32 → Wd → Option (Int32 × Wd)} (hk17 : ∀ (z2 : Int32) (w1 : Wd), k17 z2 w1 = some rr → gG ρ cs G X 78 [(0, .ref (ρ 75)), (1, .int x16), (2, .int z2)] [] w1) : ∀ (n : Nat) (x19 : Int32) (w : Wd), L_X11_liftAll_60 x16 k17 n x19 w = some rr → gG ρ cs G X 60 [(0, .ref (ρ 75)), (1, .int x16), (2, .int x19)] [] w := by
  intro n
  induction n with
  | zero =>
    intro x19 w hD
    cases hD
  | succ n18 ih =>
    intro x19 w20 hD
    unfold L_X11_liftAll_60 at hD
    refine g_iload_n h 2 t_X11_liftAll_60 rfl ?_
    refine g_iload_n h 1 t_X11_liftAll_61 rfl ?_
    refine g_icmp_ge (tgt := 78) h t_X11_liftAll_62 (by decide) hD (fun hD => ?_) (fun hD => ?_)
    · refine g_loc (L' := [(0, .ref (ρ 75)), (1, .int x16), (2, .int x19)]) h [0, 1, 2] rfl ?_
      exact hk17 x19 _ hD
    · refine g_aload_n h 0 t_X11_liftAll_65 rfl ?_
      refine g_callVI h 75 (As := []) (st := []) my_X11_liftLeast mi_X11_liftLeast ml_11_375 rfl (by decide) rfl rfl rfl (Nat.le_of_ble_eq_true rfl) (by decide) t_X11_liftAll_66 hD (fun _ _ e => S_X11_liftLeast hρ  e) (fun x22 w21 hD => ?_)
      refine g_if_eq (tgt := 78) h t_X11_liftAll_69 (by decide) hD (fun hD => ?_) (fun hD => ?_)
      · refine g_loc (L' := [(0, .ref (ρ 75)), (1, .int x16), (2, .int x19)]) h [0, 1, 2] rfl ?_
        exact hk17 x19 _ hD
      · obtain ⟨x23, ex23, hD⟩ := bd_ex hD
        refine g_iinc (v := x23) (L' := [(2, .int x23), (0, .ref (ρ 75)), (1, .int x16)]) h hn t_X11_liftAll_72 (k := 2) rfl (by rw [ex23]; rfl) (by decide) rfl ?_
        refine g_goto (tgt := 60) h t_X11_liftAll_75 (by decide) ?_
        refine g_loc (L' := [(0, .ref (ρ 75)), (1, .int x16), (2, .int x23)]) h [1, 2, 0] rfl ?_
        exact ih x23 _ hD
set_option maxRecDepth 20000 in
theorem S_X11_liftAll {l0 : Launch} {ρ : Nat → Nat} {cs : Nat → ClassId} {G : va_G} (hρ : injN ρ)  {w : Wd} {rr : (Int32 × Wd)} (hD : D_X11_liftAll w = some rr) : CtI l0 ρ cs G y_X11_liftAll prog_1_method_49_code 3 .int 3 [.ref (ρ 75)] w rr.1 rr.2 := by
  refine ctI_of hρ (by decide) (Nat.le_of_ble_eq_true rfl) (fun X hn h hR => ?_)
  unfold D_X11_liftAll at hD
  show gG ρ cs G X 0 [(0, .ref (ρ 75))] [] w
  refine g_aload_n h 0 t_X11_liftAll_0 rfl ?_
  refine g_callVV h 75 (As := []) (st := []) my_X11_clearTally mi_X11_clearTally ml_11_363 rfl (by decide) rfl rfl rfl (Nat.le_of_ble_eq_true rfl) (by decide) t_X11_liftAll_1 hD (fun _ e => S_X11_clearTally hρ  e) (fun w1 hD => ?_)
  refine g_iconst (v := 0) h t_X11_liftAll_4 (by decide) ?_
  refine g_istore_n (L' := [(1, .int 0), (0, .ref (ρ 75))]) h hn t_X11_liftAll_5 rfl (by decide) rfl ?_
  refine g_iconst (v := 0) h t_X11_liftAll_6 (by decide) ?_
  refine g_istore_n (L' := [(2, .int 0), (1, .int 0), (0, .ref (ρ 75))]) h hn t_X11_liftAll_7 rfl (by decide) rfl ?_
  refine g_loc (L' := [(0, .ref (ρ 75)), (1, .int 0), (2, .int 0)]) h [2, 1, 0] rfl ?_
  refine Q_X11_liftAll_8 hρ hn h hR  ?_ _ _ _ _ hD
  · intro x14 w15 hD
    unfold J_X11_liftAll_x58_2 at hD
    refine g_iconst (v := 0) h t_X11_liftAll_58 (by decide) ?_
    refine g_istore_n (L' := [(2, .int 0), (0, .ref (ρ 75)), (1, .int x14)]) h hn t_X11_liftAll_59 rfl (by decide) rfl ?_
    refine g_loc (L' := [(0, .ref (ρ 75)), (1, .int x14), (2, .int 0)]) h [1, 2, 0] rfl ?_
    refine Q_X11_liftAll_60 hρ hn h hR  ?_ _ _ _ hD
    · intro x24 w25 hD
      unfold J_X11_liftAll_x78_1 at hD
      refine g_aload_n h 0 t_X11_liftAll_78 rfl ?_
      refine g_getR h 75 7 82 fl_11_47 rfl (by decide) rfl t_X11_liftAll_79 ?_
      refine g_iload_n h 2 t_X11_liftAll_82 rfl ?_
      refine g_i2l h t_X11_liftAll_83 ?_
      refine g_iload_n h 1 t_X11_liftAll_84 rfl ?_
      refine g_iload_n h 2 t_X11_liftAll_85 rfl ?_
      refine g_isub h t_X11_liftAll_86 ?_
      refine g_i2l h t_X11_liftAll_87 ?_
      refine g_callVV h 82 (As := [.long x24.toInt64, .long ((x14 - x24).toInt64)]) (st := []) my_X3_tell_ mi_X3_tell_ ml_11_253 rfl (by decide) rfl rfl rfl (Nat.le_of_ble_eq_true rfl) (by decide) t_X11_liftAll_88 hD (fun _ e => S_X3_tell_ hρ  e) (fun w26 hD => ?_)
      refine g_iload_n h 2 t_X11_liftAll_91 rfl ?_
      obtain rfl := Option.some.inj hD
      exact hR _ _ t_X11_liftAll_92 rfl
def L_X11_wrongInRow_2 (k1 : Int32 → Wd → Option (Int32 × Wd)) (k2 : Wd → Option (Int32 × Wd)) : Nat → Int32 → Wd → Option (Int32 × Wd)
  | 0, _, _ => none
  | n3 + 1, x4, w5 =>
    if (w5.1 80 1) ≤ x4 then (k2 w5) else (if x4 = 20 then (k1 x4 w5) else (bc (D_X9_digitAt x4 w5) fun x7 w6 => if 0 ≤ x7 then (bd (x4 + 1) fun x8 => L_X11_wrongInRow_2 k1 k2 n3 x8 w6) else (k1 x4 w6)))
def J_X11_wrongInRow_x30_1  : Int32 → Wd → Option (Int32 × Wd) := fun x9 w10 =>
  some (x9, w10)
def J_X11_wrongInRow_x38_2  : Wd → Option (Int32 × Wd) := fun w11 =>
  if (w11.1 80 1) = 0 then (some (0, w11)) else (some ((-1), w11))
def D_X11_wrongInRow  : Wd → Option (Int32 × Wd) := fun w =>
  L_X11_wrongInRow_2 J_X11_wrongInRow_x30_1 J_X11_wrongInRow_x38_2 FU 0 w
set_option maxRecDepth 20000 in
theorem Q_X11_wrongInRow_2 {l0 : Launch} {ρ : Nat → Nat} {cs : Nat → ClassId} {G : va_G} {X : Cx} (hρ : injN ρ) (hn : X.2.2.2.2.2.2.2.2.2.2.1 = 2) (h : Okx l0 ρ cs G X prog_1_method_48_code "SowingBoards" 2) {rr : (Int32 × Wd)} (hR : ∀ pc L, decode prog_1_method_48_code pc = .ok (.ireturn, 1) → narrow .int (.int rr.1) = .int rr.1 → gG ρ cs G X pc L [.int rr.1] rr.2)  {k1 : Int32 → Wd → Option (Int32 × Wd)} (hk1 : ∀ (z1 : Int32) (w1 : Wd), k1 z1 w1 = some rr → gG ρ cs G X 30 [(1, .int z1)] [] w1) {k2 : Wd → Option (Int32 × Wd)} (hk2 : ∀ (w1 : Wd), k2 w1 = some rr → gG ρ cs G X 38 [(0, .ref (ρ 75))] [] w1) : ∀ (n : Nat) (x4 : Int32) (w : Wd), L_X11_wrongInRow_2 k1 k2 n x4 w = some rr → gG ρ cs G X 2 [(0, .ref (ρ 75)), (1, .int x4)] [] w := by
  intro n
  induction n with
  | zero =>
    intro x4 w hD
    cases hD
  | succ n3 ih =>
    intro x4 w5 hD
    unfold L_X11_wrongInRow_2 at hD
    refine g_iload_n h 1 t_X11_wrongInRow_2 rfl ?_
    refine g_aload_n h 0 t_X11_wrongInRow_3 rfl ?_
    refine g_getR h 75 6 80 fl_11_40 rfl (by decide) rfl t_X11_wrongInRow_4 ?_
    refine g_getI h 80 1 fl_11_130 rfl (by decide) rfl t_X11_wrongInRow_7 ?_
    refine g_icmp_ge (tgt := 38) h t_X11_wrongInRow_10 (by decide) hD (fun hD => ?_) (fun hD => ?_)
    · refine g_loc (L' := [(0, .ref (ρ 75))]) h [0] rfl ?_
      exact hk2 _ hD
    · refine g_iload_n h 1 t_X11_wrongInRow_13 rfl ?_
      refine g_bipush (v := 20) h t_X11_wrongInRow_14 (by decide) ?_
      refine g_icmp_eq (tgt := 30) h t_X11_wrongInRow_16 (by decide) hD (fun hD => ?_) (fun hD => ?_)
      · refine g_loc (L' := [(1, .int x4)]) h [1] rfl ?_
        exact hk1 x4 _ hD
      · refine g_aload_n h 0 t_X11_wrongInRow_19 rfl ?_
        refine g_getR h 75 6 80 fl_11_40 rfl (by decide) rfl t_X11_wrongInRow_20 ?_
        refine g_iload_n h 1 t_X11_wrongInRow_23 rfl ?_
        refine g_callVI h 80 (As := [.int x4]) (st := []) my_X9_digitAt mi_X9_digitAt ml_11_148 rfl (by decide) rfl rfl rfl (Nat.le_of_ble_eq_true rfl) (by decide) t_X11_wrongInRow_24 hD (fun _ _ e => S_X9_digitAt hρ  e) (fun x7 w6 hD => ?_)
        refine g_if_ge (tgt := 32) h t_X11_wrongInRow_27 (by decide) hD (fun hD => ?_) (fun hD => ?_)
        · obtain ⟨x8, ex8, hD⟩ := bd_ex hD
          refine g_iinc (v := x8) (L' := [(1, .int x8), (0, .ref (ρ 75))]) h hn t_X11_wrongInRow_32 (k := 1) rfl (by rw [ex8]; rfl) (by decide) rfl ?_
          refine g_goto (tgt := 2) h t_X11_wrongInRow_35 (by decide) ?_
          refine g_loc (L' := [(0, .ref (ρ 75)), (1, .int x8)]) h [1, 0] rfl ?_
          exact ih x8 _ hD
        · refine g_loc (L' := [(1, .int x4)]) h [1] rfl ?_
          exact hk1 x4 _ hD
set_option maxRecDepth 20000 in
theorem S_X11_wrongInRow {l0 : Launch} {ρ : Nat → Nat} {cs : Nat → ClassId} {G : va_G} (hρ : injN ρ)  {w : Wd} {rr : (Int32 × Wd)} (hD : D_X11_wrongInRow w = some rr) : CtI l0 ρ cs G y_X11_wrongInRow prog_1_method_48_code 2 .int 2 [.ref (ρ 75)] w rr.1 rr.2 := by
  refine ctI_of hρ (by decide) (Nat.le_of_ble_eq_true rfl) (fun X hn h hR => ?_)
  unfold D_X11_wrongInRow at hD
  show gG ρ cs G X 0 [(0, .ref (ρ 75))] [] w
  refine g_iconst (v := 0) h t_X11_wrongInRow_0 (by decide) ?_
  refine g_istore_n (L' := [(1, .int 0), (0, .ref (ρ 75))]) h hn t_X11_wrongInRow_1 rfl (by decide) rfl ?_
  refine g_loc (L' := [(0, .ref (ρ 75)), (1, .int 0)]) h [1, 0] rfl ?_
  refine Q_X11_wrongInRow_2 hρ hn h hR  ?_ ?_ _ _ _ hD
  · intro x9 w10 hD
    unfold J_X11_wrongInRow_x30_1 at hD
    refine g_iload_n h 0 t_X11_wrongInRow_30 rfl ?_
    obtain rfl := Option.some.inj hD
    exact hR _ _ t_X11_wrongInRow_31 rfl
  · intro w11 hD
    unfold J_X11_wrongInRow_x38_2 at hD
    refine g_aload_n h 0 t_X11_wrongInRow_38 rfl ?_
    refine g_getR h 75 6 80 fl_11_40 rfl (by decide) rfl t_X11_wrongInRow_39 ?_
    refine g_getI h 80 1 fl_11_130 rfl (by decide) rfl t_X11_wrongInRow_42 ?_
    refine g_if_ne (tgt := 52) h t_X11_wrongInRow_45 (by decide) hD (fun hD => ?_) (fun hD => ?_)
    · refine g_iconst (v := (-1)) h t_X11_wrongInRow_52 (by decide) ?_
      obtain rfl := Option.some.inj hD
      exact hR _ _ t_X11_wrongInRow_53 rfl
    · refine g_iconst (v := 0) h t_X11_wrongInRow_48 (by decide) ?_
      refine g_goto (tgt := 53) h t_X11_wrongInRow_49 (by decide) ?_
      obtain rfl := Option.some.inj hD
      exact hR _ _ t_X11_wrongInRow_53 rfl
def D_X11_comes  : Wd → Option (Int32 × Wd) := fun w =>
  bc (D_X11_wrongInRow w) fun x2 w1 => if x2 = (-1) then (bc (D_X11_liftAll w1) fun x6 w5 => bv (D_X9_clear w5) fun w7 => some (x6, w7)) else (bd ((-1) - x2) fun x3 => bv (D_X9_clear w1) fun w4 => some (x3, w4))
set_option maxRecDepth 20000 in
theorem S_X11_comes {l0 : Launch} {ρ : Nat → Nat} {cs : Nat → ClassId} {G : va_G} (hρ : injN ρ)  {w : Wd} {rr : (Int32 × Wd)} (hD : D_X11_comes w = some rr) : CtI l0 ρ cs G y_X11_comes prog_1_method_47_code 3 .int 4 [.ref (ρ 75)] w rr.1 rr.2 := by
  refine ctI_of hρ (by decide) (Nat.le_of_ble_eq_true rfl) (fun X hn h hR => ?_)
  unfold D_X11_comes at hD
  show gG ρ cs G X 0 [(0, .ref (ρ 75))] [] w
  refine g_aload_n h 0 t_X11_comes_0 rfl ?_
  refine g_callVI h 75 (As := []) (st := []) my_X11_wrongInRow mi_X11_wrongInRow ml_11_369 rfl (by decide) rfl rfl rfl (Nat.le_of_ble_eq_true rfl) (by decide) t_X11_comes_1 hD (fun _ _ e => S_X11_wrongInRow hρ  e) (fun x2 w1 hD => ?_)
  refine g_istore_n (L' := [(1, .int x2), (0, .ref (ρ 75))]) h hn t_X11_comes_4 rfl (by decide) rfl ?_
  refine g_iload_n h 0 t_X11_comes_5 rfl ?_
  refine g_iconst (v := (-1)) h t_X11_comes_6 (by decide) ?_
  refine g_icmp_ne (tgt := 17) h t_X11_comes_7 (by decide) hD (fun hD => ?_) (fun hD => ?_)
  · refine g_iconst (v := (-1)) h t_X11_comes_17 (by decide) ?_
    refine g_iload_n h 0 t_X11_comes_18 rfl ?_
    refine g_isub h t_X11_comes_19 ?_
    refine g_bdI hD (fun x3 hD => ?_)
    refine g_istore_n (L' := [(2, .int x3), (1, .int x2), (0, .ref (ρ 75))]) h hn t_X11_comes_20 rfl (by decide) rfl ?_
    refine g_aload_n h 2 t_X11_comes_21 rfl ?_
    refine g_getR h 75 6 80 fl_11_40 rfl (by decide) rfl t_X11_comes_22 ?_
    refine g_callVV h 80 (As := []) (st := []) my_X9_clear mi_X9_clear ml_11_142 rfl (by decide) rfl rfl rfl (Nat.le_of_ble_eq_true rfl) (by decide) t_X11_comes_25 hD (fun _ e => S_X9_clear hρ  e) (fun w4 hD => ?_)
    refine g_iload_n h 0 t_X11_comes_28 rfl ?_
    obtain rfl := Option.some.inj hD
    exact hR _ _ t_X11_comes_29 rfl
  · refine g_aload_n h 1 t_X11_comes_10 rfl ?_
    refine g_callVI h 75 (As := []) (st := []) my_X11_liftAll mi_X11_liftAll ml_11_372 rfl (by decide) rfl rfl rfl (Nat.le_of_ble_eq_true rfl) (by decide) t_X11_comes_11 hD (fun _ _ e => S_X11_liftAll hρ  e) (fun x6 w5 hD => ?_)
    refine g_goto (tgt := 20) h t_X11_comes_14 (by decide) ?_
    refine g_istore_n (L' := [(2, .int x6), (1, .int x2), (0, .ref (ρ 75))]) h hn t_X11_comes_20 rfl (by decide) rfl ?_
    refine g_aload_n h 2 t_X11_comes_21 rfl ?_
    refine g_getR h 75 6 80 fl_11_40 rfl (by decide) rfl t_X11_comes_22 ?_
    refine g_callVV h 80 (As := []) (st := []) my_X9_clear mi_X9_clear ml_11_142 rfl (by decide) rfl rfl rfl (Nat.le_of_ble_eq_true rfl) (by decide) t_X11_comes_25 hD (fun _ e => S_X9_clear hρ  e) (fun w7 hD => ?_)
    refine g_iload_n h 0 t_X11_comes_28 rfl ?_
    obtain rfl := Option.some.inj hD
    exact hR _ _ t_X11_comes_29 rfl
def D_X11_heard (p1 : Int32) (p2 : Int32) : Wd → Option (Int32 × Wd) := fun w =>
  if p1 < 0 then (some ((-1), w)) else (if 5 ≤ p1 then (some ((-1), w)) else (if p2 < 0 then (some ((-1), w)) else (if ib p1 5 then (if p2 ≤ (told5 p1.toNatClampNeg) then (bc (D_X2_add 112 p1 p2 w) fun x2 w1 => if x2 = 0 then (some ((-1), w1)) else (some (w1.1 112 3, w1))) else (some ((-1), w))) else none)))
set_option maxRecDepth 20000 in
theorem S_X11_heard {l0 : Launch} {ρ : Nat → Nat} {cs : Nat → ClassId} {G : va_G} (hρ : injN ρ) {p1 : Int32} {p2 : Int32} {w : Wd} {rr : (Int32 × Wd)} (hD : D_X11_heard p1 p2 w = some rr) : CtI l0 ρ cs G y_X11_heard prog_1_method_51_code 3 .int 1 [.ref (ρ 75), .int p1, .int p2] w rr.1 rr.2 := by
  refine ctI_of hρ (by decide) (Nat.le_of_ble_eq_true rfl) (fun X hn h hR => ?_)
  unfold D_X11_heard at hD
  show gG ρ cs G X 0 [(0, .ref (ρ 75)), (1, .int p1), (2, .int p2)] [] w
  refine g_iload_n h 1 t_X11_heard_0 rfl ?_
  refine g_if_lt (tgt := 25) h t_X11_heard_1 (by decide) hD (fun hD => ?_) (fun hD => ?_)
  · refine g_iconst (v := (-1)) h t_X11_heard_25 (by decide) ?_
    obtain rfl := Option.some.inj hD
    exact hR _ _ t_X11_heard_26 rfl
  · refine g_iload_n h 1 t_X11_heard_4 rfl ?_
    refine g_gst h (vtb_at 1118 (by decide +kernel) rfl) t_X11_heard_5 ?_
    refine g_talen h t_X11_heard_8 ?_
    refine g_icmp_ge (tgt := 25) h t_X11_heard_9 (by decide) hD (fun hD => ?_) (fun hD => ?_)
    · refine g_iconst (v := (-1)) h t_X11_heard_25 (by decide) ?_
      obtain rfl := Option.some.inj hD
      exact hR _ _ t_X11_heard_26 rfl
    · refine g_iload_n h 2 t_X11_heard_12 rfl ?_
      refine g_if_lt (tgt := 25) h t_X11_heard_13 (by decide) hD (fun hD => ?_) (fun hD => ?_)
      · refine g_iconst (v := (-1)) h t_X11_heard_25 (by decide) ?_
        obtain rfl := Option.some.inj hD
        exact hR _ _ t_X11_heard_26 rfl
      · refine g_iload_n h 2 t_X11_heard_16 rfl ?_
        refine g_gst h (vtb_at 1118 (by decide +kernel) rfl) t_X11_heard_17 ?_
        refine g_iload_n h 1 t_X11_heard_20 rfl ?_
        refine g_tald h t_X11_heard_21 hD (fun hD => ?_)
        refine g_icmp_le (tgt := 27) h t_X11_heard_22 (by decide) hD (fun hD => ?_) (fun hD => ?_)
        · refine g_aload_n h 0 t_X11_heard_27 rfl ?_
          refine g_getR h 75 15 112 fl_11_101 rfl (by decide) rfl t_X11_heard_28 ?_
          refine g_iload_n h 1 t_X11_heard_31 rfl ?_
          refine g_iload_n h 2 t_X11_heard_32 rfl ?_
          refine g_callVI h 112 (As := [.int p1, .int p2]) (st := []) my_X2_add mi_X2_add ml_11_381 rfl (by decide) rfl rfl rfl (Nat.le_of_ble_eq_true rfl) (by decide) t_X11_heard_33 hD (fun _ _ e => S_X2_add hρ (by decide) e) (fun x2 w1 hD => ?_)
          refine g_if_eq (tgt := 49) h t_X11_heard_36 (by decide) hD (fun hD => ?_) (fun hD => ?_)
          · refine g_iconst (v := (-1)) h t_X11_heard_49 (by decide) ?_
            obtain rfl := Option.some.inj hD
            exact hR _ _ t_X11_heard_50 rfl
          · refine g_aload_n h 0 t_X11_heard_39 rfl ?_
            refine g_getR h 75 15 112 fl_11_101 rfl (by decide) rfl t_X11_heard_40 ?_
            refine g_getI h 112 3 fl_11_383 rfl (by decide) rfl t_X11_heard_43 ?_
            refine g_goto (tgt := 50) h t_X11_heard_46 (by decide) ?_
            obtain rfl := Option.some.inj hD
            exact hR _ _ t_X11_heard_50 rfl
        · refine g_iconst (v := (-1)) h t_X11_heard_25 (by decide) ?_
          obtain rfl := Option.some.inj hD
          exact hR _ _ t_X11_heard_26 rfl
def D_X11_forget  : Wd → Option (Int32 × Wd) := fun w =>
  bc (D_X2_clear 112 w) fun x2 w1 => some (x2, w1)
set_option maxRecDepth 20000 in
theorem S_X11_forget {l0 : Launch} {ρ : Nat → Nat} {cs : Nat → ClassId} {G : va_G} (hρ : injN ρ)  {w : Wd} {rr : (Int32 × Wd)} (hD : D_X11_forget w = some rr) : CtI l0 ρ cs G y_X11_forget prog_1_method_52_code 1 .int 1 [.ref (ρ 75)] w rr.1 rr.2 := by
  refine ctI_of hρ (by decide) (Nat.le_of_ble_eq_true rfl) (fun X hn h hR => ?_)
  unfold D_X11_forget at hD
  show gG ρ cs G X 0 [(0, .ref (ρ 75))] [] w
  refine g_aload_n h 0 t_X11_forget_0 rfl ?_
  refine g_getR h 75 15 112 fl_11_101 rfl (by decide) rfl t_X11_forget_1 ?_
  refine g_callVI h 112 (As := []) (st := []) my_X2_clear mi_X2_clear ml_11_384 rfl (by decide) rfl rfl rfl (Nat.le_of_ble_eq_true rfl) (by decide) t_X11_forget_4 hD (fun _ _ e => S_X2_clear hρ (by decide) e) (fun x2 w1 hD => ?_)
  obtain rfl := Option.some.inj hD
  exact hR _ _ t_X11_forget_7 rfl
def J_X11_isSo_j148_1 (p3 : Int32) : Int32 → Wd → Option (Int32 × Wd) := fun x8 w9 =>
  if p3 = 1 then (if x8 = 1 then (some (1, w9)) else (some (0, w9))) else (if x8 = 0 then (some (1, w9)) else (some (0, w9)))
def J_X11_isSo_j17_2 (p2 : Int32) (p3 : Int32) (p1 : Int32) : Int32 → Wd → Option (Int32 × Wd) := fun x3 w4 =>
  if p2 = 0 then (if x3 = p3 then (some (1, w4)) else (some (0, w4))) else (if p2 = 1 then (if ib p1 12 then (if (w4.1 1 p1.toNatClampNeg) < p3 then (some (0, w4)) else (some (1, w4))) else none) else (if p2 = 2 then (bc (D_X5_opposite 0 p1 w4) fun x7 w6 => if ib x7 12 then (if (w6.1 1 x7.toNatClampNeg) < p3 then (some (0, w6)) else (some (1, w6))) else none) else (if p2 = 3 then (if (p1 - (x3 * (w4.1 0 2))) = p3 then (some (1, w4)) else (some (0, w4))) else (bd (J_X11_isSo_j148_1 p3) fun k10 => if x3 = (w4.1 0 3) then (k10 1 w4) else (k10 0 w4)))))
def D_X11_isSo (p1 : Int32) (p2 : Int32) (p3 : Int32) : Wd → Option (Int32 × Wd) := fun w =>
  bc (D_X5_isOf 0 p1 0 w) fun x2 w1 => bd (J_X11_isSo_j17_2 p2 p3 p1) fun k5 => if x2 = 0 then (k5 1 w1) else (k5 0 w1)
set_option maxRecDepth 20000 in
theorem S_X11_isSo {l0 : Launch} {ρ : Nat → Nat} {cs : Nat → ClassId} {G : va_G} (hρ : injN ρ) {p1 : Int32} {p2 : Int32} {p3 : Int32} {w : Wd} {rr : (Int32 × Wd)} (hD : D_X11_isSo p1 p2 p3 w = some rr) : CtI l0 ρ cs G y_X11_isSo prog_1_method_56_code 5 .boolean 1 [.ref (ρ 75), .int p1, .int p2, .int p3] w rr.1 rr.2 := by
  refine ctI_of hρ (by decide) (Nat.le_of_ble_eq_true rfl) (fun X hn h hR => ?_)
  unfold D_X11_isSo at hD
  show gG ρ cs G X 0 [(0, .ref (ρ 75)), (1, .int p1), (2, .int p2), (3, .int p3)] [] w
  refine g_aload_n h 0 t_X11_isSo_0 rfl ?_
  refine g_getR h 75 0 0 fl_11_10 rfl (by decide) rfl t_X11_isSo_1 ?_
  refine g_iload_n h 1 t_X11_isSo_4 rfl ?_
  refine g_iconst (v := 0) h t_X11_isSo_5 (by decide) ?_
  refine g_callVI h 0 (As := [.int p1, .int 0]) (st := []) my_X5_isOf mi_X5_isOf ml_11_402 rfl (by decide) rfl rfl rfl (Nat.le_of_ble_eq_true rfl) (by decide) t_X11_isSo_6 hD (fun _ _ e => S_X5_isOf hρ (by decide) e) (fun x2 w1 hD => ?_)
  refine g_join (P := fun k5 => ∀ (x3 : Int32) (w4 : Wd), k5 x3 w4 = some rr → gG ρ cs G X 17 [(0, .ref (ρ 75)), (1, .int p1), (2, .int p2), (3, .int p3)] [.int x3] w4) hD ?_ (fun k5 hk5 hD => ?_)
  · intro x3 w4 hD
    unfold J_X11_isSo_j17_2 at hD
    refine g_istore (L' := [(4, .int x3), (0, .ref (ρ 75)), (1, .int p1), (2, .int p2), (3, .int p3)]) h hn t_X11_isSo_17 (by decide) rfl ?_
    refine g_iload_n h 3 t_X11_isSo_19 rfl ?_
    refine g_cas hD (fun hc0 hD => ?_) (fun hc0 hD => ?_)
    · refine g_tswI (off := 32) (tgt := 52) h t_X11_isSo_20 (by rw [hc0]; decide) (by rw [hc0]; decide) (by rw [hc0]; rfl) (by decide) ?_
      refine g_iload h 0 t_X11_isSo_52 rfl ?_
      refine g_iload_n h 4 t_X11_isSo_54 rfl ?_
      refine g_icmp_ne (tgt := 62) h t_X11_isSo_55 (by decide) hD (fun hD => ?_) (fun hD => ?_)
      · refine g_iconst (v := 0) h t_X11_isSo_62 (by decide) ?_
        obtain rfl := Option.some.inj hD
        exact hR _ _ t_X11_isSo_63 (b01_n rfl)
      · refine g_iconst (v := 1) h t_X11_isSo_58 (by decide) ?_
        refine g_goto (tgt := 63) h t_X11_isSo_59 (by decide) ?_
        obtain rfl := Option.some.inj hD
        exact hR _ _ t_X11_isSo_63 (b01_n rfl)
    · refine g_cas hD (fun hc1 hD => ?_) (fun hc1 hD => ?_)
      · refine g_tswI (off := 44) (tgt := 64) h t_X11_isSo_20 (by rw [hc1]; decide) (by rw [hc1]; decide) (by rw [hc1]; rfl) (by decide) ?_
        refine g_aload_n h 1 t_X11_isSo_64 rfl ?_
        refine g_getR h 75 0 0 fl_11_10 rfl (by decide) rfl t_X11_isSo_65 ?_
        refine g_getQ h 0 0 1 1 (by decide) rfl fl_11_120 rfl (by decide) rfl t_X11_isSo_68 ?_
        refine g_iload_n h 2 t_X11_isSo_71 rfl ?_
        refine g_iald h 1 rfl (by decide) t_X11_isSo_72 hD (fun hD => ?_)
        refine g_iload_n h 4 t_X11_isSo_73 rfl ?_
        refine g_icmp_lt (tgt := 81) h t_X11_isSo_74 (by decide) hD (fun hD => ?_) (fun hD => ?_)
        · refine g_iconst (v := 0) h t_X11_isSo_81 (by decide) ?_
          obtain rfl := Option.some.inj hD
          exact hR _ _ t_X11_isSo_82 (b01_n rfl)
        · refine g_iconst (v := 1) h t_X11_isSo_77 (by decide) ?_
          refine g_goto (tgt := 82) h t_X11_isSo_78 (by decide) ?_
          obtain rfl := Option.some.inj hD
          exact hR _ _ t_X11_isSo_82 (b01_n rfl)
      · refine g_cas hD (fun hc2 hD => ?_) (fun hc2 hD => ?_)
        · refine g_tswI (off := 63) (tgt := 83) h t_X11_isSo_20 (by rw [hc2]; decide) (by rw [hc2]; decide) (by rw [hc2]; rfl) (by decide) ?_
          refine g_aload_n h 1 t_X11_isSo_83 rfl ?_
          refine g_getR h 75 0 0 fl_11_10 rfl (by decide) rfl t_X11_isSo_84 ?_
          refine g_getQ h 0 0 1 1 (by decide) rfl fl_11_120 rfl (by decide) rfl t_X11_isSo_87 ?_
          refine g_aload_n h 1 t_X11_isSo_90 rfl ?_
          refine g_getR h 75 0 0 fl_11_10 rfl (by decide) rfl t_X11_isSo_91 ?_
          refine g_iload_n h 2 t_X11_isSo_94 rfl ?_
          refine g_callVI h 0 (As := [.int p1]) (st := [.ref (ρ 1)]) my_X5_opposite mi_X5_opposite ml_11_405 rfl (by decide) rfl rfl rfl (Nat.le_of_ble_eq_true rfl) (by decide) t_X11_isSo_95 hD (fun _ _ e => S_X5_opposite hρ (by decide) e) (fun x7 w6 hD => ?_)
          refine g_iald h 1 rfl (by decide) t_X11_isSo_98 hD (fun hD => ?_)
          refine g_iload_n h 4 t_X11_isSo_99 rfl ?_
          refine g_icmp_lt (tgt := 107) h t_X11_isSo_100 (by decide) hD (fun hD => ?_) (fun hD => ?_)
          · refine g_iconst (v := 0) h t_X11_isSo_107 (by decide) ?_
            obtain rfl := Option.some.inj hD
            exact hR _ _ t_X11_isSo_108 (b01_n rfl)
          · refine g_iconst (v := 1) h t_X11_isSo_103 (by decide) ?_
            refine g_goto (tgt := 108) h t_X11_isSo_104 (by decide) ?_
            obtain rfl := Option.some.inj hD
            exact hR _ _ t_X11_isSo_108 (b01_n rfl)
        · refine g_cas hD (fun hc3 hD => ?_) (fun hc3 hD => ?_)
          · refine g_tswI (off := 89) (tgt := 109) h t_X11_isSo_20 (by rw [hc3]; decide) (by rw [hc3]; decide) (by rw [hc3]; rfl) (by decide) ?_
            refine g_iload_n h 2 t_X11_isSo_109 rfl ?_
            refine g_iload h 0 t_X11_isSo_110 rfl ?_
            refine g_aload_n h 1 t_X11_isSo_112 rfl ?_
            refine g_getR h 75 0 0 fl_11_10 rfl (by decide) rfl t_X11_isSo_113 ?_
            refine g_getI h 0 2 fl_11_152 rfl (by decide) rfl t_X11_isSo_116 ?_
            refine g_imul h t_X11_isSo_119 ?_
            refine g_isub h t_X11_isSo_120 ?_
            refine g_iload_n h 4 t_X11_isSo_121 rfl ?_
            refine g_icmp_ne (tgt := 129) h t_X11_isSo_122 (by decide) hD (fun hD => ?_) (fun hD => ?_)
            · refine g_iconst (v := 0) h t_X11_isSo_129 (by decide) ?_
              obtain rfl := Option.some.inj hD
              exact hR _ _ t_X11_isSo_130 (b01_n rfl)
            · refine g_iconst (v := 1) h t_X11_isSo_125 (by decide) ?_
              refine g_goto (tgt := 130) h t_X11_isSo_126 (by decide) ?_
              obtain rfl := Option.some.inj hD
              exact hR _ _ t_X11_isSo_130 (b01_n rfl)
          · refine g_tswO (tgt := 131) h t_X11_isSo_20 (by have n0 := lv_neT hc0 (a := 0) (by decide); have n1 := lv_neT hc1 (a := 1) (by decide); have n2 := lv_neT hc2 (a := 2) (by decide); have n3 := lv_neT hc3 (a := 3) (by decide); omega) (by decide) ?_
            refine g_iload h 0 t_X11_isSo_131 rfl ?_
            refine g_aload_n h 1 t_X11_isSo_133 rfl ?_
            refine g_getR h 75 0 0 fl_11_10 rfl (by decide) rfl t_X11_isSo_134 ?_
            refine g_getI h 0 3 fl_11_158 rfl (by decide) rfl t_X11_isSo_137 ?_
            refine g_join (P := fun k10 => ∀ (x8 : Int32) (w9 : Wd), k10 x8 w9 = some rr → gG ρ cs G X 148 [(3, .int p3)] [.int x8] w9) hD ?_ (fun k10 hk10 hD => ?_)
            · intro x8 w9 hD
              unfold J_X11_isSo_j148_1 at hD
              refine g_iload_n h 0 t_X11_isSo_148 rfl ?_
              refine g_iconst (v := 1) h t_X11_isSo_149 (by decide) ?_
              refine g_icmp_ne (tgt := 157) h t_X11_isSo_150 (by decide) hD (fun hD => ?_) (fun hD => ?_)
              · refine g_iconst (v := 0) h t_X11_isSo_157 (by decide) ?_
                refine g_icmp_ne (tgt := 165) h t_X11_isSo_158 (by decide) hD (fun hD => ?_) (fun hD => ?_)
                · refine g_iconst (v := 0) h t_X11_isSo_165 (by decide) ?_
                  obtain rfl := Option.some.inj hD
                  exact hR _ _ t_X11_isSo_166 (b01_n rfl)
                · refine g_iconst (v := 1) h t_X11_isSo_161 (by decide) ?_
                  refine g_goto (tgt := 166) h t_X11_isSo_162 (by decide) ?_
                  obtain rfl := Option.some.inj hD
                  exact hR _ _ t_X11_isSo_166 (b01_n rfl)
              · refine g_iconst (v := 1) h t_X11_isSo_153 (by decide) ?_
                refine g_goto (tgt := 158) h t_X11_isSo_154 (by decide) ?_
                refine g_icmp_ne (tgt := 165) h t_X11_isSo_158 (by decide) hD (fun hD => ?_) (fun hD => ?_)
                · refine g_iconst (v := 0) h t_X11_isSo_165 (by decide) ?_
                  obtain rfl := Option.some.inj hD
                  exact hR _ _ t_X11_isSo_166 (b01_n rfl)
                · refine g_iconst (v := 1) h t_X11_isSo_161 (by decide) ?_
                  refine g_goto (tgt := 166) h t_X11_isSo_162 (by decide) ?_
                  obtain rfl := Option.some.inj hD
                  exact hR _ _ t_X11_isSo_166 (b01_n rfl)
            · refine g_icmp_ne (tgt := 147) h t_X11_isSo_140 (by decide) hD (fun hD => ?_) (fun hD => ?_)
              · refine g_iconst (v := 0) h t_X11_isSo_147 (by decide) ?_
                refine g_loc (L' := [(3, .int p3)]) h [4] rfl ?_
                exact hk10 0 _ hD
              · refine g_iconst (v := 1) h t_X11_isSo_143 (by decide) ?_
                refine g_goto (tgt := 148) h t_X11_isSo_144 (by decide) ?_
                refine g_loc (L' := [(3, .int p3)]) h [4] rfl ?_
                exact hk10 1 _ hD
  · refine g_if_eq (tgt := 16) h t_X11_isSo_9 (by decide) hD (fun hD => ?_) (fun hD => ?_)
    · refine g_iconst (v := 1) h t_X11_isSo_16 (by decide) ?_
      refine g_loc (L' := [(0, .ref (ρ 75)), (1, .int p1), (2, .int p2), (3, .int p3)]) h [0, 1, 2, 3] rfl ?_
      exact hk5 1 _ hD
    · refine g_iconst (v := 0) h t_X11_isSo_12 (by decide) ?_
      refine g_goto (tgt := 17) h t_X11_isSo_13 (by decide) ?_
      refine g_loc (L' := [(0, .ref (ρ 75)), (1, .int p1), (2, .int p2), (3, .int p3)]) h [0, 1, 2, 3] rfl ?_
      exact hk5 0 _ hD
