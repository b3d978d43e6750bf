def y_X4_choose : MethodName := ⟨"SowingBoards$Player", "choose", "(LSowingBoards$Position;LSowingBoards$Rule;I)I"⟩
theorem t_X4_choose_0 : decode prog_6_method_2_code 0 = .ok (.iconst (-1), 1) := by decide +kernel
theorem t_X4_choose_1 : decode prog_6_method_2_code 1 = .ok (.istore 4, 2) := by decide +kernel
theorem t_X4_choose_3 : decode prog_6_method_2_code 3 = .ok (.aload_n 0, 1) := by decide +kernel
theorem t_X4_choose_4 : decode prog_6_method_2_code 4 = .ok (.iconst 0, 1) := by decide +kernel
theorem t_X4_choose_5 : decode prog_6_method_2_code 5 = .ok (.putfield 25, 3) := by decide +kernel
theorem t_X4_choose_8 : decode prog_6_method_2_code 8 = .ok (.iconst 0, 1) := by decide +kernel
theorem t_X4_choose_9 : decode prog_6_method_2_code 9 = .ok (.istore 5, 2) := by decide +kernel
theorem t_X4_choose_11 : decode prog_6_method_2_code 11 = .ok (.iload 5, 2) := by decide +kernel
theorem t_X4_choose_13 : decode prog_6_method_2_code 13 = .ok (.aload_n 1, 1) := by decide +kernel
theorem t_X4_choose_14 : decode prog_6_method_2_code 14 = .ok (.getfield 29, 3) := by decide +kernel
theorem t_X4_choose_17 : decode prog_6_method_2_code 17 = .ok (.if_icmp .ge 69, 3) := by decide +kernel
theorem t_X4_choose_20 : decode prog_6_method_2_code 20 = .ok (.aload_n 0, 1) := by decide +kernel
theorem t_X4_choose_21 : decode prog_6_method_2_code 21 = .ok (.getfield 12, 3) := by decide +kernel
theorem t_X4_choose_24 : decode prog_6_method_2_code 24 = .ok (.aload_n 1, 1) := by decide +kernel
theorem t_X4_choose_25 : decode prog_6_method_2_code 25 = .ok (.invokevirtual 32, 3) := by decide +kernel
theorem t_X4_choose_28 : decode prog_6_method_2_code 28 = .ok (.aload_n 0, 1) := by decide +kernel
theorem t_X4_choose_29 : decode prog_6_method_2_code 29 = .ok (.getfield 21, 3) := by decide +kernel
theorem t_X4_choose_32 : decode prog_6_method_2_code 32 = .ok (.aload_n 0, 1) := by decide +kernel
theorem t_X4_choose_33 : decode prog_6_method_2_code 33 = .ok (.getfield 12, 3) := by decide +kernel
theorem t_X4_choose_36 : decode prog_6_method_2_code 36 = .ok (.iload 5, 2) := by decide +kernel
theorem t_X4_choose_38 : decode prog_6_method_2_code 38 = .ok (.iload_n 3, 1) := by decide +kernel
theorem t_X4_choose_39 : decode prog_6_method_2_code 39 = .ok (.invokevirtual 36, 3) := by decide +kernel
theorem t_X4_choose_42 : decode prog_6_method_2_code 42 = .ok (.ifCond .eq 38, 3) := by decide +kernel
theorem t_X4_choose_45 : decode prog_6_method_2_code 45 = .ok (.aload_n 2, 1) := by decide +kernel
theorem t_X4_choose_46 : decode prog_6_method_2_code 46 = .ok (.aload_n 0, 1) := by decide +kernel
theorem t_X4_choose_47 : decode prog_6_method_2_code 47 = .ok (.getfield 21, 3) := by decide +kernel
theorem t_X4_choose_50 : decode prog_6_method_2_code 50 = .ok (.invokevirtual 40, 3) := by decide +kernel
theorem t_X4_choose_53 : decode prog_6_method_2_code 53 = .ok (.istore 6, 2) := by decide +kernel
theorem t_X4_choose_55 : decode prog_6_method_2_code 55 = .ok (.iload 4, 2) := by decide +kernel
theorem t_X4_choose_57 : decode prog_6_method_2_code 57 = .ok (.iconst (-1), 1) := by decide +kernel
theorem t_X4_choose_58 : decode prog_6_method_2_code 58 = .ok (.if_icmp .eq 12, 3) := by decide +kernel
theorem t_X4_choose_61 : decode prog_6_method_2_code 61 = .ok (.iload 6, 2) := by decide +kernel
theorem t_X4_choose_63 : decode prog_6_method_2_code 63 = .ok (.aload_n 0, 1) := by decide +kernel
theorem t_X4_choose_64 : decode prog_6_method_2_code 64 = .ok (.getfield 25, 3) := by decide +kernel
theorem t_X4_choose_67 : decode prog_6_method_2_code 67 = .ok (.if_icmp .le 13, 3) := by decide +kernel
theorem t_X4_choose_70 : decode prog_6_method_2_code 70 = .ok (.iload 5, 2) := by decide +kernel
theorem t_X4_choose_72 : decode prog_6_method_2_code 72 = .ok (.istore 4, 2) := by decide +kernel
theorem t_X4_choose_74 : decode prog_6_method_2_code 74 = .ok (.aload_n 0, 1) := by decide +kernel
theorem t_X4_choose_75 : decode prog_6_method_2_code 75 = .ok (.iload 6, 2) := by decide +kernel
theorem t_X4_choose_77 : decode prog_6_method_2_code 77 = .ok (.putfield 25, 3) := by decide +kernel
theorem t_X4_choose_80 : decode prog_6_method_2_code 80 = .ok (.iinc 5 1, 3) := by decide +kernel
theorem t_X4_choose_83 : decode prog_6_method_2_code 83 = .ok (.goto (-72), 3) := by decide +kernel
theorem t_X4_choose_86 : decode prog_6_method_2_code 86 = .ok (.iload 4, 2) := by decide +kernel
theorem t_X4_choose_88 : decode prog_6_method_2_code 88 = .ok (.ireturn, 1) := by decide +kernel
def y_X4_play : MethodName := ⟨"SowingBoards$Player", "play", "(LSowingBoards$Position;LSowingBoards$Rule;I)Z"⟩
theorem t_X4_play_0 : decode prog_6_method_3_code 0 = .ok (.aload_n 0, 1) := by decide +kernel
theorem t_X4_play_1 : decode prog_6_method_3_code 1 = .ok (.getfield 21, 3) := by decide +kernel
theorem t_X4_play_4 : decode prog_6_method_3_code 4 = .ok (.aload_n 1, 1) := by decide +kernel
theorem t_X4_play_5 : decode prog_6_method_3_code 5 = .ok (.aload_n 0, 1) := by decide +kernel
theorem t_X4_play_6 : decode prog_6_method_3_code 6 = .ok (.aload_n 1, 1) := by decide +kernel
theorem t_X4_play_7 : decode prog_6_method_3_code 7 = .ok (.aload_n 2, 1) := by decide +kernel
theorem t_X4_play_8 : decode prog_6_method_3_code 8 = .ok (.iload_n 3, 1) := by decide +kernel
theorem t_X4_play_9 : decode prog_6_method_3_code 9 = .ok (.invokevirtual 46, 3) := by decide +kernel
theorem t_X4_play_12 : decode prog_6_method_3_code 12 = .ok (.iload_n 3, 1) := by decide +kernel
theorem t_X4_play_13 : decode prog_6_method_3_code 13 = .ok (.invokevirtual 36, 3) := by decide +kernel
theorem t_X4_play_16 : decode prog_6_method_3_code 16 = .ok (.ireturn, 1) := by decide +kernel
def y_X10_start : MethodName := ⟨"SowingBoards$Tree", "start", "(LSowingBoards$Position;IZI)V"⟩
theorem t_X10_start_0 : decode prog_12_method_2_code 0 = .ok (.aload_n 0, 1) := by decide +kernel
theorem t_X10_start_1 : decode prog_12_method_2_code 1 = .ok (.getfield 11, 3) := by decide +kernel
theorem t_X10_start_4 : decode prog_12_method_2_code 4 = .ok (.iconst 0, 1) := by decide +kernel
theorem t_X10_start_5 : decode prog_12_method_2_code 5 = .ok (.aaload, 1) := by decide +kernel
theorem t_X10_start_6 : decode prog_12_method_2_code 6 = .ok (.aload_n 1, 1) := by decide +kernel
theorem t_X10_start_7 : decode prog_12_method_2_code 7 = .ok (.invokevirtual 37, 3) := by decide +kernel
theorem t_X10_start_10 : decode prog_12_method_2_code 10 = .ok (.aload_n 0, 1) := by decide +kernel
theorem t_X10_start_11 : decode prog_12_method_2_code 11 = .ok (.iconst 0, 1) := by decide +kernel
theorem t_X10_start_12 : decode prog_12_method_2_code 12 = .ok (.putfield 41, 3) := by decide +kernel
theorem t_X10_start_15 : decode prog_12_method_2_code 15 = .ok (.aload_n 0, 1) := by decide +kernel
theorem t_X10_start_16 : decode prog_12_method_2_code 16 = .ok (.iload_n 2, 1) := by decide +kernel
theorem t_X10_start_17 : decode prog_12_method_2_code 17 = .ok (.bipush 6, 2) := by decide +kernel
theorem t_X10_start_19 : decode prog_12_method_2_code 19 = .ok (.invokestatic 45, 3) := by decide +kernel
theorem t_X10_start_22 : decode prog_12_method_2_code 22 = .ok (.putfield 51, 3) := by decide +kernel
theorem t_X10_start_25 : decode prog_12_method_2_code 25 = .ok (.aload_n 0, 1) := by decide +kernel
theorem t_X10_start_26 : decode prog_12_method_2_code 26 = .ok (.iload_n 3, 1) := by decide +kernel
theorem t_X10_start_27 : decode prog_12_method_2_code 27 = .ok (.putfield 54, 3) := by decide +kernel
theorem t_X10_start_30 : decode prog_12_method_2_code 30 = .ok (.aload_n 0, 1) := by decide +kernel
theorem t_X10_start_31 : decode prog_12_method_2_code 31 = .ok (.iload 4, 2) := by decide +kernel
theorem t_X10_start_33 : decode prog_12_method_2_code 33 = .ok (.putfield 58, 3) := by decide +kernel
theorem t_X10_start_36 : decode prog_12_method_2_code 36 = .ok (.return_, 1) := by decide +kernel
def y_X10_here : MethodName := ⟨"SowingBoards$Tree", "here", "()LSowingBoards$Position;"⟩
theorem t_X10_here_0 : decode prog_12_method_3_code 0 = .ok (.aload_n 0, 1) := by decide +kernel
theorem t_X10_here_1 : decode prog_12_method_3_code 1 = .ok (.getfield 11, 3) := by decide +kernel
theorem t_X10_here_4 : decode prog_12_method_3_code 4 = .ok (.aload_n 0, 1) := by decide +kernel
theorem t_X10_here_5 : decode prog_12_method_3_code 5 = .ok (.getfield 41, 3) := by decide +kernel
theorem t_X10_here_8 : decode prog_12_method_3_code 8 = .ok (.aaload, 1) := by decide +kernel
theorem t_X10_here_9 : decode prog_12_method_3_code 9 = .ok (.areturn, 1) := by decide +kernel
def y_X10_enter : MethodName := ⟨"SowingBoards$Tree", "enter", "(I)Z"⟩
theorem t_X10_enter_0 : decode prog_12_method_5_code 0 = .ok (.aload_n 0, 1) := by decide +kernel
theorem t_X10_enter_1 : decode prog_12_method_5_code 1 = .ok (.getfield 11, 3) := by decide +kernel
theorem t_X10_enter_4 : decode prog_12_method_5_code 4 = .ok (.aload_n 0, 1) := by decide +kernel
theorem t_X10_enter_5 : decode prog_12_method_5_code 5 = .ok (.getfield 41, 3) := by decide +kernel
theorem t_X10_enter_8 : decode prog_12_method_5_code 8 = .ok (.aaload, 1) := by decide +kernel
theorem t_X10_enter_9 : decode prog_12_method_5_code 9 = .ok (.astore_n 2, 1) := by decide +kernel
theorem t_X10_enter_10 : decode prog_12_method_5_code 10 = .ok (.iload_n 1, 1) := by decide +kernel
theorem t_X10_enter_11 : decode prog_12_method_5_code 11 = .ok (.istore_n 3, 1) := by decide +kernel
theorem t_X10_enter_12 : decode prog_12_method_5_code 12 = .ok (.iload_n 3, 1) := by decide +kernel
theorem t_X10_enter_13 : decode prog_12_method_5_code 13 = .ok (.aload_n 2, 1) := by decide +kernel
theorem t_X10_enter_14 : decode prog_12_method_5_code 14 = .ok (.getfield 72, 3) := by decide +kernel
theorem t_X10_enter_17 : decode prog_12_method_5_code 17 = .ok (.if_icmp .ge 78, 3) := by decide +kernel
theorem t_X10_enter_20 : decode prog_12_method_5_code 20 = .ok (.aload_n 2, 1) := by decide +kernel
theorem t_X10_enter_21 : decode prog_12_method_5_code 21 = .ok (.iload_n 3, 1) := by decide +kernel
theorem t_X10_enter_22 : decode prog_12_method_5_code 22 = .ok (.invokevirtual 75, 3) := by decide +kernel
theorem t_X10_enter_25 : decode prog_12_method_5_code 25 = .ok (.ifCond .eq 64, 3) := by decide +kernel
theorem t_X10_enter_28 : decode prog_12_method_5_code 28 = .ok (.aload_n 0, 1) := by decide +kernel
theorem t_X10_enter_29 : decode prog_12_method_5_code 29 = .ok (.getfield 11, 3) := by decide +kernel
theorem t_X10_enter_32 : decode prog_12_method_5_code 32 = .ok (.aload_n 0, 1) := by decide +kernel
theorem t_X10_enter_33 : decode prog_12_method_5_code 33 = .ok (.getfield 41, 3) := by decide +kernel
theorem t_X10_enter_36 : decode prog_12_method_5_code 36 = .ok (.iconst 1, 1) := by decide +kernel
theorem t_X10_enter_37 : decode prog_12_method_5_code 37 = .ok (.iadd, 1) := by decide +kernel
theorem t_X10_enter_38 : decode prog_12_method_5_code 38 = .ok (.aaload, 1) := by decide +kernel
theorem t_X10_enter_39 : decode prog_12_method_5_code 39 = .ok (.aload_n 2, 1) := by decide +kernel
theorem t_X10_enter_40 : decode prog_12_method_5_code 40 = .ok (.invokevirtual 37, 3) := by decide +kernel
theorem t_X10_enter_43 : decode prog_12_method_5_code 43 = .ok (.aload_n 0, 1) := by decide +kernel
theorem t_X10_enter_44 : decode prog_12_method_5_code 44 = .ok (.getfield 32, 3) := by decide +kernel
theorem t_X10_enter_47 : decode prog_12_method_5_code 47 = .ok (.aload_n 0, 1) := by decide +kernel
theorem t_X10_enter_48 : decode prog_12_method_5_code 48 = .ok (.getfield 11, 3) := by decide +kernel
theorem t_X10_enter_51 : decode prog_12_method_5_code 51 = .ok (.aload_n 0, 1) := by decide +kernel
theorem t_X10_enter_52 : decode prog_12_method_5_code 52 = .ok (.getfield 41, 3) := by decide +kernel
theorem t_X10_enter_55 : decode prog_12_method_5_code 55 = .ok (.iconst 1, 1) := by decide +kernel
theorem t_X10_enter_56 : decode prog_12_method_5_code 56 = .ok (.iadd, 1) := by decide +kernel
theorem t_X10_enter_57 : decode prog_12_method_5_code 57 = .ok (.aaload, 1) := by decide +kernel
theorem t_X10_enter_58 : decode prog_12_method_5_code 58 = .ok (.iload_n 3, 1) := by decide +kernel
theorem t_X10_enter_59 : decode prog_12_method_5_code 59 = .ok (.aload_n 0, 1) := by decide +kernel
theorem t_X10_enter_60 : decode prog_12_method_5_code 60 = .ok (.getfield 58, 3) := by decide +kernel
theorem t_X10_enter_63 : decode prog_12_method_5_code 63 = .ok (.invokevirtual 78, 3) := by decide +kernel
theorem t_X10_enter_66 : decode prog_12_method_5_code 66 = .ok (.pop, 1) := by decide +kernel
theorem t_X10_enter_67 : decode prog_12_method_5_code 67 = .ok (.aload_n 0, 1) := by decide +kernel
theorem t_X10_enter_68 : decode prog_12_method_5_code 68 = .ok (.getfield 17, 3) := by decide +kernel
theorem t_X10_enter_71 : decode prog_12_method_5_code 71 = .ok (.aload_n 0, 1) := by decide +kernel
theorem t_X10_enter_72 : decode prog_12_method_5_code 72 = .ok (.getfield 41, 3) := by decide +kernel
theorem t_X10_enter_75 : decode prog_12_method_5_code 75 = .ok (.iload_n 3, 1) := by decide +kernel
theorem t_X10_enter_76 : decode prog_12_method_5_code 76 = .ok (.iastore, 1) := by decide +kernel
theorem t_X10_enter_77 : decode prog_12_method_5_code 77 = .ok (.aload_n 0, 1) := by decide +kernel
theorem t_X10_enter_78 : decode prog_12_method_5_code 78 = .ok (.dup, 1) := by decide +kernel
theorem t_X10_enter_79 : decode prog_12_method_5_code 79 = .ok (.getfield 41, 3) := by decide +kernel
theorem t_X10_enter_82 : decode prog_12_method_5_code 82 = .ok (.iconst 1, 1) := by decide +kernel
theorem t_X10_enter_83 : decode prog_12_method_5_code 83 = .ok (.iadd, 1) := by decide +kernel
theorem t_X10_enter_84 : decode prog_12_method_5_code 84 = .ok (.putfield 41, 3) := by decide +kernel
theorem t_X10_enter_87 : decode prog_12_method_5_code 87 = .ok (.iconst 1, 1) := by decide +kernel
theorem t_X10_enter_88 : decode prog_12_method_5_code 88 = .ok (.ireturn, 1) := by decide +kernel
theorem t_X10_enter_89 : decode prog_12_method_5_code 89 = .ok (.iinc 3 1, 3) := by decide +kernel
theorem t_X10_enter_92 : decode prog_12_method_5_code 92 = .ok (.goto (-80), 3) := by decide +kernel
theorem t_X10_enter_95 : decode prog_12_method_5_code 95 = .ok (.iconst 0, 1) := by decide +kernel
theorem t_X10_enter_96 : decode prog_12_method_5_code 96 = .ok (.ireturn, 1) := by decide +kernel
def y_X10_step : MethodName := ⟨"SowingBoards$Tree", "step", "()Z"⟩
theorem t_X10_step_0 : decode prog_12_method_4_code 0 = .ok (.aload_n 0, 1) := by decide +kernel
theorem t_X10_step_1 : decode prog_12_method_4_code 1 = .ok (.getfield 54, 3) := by decide +kernel
theorem t_X10_step_4 : decode prog_12_method_4_code 4 = .ok (.ifCond .eq 26, 3) := by decide +kernel
theorem t_X10_step_7 : decode prog_12_method_4_code 7 = .ok (.aload_n 0, 1) := by decide +kernel
theorem t_X10_step_8 : decode prog_12_method_4_code 8 = .ok (.invokevirtual 61, 3) := by decide +kernel
theorem t_X10_step_11 : decode prog_12_method_4_code 11 = .ok (.getfield 65, 3) := by decide +kernel
theorem t_X10_step_14 : decode prog_12_method_4_code 14 = .ok (.aload_n 0, 1) := by decide +kernel
theorem t_X10_step_15 : decode prog_12_method_4_code 15 = .ok (.getfield 11, 3) := by decide +kernel
theorem t_X10_step_18 : decode prog_12_method_4_code 18 = .ok (.iconst 0, 1) := by decide +kernel
theorem t_X10_step_19 : decode prog_12_method_4_code 19 = .ok (.aaload, 1) := by decide +kernel
theorem t_X10_step_20 : decode prog_12_method_4_code 20 = .ok (.getfield 65, 3) := by decide +kernel
theorem t_X10_step_23 : decode prog_12_method_4_code 23 = .ok (.if_icmp .eq 7, 3) := by decide +kernel
theorem t_X10_step_26 : decode prog_12_method_4_code 26 = .ok (.iconst 1, 1) := by decide +kernel
theorem t_X10_step_27 : decode prog_12_method_4_code 27 = .ok (.goto 4, 3) := by decide +kernel
theorem t_X10_step_30 : decode prog_12_method_4_code 30 = .ok (.iconst 0, 1) := by decide +kernel
theorem t_X10_step_31 : decode prog_12_method_4_code 31 = .ok (.istore_n 1, 1) := by decide +kernel
theorem t_X10_step_32 : decode prog_12_method_4_code 32 = .ok (.aload_n 0, 1) := by decide +kernel
theorem t_X10_step_33 : decode prog_12_method_4_code 33 = .ok (.getfield 41, 3) := by decide +kernel
theorem t_X10_step_36 : decode prog_12_method_4_code 36 = .ok (.aload_n 0, 1) := by decide +kernel
theorem t_X10_step_37 : decode prog_12_method_4_code 37 = .ok (.getfield 51, 3) := by decide +kernel
theorem t_X10_step_40 : decode prog_12_method_4_code 40 = .ok (.if_icmp .ge 17, 3) := by decide +kernel
theorem t_X10_step_43 : decode prog_12_method_4_code 43 = .ok (.iload_n 1, 1) := by decide +kernel
theorem t_X10_step_44 : decode prog_12_method_4_code 44 = .ok (.ifCond .ne 13, 3) := by decide +kernel
theorem t_X10_step_47 : decode prog_12_method_4_code 47 = .ok (.aload_n 0, 1) := by decide +kernel
theorem t_X10_step_48 : decode prog_12_method_4_code 48 = .ok (.iconst 0, 1) := by decide +kernel
theorem t_X10_step_49 : decode prog_12_method_4_code 49 = .ok (.invokevirtual 68, 3) := by decide +kernel
theorem t_X10_step_52 : decode prog_12_method_4_code 52 = .ok (.ifCond .eq 5, 3) := by decide +kernel
theorem t_X10_step_55 : decode prog_12_method_4_code 55 = .ok (.iconst 1, 1) := by decide +kernel
theorem t_X10_step_56 : decode prog_12_method_4_code 56 = .ok (.ireturn, 1) := by decide +kernel
theorem t_X10_step_57 : decode prog_12_method_4_code 57 = .ok (.aload_n 0, 1) := by decide +kernel
theorem t_X10_step_58 : decode prog_12_method_4_code 58 = .ok (.getfield 41, 3) := by decide +kernel
theorem t_X10_step_61 : decode prog_12_method_4_code 61 = .ok (.ifCond .le 33, 3) := by decide +kernel
theorem t_X10_step_64 : decode prog_12_method_4_code 64 = .ok (.aload_n 0, 1) := by decide +kernel
theorem t_X10_step_65 : decode prog_12_method_4_code 65 = .ok (.dup, 1) := by decide +kernel
theorem t_X10_step_66 : decode prog_12_method_4_code 66 = .ok (.getfield 41, 3) := by decide +kernel
theorem t_X10_step_69 : decode prog_12_method_4_code 69 = .ok (.iconst 1, 1) := by decide +kernel
theorem t_X10_step_70 : decode prog_12_method_4_code 70 = .ok (.isub, 1) := by decide +kernel
theorem t_X10_step_71 : decode prog_12_method_4_code 71 = .ok (.putfield 41, 3) := by decide +kernel
theorem t_X10_step_74 : decode prog_12_method_4_code 74 = .ok (.aload_n 0, 1) := by decide +kernel
theorem t_X10_step_75 : decode prog_12_method_4_code 75 = .ok (.aload_n 0, 1) := by decide +kernel
theorem t_X10_step_76 : decode prog_12_method_4_code 76 = .ok (.getfield 17, 3) := by decide +kernel
theorem t_X10_step_79 : decode prog_12_method_4_code 79 = .ok (.aload_n 0, 1) := by decide +kernel
theorem t_X10_step_80 : decode prog_12_method_4_code 80 = .ok (.getfield 41, 3) := by decide +kernel
theorem t_X10_step_83 : decode prog_12_method_4_code 83 = .ok (.iaload, 1) := by decide +kernel
theorem t_X10_step_84 : decode prog_12_method_4_code 84 = .ok (.iconst 1, 1) := by decide +kernel
theorem t_X10_step_85 : decode prog_12_method_4_code 85 = .ok (.iadd, 1) := by decide +kernel
theorem t_X10_step_86 : decode prog_12_method_4_code 86 = .ok (.invokevirtual 68, 3) := by decide +kernel
theorem t_X10_step_89 : decode prog_12_method_4_code 89 = .ok (.ifCond .eq (-32), 3) := by decide +kernel
theorem t_X10_step_92 : decode prog_12_method_4_code 92 = .ok (.iconst 1, 1) := by decide +kernel
theorem t_X10_step_93 : decode prog_12_method_4_code 93 = .ok (.ireturn, 1) := by decide +kernel
theorem t_X10_step_94 : decode prog_12_method_4_code 94 = .ok (.iconst 0, 1) := by decide +kernel
theorem t_X10_step_95 : decode prog_12_method_4_code 95 = .ok (.ireturn, 1) := by decide +kernel
def y_X10_isAtEnd : MethodName := ⟨"SowingBoards$Tree", "isAtEnd", "()Z"⟩
theorem t_X10_isAtEnd_0 : decode prog_12_method_6_code 0 = .ok (.aload_n 0, 1) := by decide +kernel
theorem t_X10_isAtEnd_1 : decode prog_12_method_6_code 1 = .ok (.getfield 41, 3) := by decide +kernel
theorem t_X10_isAtEnd_4 : decode prog_12_method_6_code 4 = .ok (.aload_n 0, 1) := by decide +kernel
theorem t_X10_isAtEnd_5 : decode prog_12_method_6_code 5 = .ok (.getfield 51, 3) := by decide +kernel
theorem t_X10_isAtEnd_8 : decode prog_12_method_6_code 8 = .ok (.if_icmp .eq 13, 3) := by decide +kernel
theorem t_X10_isAtEnd_11 : decode prog_12_method_6_code 11 = .ok (.aload_n 0, 1) := by decide +kernel
theorem t_X10_isAtEnd_12 : decode prog_12_method_6_code 12 = .ok (.invokevirtual 61, 3) := by decide +kernel
theorem t_X10_isAtEnd_15 : decode prog_12_method_6_code 15 = .ok (.invokevirtual 82, 3) := by decide +kernel
theorem t_X10_isAtEnd_18 : decode prog_12_method_6_code 18 = .ok (.ifCond .eq 7, 3) := by decide +kernel
theorem t_X10_isAtEnd_21 : decode prog_12_method_6_code 21 = .ok (.iconst 1, 1) := by decide +kernel
theorem t_X10_isAtEnd_22 : decode prog_12_method_6_code 22 = .ok (.goto 4, 3) := by decide +kernel
theorem t_X10_isAtEnd_25 : decode prog_12_method_6_code 25 = .ok (.iconst 0, 1) := by decide +kernel
theorem t_X10_isAtEnd_26 : decode prog_12_method_6_code 26 = .ok (.ireturn, 1) := by decide +kernel
def y_X10_share : MethodName := ⟨"SowingBoards$Tree", "share", "()J"⟩
theorem t_X10_share_0 : decode prog_12_method_7_code 0 = .ok (.ldc2_w 86, 3) := by decide +kernel
theorem t_X10_share_3 : decode prog_12_method_7_code 3 = .ok (.lstore_n 1, 1) := by decide +kernel
theorem t_X10_share_4 : decode prog_12_method_7_code 4 = .ok (.iconst 0, 1) := by decide +kernel
theorem t_X10_share_5 : decode prog_12_method_7_code 5 = .ok (.istore_n 3, 1) := by decide +kernel
theorem t_X10_share_6 : decode prog_12_method_7_code 6 = .ok (.iload_n 3, 1) := by decide +kernel
theorem t_X10_share_7 : decode prog_12_method_7_code 7 = .ok (.aload_n 0, 1) := by decide +kernel
theorem t_X10_share_8 : decode prog_12_method_7_code 8 = .ok (.getfield 41, 3) := by decide +kernel
theorem t_X10_share_11 : decode prog_12_method_7_code 11 = .ok (.if_icmp .ge 26, 3) := by decide +kernel
theorem t_X10_share_14 : decode prog_12_method_7_code 14 = .ok (.lload_n 1, 1) := by decide +kernel
theorem t_X10_share_15 : decode prog_12_method_7_code 15 = .ok (.iconst 1, 1) := by decide +kernel
theorem t_X10_share_16 : decode prog_12_method_7_code 16 = .ok (.aload_n 0, 1) := by decide +kernel
theorem t_X10_share_17 : decode prog_12_method_7_code 17 = .ok (.getfield 11, 3) := by decide +kernel
theorem t_X10_share_20 : decode prog_12_method_7_code 20 = .ok (.iload_n 3, 1) := by decide +kernel
theorem t_X10_share_21 : decode prog_12_method_7_code 21 = .ok (.aaload, 1) := by decide +kernel
theorem t_X10_share_22 : decode prog_12_method_7_code 22 = .ok (.invokevirtual 88, 3) := by decide +kernel
theorem t_X10_share_25 : decode prog_12_method_7_code 25 = .ok (.invokestatic 92, 3) := by decide +kernel
theorem t_X10_share_28 : decode prog_12_method_7_code 28 = .ok (.i2l, 1) := by decide +kernel
theorem t_X10_share_29 : decode prog_12_method_7_code 29 = .ok (.ldiv, 1) := by decide +kernel
theorem t_X10_share_30 : decode prog_12_method_7_code 30 = .ok (.lstore_n 1, 1) := by decide +kernel
theorem t_X10_share_31 : decode prog_12_method_7_code 31 = .ok (.iinc 3 1, 3) := by decide +kernel
theorem t_X10_share_34 : decode prog_12_method_7_code 34 = .ok (.goto (-28), 3) := by decide +kernel
theorem t_X10_share_37 : decode prog_12_method_7_code 37 = .ok (.lload_n 1, 1) := by decide +kernel
theorem t_X10_share_38 : decode prog_12_method_7_code 38 = .ok (.lreturn, 1) := by decide +kernel
def y_X10_tellPath : MethodName := ⟨"SowingBoards$Tree", "tellPath", "(LSowingBoards$Numbers;)V"⟩
theorem t_X10_tellPath_0 : decode prog_12_method_8_code 0 = .ok (.aload_n 1, 1) := by decide +kernel
theorem t_X10_tellPath_1 : decode prog_12_method_8_code 1 = .ok (.invokevirtual 95, 3) := by decide +kernel
theorem t_X10_tellPath_4 : decode prog_12_method_8_code 4 = .ok (.iconst 0, 1) := by decide +kernel
theorem t_X10_tellPath_5 : decode prog_12_method_8_code 5 = .ok (.istore_n 2, 1) := by decide +kernel
theorem t_X10_tellPath_6 : decode prog_12_method_8_code 6 = .ok (.iload_n 2, 1) := by decide +kernel
theorem t_X10_tellPath_7 : decode prog_12_method_8_code 7 = .ok (.aload_n 0, 1) := by decide +kernel
theorem t_X10_tellPath_8 : decode prog_12_method_8_code 8 = .ok (.getfield 41, 3) := by decide +kernel
theorem t_X10_tellPath_11 : decode prog_12_method_8_code 11 = .ok (.if_icmp .ge 20, 3) := by decide +kernel
theorem t_X10_tellPath_14 : decode prog_12_method_8_code 14 = .ok (.aload_n 1, 1) := by decide +kernel
theorem t_X10_tellPath_15 : decode prog_12_method_8_code 15 = .ok (.aload_n 0, 1) := by decide +kernel
theorem t_X10_tellPath_16 : decode prog_12_method_8_code 16 = .ok (.getfield 17, 3) := by decide +kernel
theorem t_X10_tellPath_19 : decode prog_12_method_8_code 19 = .ok (.iload_n 2, 1) := by decide +kernel
theorem t_X10_tellPath_20 : decode prog_12_method_8_code 20 = .ok (.iaload, 1) := by decide +kernel
theorem t_X10_tellPath_21 : decode prog_12_method_8_code 21 = .ok (.i2l, 1) := by decide +kernel
theorem t_X10_tellPath_22 : decode prog_12_method_8_code 22 = .ok (.invokevirtual 100, 3) := by decide +kernel
theorem t_X10_tellPath_25 : decode prog_12_method_8_code 25 = .ok (.iinc 2 1, 3) := by decide +kernel
theorem t_X10_tellPath_28 : decode prog_12_method_8_code 28 = .ok (.goto (-22), 3) := by decide +kernel
theorem t_X10_tellPath_31 : decode prog_12_method_8_code 31 = .ok (.return_, 1) := by decide +kernel
def y_X10_putAhead : MethodName := ⟨"SowingBoards$Tree", "putAhead", "(II)V"⟩
theorem t_X10_putAhead_0 : decode prog_12_method_12_code 0 = .ok (.aload_n 0, 1) := by decide +kernel
theorem t_X10_putAhead_1 : decode prog_12_method_12_code 1 = .ok (.getfield 26, 3) := by decide +kernel
theorem t_X10_putAhead_4 : decode prog_12_method_12_code 4 = .ok (.iload_n 2, 1) := by decide +kernel
theorem t_X10_putAhead_5 : decode prog_12_method_12_code 5 = .ok (.iconst 1, 1) := by decide +kernel
theorem t_X10_putAhead_6 : decode prog_12_method_12_code 6 = .ok (.iadd, 1) := by decide +kernel
theorem t_X10_putAhead_7 : decode prog_12_method_12_code 7 = .ok (.iaload, 1) := by decide +kernel
theorem t_X10_putAhead_8 : decode prog_12_method_12_code 8 = .ok (.istore_n 3, 1) := by decide +kernel
theorem t_X10_putAhead_9 : decode prog_12_method_12_code 9 = .ok (.aload_n 0, 1) := by decide +kernel
theorem t_X10_putAhead_10 : decode prog_12_method_12_code 10 = .ok (.getfield 23, 3) := by decide +kernel
theorem t_X10_putAhead_13 : decode prog_12_method_12_code 13 = .ok (.iload_n 2, 1) := by decide +kernel
theorem t_X10_putAhead_14 : decode prog_12_method_12_code 14 = .ok (.aaload, 1) := by decide +kernel
theorem t_X10_putAhead_15 : decode prog_12_method_12_code 15 = .ok (.iconst 0, 1) := by decide +kernel
theorem t_X10_putAhead_16 : decode prog_12_method_12_code 16 = .ok (.iload_n 1, 1) := by decide +kernel
theorem t_X10_putAhead_17 : decode prog_12_method_12_code 17 = .ok (.iastore, 1) := by decide +kernel
theorem t_X10_putAhead_18 : decode prog_12_method_12_code 18 = .ok (.aload_n 0, 1) := by decide +kernel
theorem t_X10_putAhead_19 : decode prog_12_method_12_code 19 = .ok (.getfield 23, 3) := by decide +kernel
theorem t_X10_putAhead_22 : decode prog_12_method_12_code 22 = .ok (.iload_n 2, 1) := by decide +kernel
theorem t_X10_putAhead_23 : decode prog_12_method_12_code 23 = .ok (.iconst 1, 1) := by decide +kernel
theorem t_X10_putAhead_24 : decode prog_12_method_12_code 24 = .ok (.iadd, 1) := by decide +kernel
theorem t_X10_putAhead_25 : decode prog_12_method_12_code 25 = .ok (.aaload, 1) := by decide +kernel
theorem t_X10_putAhead_26 : decode prog_12_method_12_code 26 = .ok (.iconst 0, 1) := by decide +kernel
theorem t_X10_putAhead_27 : decode prog_12_method_12_code 27 = .ok (.aload_n 0, 1) := by decide +kernel
theorem t_X10_putAhead_28 : decode prog_12_method_12_code 28 = .ok (.getfield 23, 3) := by decide +kernel
theorem t_X10_putAhead_31 : decode prog_12_method_12_code 31 = .ok (.iload_n 2, 1) := by decide +kernel
theorem t_X10_putAhead_32 : decode prog_12_method_12_code 32 = .ok (.aaload, 1) := by decide +kernel
theorem t_X10_putAhead_33 : decode prog_12_method_12_code 33 = .ok (.iconst 1, 1) := by decide +kernel
theorem t_X10_putAhead_34 : decode prog_12_method_12_code 34 = .ok (.iload_n 3, 1) := by decide +kernel
theorem t_X10_putAhead_35 : decode prog_12_method_12_code 35 = .ok (.invokestatic 119, 3) := by decide +kernel
theorem t_X10_putAhead_38 : decode prog_12_method_12_code 38 = .ok (.aload_n 0, 1) := by decide +kernel
theorem t_X10_putAhead_39 : decode prog_12_method_12_code 39 = .ok (.getfield 26, 3) := by decide +kernel
theorem t_X10_putAhead_42 : decode prog_12_method_12_code 42 = .ok (.iload_n 2, 1) := by decide +kernel
theorem t_X10_putAhead_43 : decode prog_12_method_12_code 43 = .ok (.iload_n 3, 1) := by decide +kernel
theorem t_X10_putAhead_44 : decode prog_12_method_12_code 44 = .ok (.iconst 1, 1) := by decide +kernel
theorem t_X10_putAhead_45 : decode prog_12_method_12_code 45 = .ok (.iadd, 1) := by decide +kernel
theorem t_X10_putAhead_46 : decode prog_12_method_12_code 46 = .ok (.iastore, 1) := by decide +kernel
theorem t_X10_putAhead_47 : decode prog_12_method_12_code 47 = .ok (.return_, 1) := by decide +kernel
def y_X10_leadBehind : MethodName := ⟨"SowingBoards$Tree", "leadBehind", "(LSowingBoards$Tree;I)I"⟩
theorem t_X10_leadBehind_0 : decode prog_12_method_11_code 0 = .ok (.aload_n 0, 1) := by decide +kernel
theorem t_X10_leadBehind_1 : decode prog_12_method_11_code 1 = .ok (.getfield 11, 3) := by decide +kernel
theorem t_X10_leadBehind_4 : decode prog_12_method_11_code 4 = .ok (.iload_n 1, 1) := by decide +kernel
theorem t_X10_leadBehind_5 : decode prog_12_method_11_code 5 = .ok (.aaload, 1) := by decide +kernel
theorem t_X10_leadBehind_6 : decode prog_12_method_11_code 6 = .ok (.astore_n 2, 1) := by decide +kernel
theorem t_X10_leadBehind_7 : decode prog_12_method_11_code 7 = .ok (.aload_n 0, 1) := by decide +kernel
theorem t_X10_leadBehind_8 : decode prog_12_method_11_code 8 = .ok (.getfield 26, 3) := by decide +kernel
theorem t_X10_leadBehind_11 : decode prog_12_method_11_code 11 = .ok (.iload_n 1, 1) := by decide +kernel
theorem t_X10_leadBehind_12 : decode prog_12_method_11_code 12 = .ok (.iconst 0, 1) := by decide +kernel
theorem t_X10_leadBehind_13 : decode prog_12_method_11_code 13 = .ok (.iastore, 1) := by decide +kernel
theorem t_X10_leadBehind_14 : decode prog_12_method_11_code 14 = .ok (.iload_n 1, 1) := by decide +kernel
theorem t_X10_leadBehind_15 : decode prog_12_method_11_code 15 = .ok (.aload_n 0, 1) := by decide +kernel
theorem t_X10_leadBehind_16 : decode prog_12_method_11_code 16 = .ok (.getfield 51, 3) := by decide +kernel
theorem t_X10_leadBehind_19 : decode prog_12_method_11_code 19 = .ok (.if_icmp .ge 10, 3) := by decide +kernel
theorem t_X10_leadBehind_22 : decode prog_12_method_11_code 22 = .ok (.aload_n 2, 1) := by decide +kernel
theorem t_X10_leadBehind_23 : decode prog_12_method_11_code 23 = .ok (.invokevirtual 82, 3) := by decide +kernel
theorem t_X10_leadBehind_26 : decode prog_12_method_11_code 26 = .ok (.ifCond .eq 17, 3) := by decide +kernel
theorem t_X10_leadBehind_29 : decode prog_12_method_11_code 29 = .ok (.aload_n 2, 1) := by decide +kernel
theorem t_X10_leadBehind_30 : decode prog_12_method_11_code 30 = .ok (.getfield 112, 3) := by decide +kernel
theorem t_X10_leadBehind_33 : decode prog_12_method_11_code 33 = .ok (.iconst 0, 1) := by decide +kernel
theorem t_X10_leadBehind_34 : decode prog_12_method_11_code 34 = .ok (.iaload, 1) := by decide +kernel
theorem t_X10_leadBehind_35 : decode prog_12_method_11_code 35 = .ok (.aload_n 2, 1) := by decide +kernel
theorem t_X10_leadBehind_36 : decode prog_12_method_11_code 36 = .ok (.getfield 112, 3) := by decide +kernel
theorem t_X10_leadBehind_39 : decode prog_12_method_11_code 39 = .ok (.iconst 1, 1) := by decide +kernel
theorem t_X10_leadBehind_40 : decode prog_12_method_11_code 40 = .ok (.iaload, 1) := by decide +kernel
theorem t_X10_leadBehind_41 : decode prog_12_method_11_code 41 = .ok (.isub, 1) := by decide +kernel
theorem t_X10_leadBehind_42 : decode prog_12_method_11_code 42 = .ok (.ireturn, 1) := by decide +kernel
theorem t_X10_leadBehind_43 : decode prog_12_method_11_code 43 = .ok (.iconst 0, 1) := by decide +kernel
theorem t_X10_leadBehind_44 : decode prog_12_method_11_code 44 = .ok (.istore_n 3, 1) := by decide +kernel
theorem t_X10_leadBehind_45 : decode prog_12_method_11_code 45 = .ok (.iconst 0, 1) := by decide +kernel
theorem t_X10_leadBehind_46 : decode prog_12_method_11_code 46 = .ok (.istore 4, 2) := by decide +kernel
theorem t_X10_leadBehind_48 : decode prog_12_method_11_code 48 = .ok (.iload 4, 2) := by decide +kernel
theorem t_X10_leadBehind_50 : decode prog_12_method_11_code 50 = .ok (.aload_n 2, 1) := by decide +kernel
theorem t_X10_leadBehind_51 : decode prog_12_method_11_code 51 = .ok (.getfield 72, 3) := by decide +kernel
theorem t_X10_leadBehind_54 : decode prog_12_method_11_code 54 = .ok (.if_icmp .ge 110, 3) := by decide +kernel
theorem t_X10_leadBehind_57 : decode prog_12_method_11_code 57 = .ok (.aload_n 0, 1) := by decide +kernel
theorem t_X10_leadBehind_58 : decode prog_12_method_11_code 58 = .ok (.getfield 11, 3) := by decide +kernel
theorem t_X10_leadBehind_61 : decode prog_12_method_11_code 61 = .ok (.iload_n 1, 1) := by decide +kernel
theorem t_X10_leadBehind_62 : decode prog_12_method_11_code 62 = .ok (.iconst 1, 1) := by decide +kernel
theorem t_X10_leadBehind_63 : decode prog_12_method_11_code 63 = .ok (.iadd, 1) := by decide +kernel
theorem t_X10_leadBehind_64 : decode prog_12_method_11_code 64 = .ok (.aaload, 1) := by decide +kernel
theorem t_X10_leadBehind_65 : decode prog_12_method_11_code 65 = .ok (.astore 5, 2) := by decide +kernel
theorem t_X10_leadBehind_67 : decode prog_12_method_11_code 67 = .ok (.aload 5, 2) := by decide +kernel
theorem t_X10_leadBehind_69 : decode prog_12_method_11_code 69 = .ok (.aload_n 2, 1) := by decide +kernel
theorem t_X10_leadBehind_70 : decode prog_12_method_11_code 70 = .ok (.invokevirtual 37, 3) := by decide +kernel
theorem t_X10_leadBehind_73 : decode prog_12_method_11_code 73 = .ok (.aload_n 0, 1) := by decide +kernel
theorem t_X10_leadBehind_74 : decode prog_12_method_11_code 74 = .ok (.getfield 32, 3) := by decide +kernel
theorem t_X10_leadBehind_77 : decode prog_12_method_11_code 77 = .ok (.aload 5, 2) := by decide +kernel
theorem t_X10_leadBehind_79 : decode prog_12_method_11_code 79 = .ok (.iload 4, 2) := by decide +kernel
theorem t_X10_leadBehind_81 : decode prog_12_method_11_code 81 = .ok (.aload_n 0, 1) := by decide +kernel
theorem t_X10_leadBehind_82 : decode prog_12_method_11_code 82 = .ok (.getfield 58, 3) := by decide +kernel
theorem t_X10_leadBehind_85 : decode prog_12_method_11_code 85 = .ok (.invokevirtual 78, 3) := by decide +kernel
theorem t_X10_leadBehind_88 : decode prog_12_method_11_code 88 = .ok (.ifCond .eq 70, 3) := by decide +kernel
theorem t_X10_leadBehind_91 : decode prog_12_method_11_code 91 = .ok (.aload_n 0, 1) := by decide +kernel
theorem t_X10_leadBehind_92 : decode prog_12_method_11_code 92 = .ok (.iload_n 1, 1) := by decide +kernel
theorem t_X10_leadBehind_93 : decode prog_12_method_11_code 93 = .ok (.iconst 1, 1) := by decide +kernel
theorem t_X10_leadBehind_94 : decode prog_12_method_11_code 94 = .ok (.iadd, 1) := by decide +kernel
theorem t_X10_leadBehind_95 : decode prog_12_method_11_code 95 = .ok (.invokestatic 108, 3) := by decide +kernel
theorem t_X10_leadBehind_98 : decode prog_12_method_11_code 98 = .ok (.istore 6, 2) := by decide +kernel
theorem t_X10_leadBehind_100 : decode prog_12_method_11_code 100 = .ok (.aload_n 2, 1) := by decide +kernel
theorem t_X10_leadBehind_101 : decode prog_12_method_11_code 101 = .ok (.getfield 65, 3) := by decide +kernel
theorem t_X10_leadBehind_104 : decode prog_12_method_11_code 104 = .ok (.ifCond .ne 17, 3) := by decide +kernel
theorem t_X10_leadBehind_107 : decode prog_12_method_11_code 107 = .ok (.iload 6, 2) := by decide +kernel
theorem t_X10_leadBehind_109 : decode prog_12_method_11_code 109 = .ok (.iload_n 3, 1) := by decide +kernel
theorem t_X10_leadBehind_110 : decode prog_12_method_11_code 110 = .ok (.if_icmp .le 7, 3) := by decide +kernel
theorem t_X10_leadBehind_113 : decode prog_12_method_11_code 113 = .ok (.iconst 1, 1) := by decide +kernel
theorem t_X10_leadBehind_114 : decode prog_12_method_11_code 114 = .ok (.goto 18, 3) := by decide +kernel
theorem t_X10_leadBehind_117 : decode prog_12_method_11_code 117 = .ok (.iconst 0, 1) := by decide +kernel
theorem t_X10_leadBehind_118 : decode prog_12_method_11_code 118 = .ok (.goto 14, 3) := by decide +kernel
theorem t_X10_leadBehind_121 : decode prog_12_method_11_code 121 = .ok (.iload 6, 2) := by decide +kernel
theorem t_X10_leadBehind_123 : decode prog_12_method_11_code 123 = .ok (.iload_n 3, 1) := by decide +kernel
theorem t_X10_leadBehind_124 : decode prog_12_method_11_code 124 = .ok (.if_icmp .ge 7, 3) := by decide +kernel
theorem t_X10_leadBehind_127 : decode prog_12_method_11_code 127 = .ok (.iconst 1, 1) := by decide +kernel
theorem t_X10_leadBehind_128 : decode prog_12_method_11_code 128 = .ok (.goto 4, 3) := by decide +kernel
theorem t_X10_leadBehind_131 : decode prog_12_method_11_code 131 = .ok (.iconst 0, 1) := by decide +kernel
theorem t_X10_leadBehind_132 : decode prog_12_method_11_code 132 = .ok (.istore 7, 2) := by decide +kernel
theorem t_X10_leadBehind_134 : decode prog_12_method_11_code 134 = .ok (.iload 7, 2) := by decide +kernel
theorem t_X10_leadBehind_136 : decode prog_12_method_11_code 136 = .ok (.ifCond .ne 12, 3) := by decide +kernel
theorem t_X10_leadBehind_139 : decode prog_12_method_11_code 139 = .ok (.aload_n 0, 1) := by decide +kernel
theorem t_X10_leadBehind_140 : decode prog_12_method_11_code 140 = .ok (.getfield 26, 3) := by decide +kernel
theorem t_X10_leadBehind_143 : decode prog_12_method_11_code 143 = .ok (.iload_n 1, 1) := by decide +kernel
theorem t_X10_leadBehind_144 : decode prog_12_method_11_code 144 = .ok (.iaload, 1) := by decide +kernel
theorem t_X10_leadBehind_145 : decode prog_12_method_11_code 145 = .ok (.ifCond .ne 13, 3) := by decide +kernel
theorem t_X10_leadBehind_148 : decode prog_12_method_11_code 148 = .ok (.iload 6, 2) := by decide +kernel
theorem t_X10_leadBehind_150 : decode prog_12_method_11_code 150 = .ok (.istore_n 3, 1) := by decide +kernel
theorem t_X10_leadBehind_151 : decode prog_12_method_11_code 151 = .ok (.aload_n 0, 1) := by decide +kernel
theorem t_X10_leadBehind_152 : decode prog_12_method_11_code 152 = .ok (.iload 4, 2) := by decide +kernel
theorem t_X10_leadBehind_154 : decode prog_12_method_11_code 154 = .ok (.iload_n 1, 1) := by decide +kernel
theorem t_X10_leadBehind_155 : decode prog_12_method_11_code 155 = .ok (.invokevirtual 115, 3) := by decide +kernel
theorem t_X10_leadBehind_158 : decode prog_12_method_11_code 158 = .ok (.iinc 4 1, 3) := by decide +kernel
theorem t_X10_leadBehind_161 : decode prog_12_method_11_code 161 = .ok (.goto (-113), 3) := by decide +kernel
theorem t_X10_leadBehind_164 : decode prog_12_method_11_code 164 = .ok (.iload_n 3, 1) := by decide +kernel
theorem t_X10_leadBehind_165 : decode prog_12_method_11_code 165 = .ok (.ireturn, 1) := by decide +kernel
def y_X10_duel : MethodName := ⟨"SowingBoards$Tree", "duel", "(LSowingBoards$Position;II)I"⟩
theorem t_X10_duel_0 : decode prog_12_method_9_code 0 = .ok (.aload_n 0, 1) := by decide +kernel
theorem t_X10_duel_1 : decode prog_12_method_9_code 1 = .ok (.aload_n 1, 1) := by decide +kernel
theorem t_X10_duel_2 : decode prog_12_method_9_code 2 = .ok (.iload_n 2, 1) := by decide +kernel
theorem t_X10_duel_3 : decode prog_12_method_9_code 3 = .ok (.iconst 4, 1) := by decide +kernel
theorem t_X10_duel_4 : decode prog_12_method_9_code 4 = .ok (.invokestatic 45, 3) := by decide +kernel
theorem t_X10_duel_7 : decode prog_12_method_9_code 7 = .ok (.iconst 0, 1) := by decide +kernel
theorem t_X10_duel_8 : decode prog_12_method_9_code 8 = .ok (.iload_n 3, 1) := by decide +kernel
theorem t_X10_duel_9 : decode prog_12_method_9_code 9 = .ok (.invokevirtual 104, 3) := by decide +kernel
theorem t_X10_duel_12 : decode prog_12_method_9_code 12 = .ok (.aload_n 0, 1) := by decide +kernel
theorem t_X10_duel_13 : decode prog_12_method_9_code 13 = .ok (.iconst 0, 1) := by decide +kernel
theorem t_X10_duel_14 : decode prog_12_method_9_code 14 = .ok (.invokestatic 108, 3) := by decide +kernel
theorem t_X10_duel_17 : decode prog_12_method_9_code 17 = .ok (.istore 4, 2) := by decide +kernel
theorem t_X10_duel_19 : decode prog_12_method_9_code 19 = .ok (.aload_n 1, 1) := by decide +kernel
theorem t_X10_duel_20 : decode prog_12_method_9_code 20 = .ok (.getfield 65, 3) := by decide +kernel
theorem t_X10_duel_23 : decode prog_12_method_9_code 23 = .ok (.ifCond .ne 8, 3) := by decide +kernel
theorem t_X10_duel_26 : decode prog_12_method_9_code 26 = .ok (.iload 4, 2) := by decide +kernel
theorem t_X10_duel_28 : decode prog_12_method_9_code 28 = .ok (.goto 6, 3) := by decide +kernel
theorem t_X10_duel_31 : decode prog_12_method_9_code 31 = .ok (.iload 4, 2) := by decide +kernel
theorem t_X10_duel_33 : decode prog_12_method_9_code 33 = .ok (.ineg, 1) := by decide +kernel
theorem t_X10_duel_34 : decode prog_12_method_9_code 34 = .ok (.ireturn, 1) := by decide +kernel
def y_X10_tellDuel : MethodName := ⟨"SowingBoards$Tree", "tellDuel", "(LSowingBoards$Numbers;)V"⟩
theorem t_X10_tellDuel_0 : decode prog_12_method_10_code 0 = .ok (.aload_n 1, 1) := by decide +kernel
theorem t_X10_tellDuel_1 : decode prog_12_method_10_code 1 = .ok (.invokevirtual 95, 3) := by decide +kernel
theorem t_X10_tellDuel_4 : decode prog_12_method_10_code 4 = .ok (.iconst 0, 1) := by decide +kernel
theorem t_X10_tellDuel_5 : decode prog_12_method_10_code 5 = .ok (.istore_n 2, 1) := by decide +kernel
theorem t_X10_tellDuel_6 : decode prog_12_method_10_code 6 = .ok (.iload_n 2, 1) := by decide +kernel
theorem t_X10_tellDuel_7 : decode prog_12_method_10_code 7 = .ok (.aload_n 0, 1) := by decide +kernel
theorem t_X10_tellDuel_8 : decode prog_12_method_10_code 8 = .ok (.getfield 26, 3) := by decide +kernel
theorem t_X10_tellDuel_11 : decode prog_12_method_10_code 11 = .ok (.iconst 0, 1) := by decide +kernel
theorem t_X10_tellDuel_12 : decode prog_12_method_10_code 12 = .ok (.iaload, 1) := by decide +kernel
theorem t_X10_tellDuel_13 : decode prog_12_method_10_code 13 = .ok (.if_icmp .ge 22, 3) := by decide +kernel
theorem t_X10_tellDuel_16 : decode prog_12_method_10_code 16 = .ok (.aload_n 1, 1) := by decide +kernel
theorem t_X10_tellDuel_17 : decode prog_12_method_10_code 17 = .ok (.aload_n 0, 1) := by decide +kernel
theorem t_X10_tellDuel_18 : decode prog_12_method_10_code 18 = .ok (.getfield 23, 3) := by decide +kernel
theorem t_X10_tellDuel_21 : decode prog_12_method_10_code 21 = .ok (.iconst 0, 1) := by decide +kernel
theorem t_X10_tellDuel_22 : decode prog_12_method_10_code 22 = .ok (.aaload, 1) := by decide +kernel
theorem t_X10_tellDuel_23 : decode prog_12_method_10_code 23 = .ok (.iload_n 2, 1) := by decide +kernel
theorem t_X10_tellDuel_24 : decode prog_12_method_10_code 24 = .ok (.iaload, 1) := by decide +kernel
theorem t_X10_tellDuel_25 : decode prog_12_method_10_code 25 = .ok (.i2l, 1) := by decide +kernel
theorem t_X10_tellDuel_26 : decode prog_12_method_10_code 26 = .ok (.invokevirtual 100, 3) := by decide +kernel
theorem t_X10_tellDuel_29 : decode prog_12_method_10_code 29 = .ok (.iinc 2 1, 3) := by decide +kernel
theorem t_X10_tellDuel_32 : decode prog_12_method_10_code 32 = .ok (.goto (-26), 3) := by decide +kernel
theorem t_X10_tellDuel_35 : decode prog_12_method_10_code 35 = .ok (.return_, 1) := by decide +kernel
theorem fl_4_12 : FLk "SowingBoards$Player" 12 4 0 := ⟨_, rfl, by decide, Or.inl (vtb_at 324 (by decide +kernel) rfl)⟩
theorem fl_4_21 : FLk "SowingBoards$Player" 21 4 1 := ⟨_, rfl, by decide, Or.inl (vtb_at 325 (by decide +kernel) rfl)⟩
theorem fl_4_25 : FLk "SowingBoards$Player" 25 4 2 := ⟨_, rfl, by decide, Or.inl (vtb_at 326 (by decide +kernel) rfl)⟩
theorem fl_4_29 : FLk "SowingBoards$Player" 29 5 2 := ⟨_, rfl, by decide, Or.inr ⟨"SowingBoards", vnl_at 190 (by decide +kernel) rfl⟩⟩
theorem fl_10_11 : FLk "SowingBoards$Tree" 11 10 0 := ⟨_, rfl, by decide, Or.inl (vtb_at 347 (by decide +kernel) rfl)⟩
theorem fl_10_17 : FLk "SowingBoards$Tree" 17 10 1 := ⟨_, rfl, by decide, Or.inl (vtb_at 348 (by decide +kernel) rfl)⟩
theorem fl_10_23 : FLk "SowingBoards$Tree" 23 10 2 := ⟨_, rfl, by decide, Or.inl (vtb_at 349 (by decide +kernel) rfl)⟩
theorem fl_10_26 : FLk "SowingBoards$Tree" 26 10 3 := ⟨_, rfl, by decide, Or.inl (vtb_at 350 (by decide +kernel) rfl)⟩
theorem fl_10_32 : FLk "SowingBoards$Tree" 32 10 4 := ⟨_, rfl, by decide, Or.inl (vtb_at 351 (by decide +kernel) rfl)⟩
theorem fl_10_41 : FLk "SowingBoards$Tree" 41 10 5 := ⟨_, rfl, by decide, Or.inl (vtb_at 352 (by decide +kernel) rfl)⟩
theorem fl_10_51 : FLk "SowingBoards$Tree" 51 10 6 := ⟨_, rfl, by decide, Or.inl (vtb_at 354 (by decide +kernel) rfl)⟩
theorem fl_10_54 : FLk "SowingBoards$Tree" 54 10 8 := ⟨_, rfl, by decide, Or.inl (vtb_at 356 (by decide +kernel) rfl)⟩
theorem fl_10_58 : FLk "SowingBoards$Tree" 58 10 7 := ⟨_, rfl, by decide, Or.inl (vtb_at 355 (by decide +kernel) rfl)⟩
theorem fl_10_65 : FLk "SowingBoards$Tree" 65 5 3 := ⟨_, rfl, by decide, Or.inr ⟨"SowingBoards", vnl_at 196 (by decide +kernel) rfl⟩⟩
theorem fl_10_72 : FLk "SowingBoards$Tree" 72 5 2 := ⟨_, rfl, by decide, Or.inr ⟨"SowingBoards", vnl_at 192 (by decide +kernel) rfl⟩⟩
theorem fl_10_112 : FLk "SowingBoards$Tree" 112 5 1 := ⟨_, rfl, by decide, Or.inr ⟨"SowingBoards", vnl_at 188 (by decide +kernel) rfl⟩⟩
theorem fp_4_2 : FPk 4 2 "I" := ⟨_, rfl, rfl, rfl⟩
theorem fp_10_5 : FPk 10 5 "I" := ⟨_, rfl, rfl, rfl⟩
theorem fp_10_6 : FPk 10 6 "I" := ⟨_, rfl, rfl, rfl⟩
theorem fp_10_7 : FPk 10 7 "I" := ⟨_, rfl, rfl, rfl⟩
theorem fp_10_8 : FPk 10 8 "Z" := ⟨_, rfl, rfl, rfl⟩
theorem cc_10_86 : Cond.constantLong "SowingBoards$Tree" 86 12960000 ∈ vtb := vtb_at 1055 (by decide +kernel) rfl
theorem my_X1_make : MY y_X1_make prog_3_method_2_code 7 (some .boolean) 3 := ⟨vtb_at 777 (by decide +kernel) rfl, vtb_at 144 (by decide +kernel) rfl, ⟨by decide, by decide, by decide +kernel⟩, by decide⟩
theorem mi_X1_make : MI y_X1_make := ⟨vtb_at 776 (by decide +kernel) rfl, vtb_at 28 (by decide +kernel) rfl⟩
theorem my_X6_judge : MY y_X6_judge prog_8_method_6_code 5 (some .int) 1 := ⟨vtb_at 865 (by decide +kernel) rfl, vtb_at 149 (by decide +kernel) rfl, ⟨by decide, by decide, by decide +kernel⟩, by decide⟩
theorem mi_X6_judge : MI y_X6_judge := ⟨vtb_at 864 (by decide +kernel) rfl, vtb_at 48 (by decide +kernel) rfl⟩
theorem my_X4_choose : MY y_X4_choose prog_6_method_2_code 7 (some .int) 3 := ⟨vtb_at 859 (by decide +kernel) rfl, vtb_at 145 (by decide +kernel) rfl, ⟨by decide, by decide, by decide +kernel⟩, by decide⟩
theorem mi_X4_choose : MI y_X4_choose := ⟨vtb_at 858 (by decide +kernel) rfl, vtb_at 47 (by decide +kernel) rfl⟩
theorem my_X10_enter : MY y_X10_enter prog_12_method_5_code 4 (some .boolean) 1 := ⟨vtb_at 964 (by decide +kernel) rfl, vtb_at 146 (by decide +kernel) rfl, ⟨by decide, by decide, by decide +kernel⟩, by decide⟩
theorem mi_X10_enter : MI y_X10_enter := ⟨vtb_at 963 (by decide +kernel) rfl, vtb_at 59 (by decide +kernel) rfl⟩
theorem my_X10_here : MY y_X10_here prog_12_method_3_code 1 (some (.object "SowingBoards$Position")) 0 := ⟨vtb_at 960 (by decide +kernel) rfl, vtb_at 146 (by decide +kernel) rfl, ⟨by decide, by decide, by decide +kernel⟩, by decide⟩
theorem mi_X10_here : MI y_X10_here := ⟨vtb_at 959 (by decide +kernel) rfl, vtb_at 58 (by decide +kernel) rfl⟩
theorem my_X5_isOver : MY y_X5_isOver prog_7_method_14_code 1 (some .boolean) 0 := ⟨vtb_at 847 (by decide +kernel) rfl, vtb_at 140 (by decide +kernel) rfl, ⟨by decide, by decide, by decide +kernel⟩, by decide⟩
theorem mi_X5_isOver : MI y_X5_isOver := ⟨vtb_at 846 (by decide +kernel) rfl, vtb_at 44 (by decide +kernel) rfl⟩
theorem my_X5_fullPits : MY y_X5_fullPits prog_7_method_12_code 1 (some .int) 0 := ⟨vtb_at 1059 (by decide +kernel) rfl, vtb_at 140 (by decide +kernel) rfl, ⟨by decide, by decide, by decide +kernel⟩, by decide⟩
theorem mi_X5_fullPits : MI y_X5_fullPits := ⟨vtb_at 1058 (by decide +kernel) rfl, vtb_at 71 (by decide +kernel) rfl⟩
theorem my_X10_leadBehind : MY y_X10_leadBehind prog_12_method_11_code 8 (some .int) 2 := ⟨vtb_at 1003 (by decide +kernel) rfl, vtb_at 146 (by decide +kernel) rfl, ⟨by decide, by decide, by decide +kernel⟩, by decide⟩
theorem ms_X10_leadBehind : Cond.static y_X10_leadBehind ∈ vtb := vtb_at 1002 (by decide +kernel) rfl
theorem my_X10_putAhead : MY y_X10_putAhead prog_12_method_12_code 4 none 2 := ⟨vtb_at 1008 (by decide +kernel) rfl, vtb_at 146 (by decide +kernel) rfl, ⟨by decide, by decide, by decide +kernel⟩, by decide⟩
theorem mi_X10_putAhead : MI y_X10_putAhead := ⟨vtb_at 1007 (by decide +kernel) rfl, vtb_at 62 (by decide +kernel) rfl⟩
theorem my_X10_start : MY y_X10_start prog_12_method_2_code 5 none 4 := ⟨vtb_at 949 (by decide +kernel) rfl, vtb_at 146 (by decide +kernel) rfl, ⟨by decide, by decide, by decide +kernel⟩, by decide⟩
theorem mi_X10_start : MI y_X10_start := ⟨vtb_at 948 (by decide +kernel) rfl, vtb_at 56 (by decide +kernel) rfl⟩
theorem ml_4_32 : ML "SowingBoards$Player" 32 y_X5_take := Or.inr ⟨"SowingBoards", vnl_at 860 (by decide +kernel) rfl⟩
theorem ml_4_36 : ML "SowingBoards$Player" 36 y_X1_make := Or.inr ⟨"SowingBoards", vnl_at 861 (by decide +kernel) rfl⟩
theorem ml_4_40 : ML "SowingBoards$Player" 40 y_X6_judge := Or.inr ⟨"SowingBoards", vnl_at 862 (by decide +kernel) rfl⟩
theorem ml_4_46 : ML "SowingBoards$Player" 46 y_X4_choose := Or.inl (vtb_at 856 (by decide +kernel) rfl)
theorem ml_10_37 : ML "SowingBoards$Tree" 37 y_X5_take := Or.inr ⟨"SowingBoards", vnl_at 950 (by decide +kernel) rfl⟩
theorem ml_10_61 : ML "SowingBoards$Tree" 61 y_X10_here := Or.inl (vtb_at 957 (by decide +kernel) rfl)
theorem ml_10_68 : ML "SowingBoards$Tree" 68 y_X10_enter := Or.inl (vtb_at 961 (by decide +kernel) rfl)
theorem ml_10_75 : ML "SowingBoards$Tree" 75 y_X5_canMove := Or.inr ⟨"SowingBoards", vnl_at 965 (by decide +kernel) rfl⟩
theorem ml_10_78 : ML "SowingBoards$Tree" 78 y_X1_make := Or.inr ⟨"SowingBoards", vnl_at 966 (by decide +kernel) rfl⟩
theorem ml_10_82 : ML "SowingBoards$Tree" 82 y_X5_isOver := Or.inr ⟨"SowingBoards", vnl_at 1004 (by decide +kernel) rfl⟩
theorem ml_10_88 : ML "SowingBoards$Tree" 88 y_X5_fullPits := Or.inr ⟨"SowingBoards", vnl_at 1056 (by decide +kernel) rfl⟩
theorem ml_10_95 : ML "SowingBoards$Tree" 95 y_X3_clear := Or.inr ⟨"SowingBoards", vnl_at 972 (by decide +kernel) rfl⟩
theorem ml_10_100 : ML "SowingBoards$Tree" 100 y_X3_add := Or.inr ⟨"SowingBoards", vnl_at 973 (by decide +kernel) rfl⟩
theorem ml_10_104 : ML "SowingBoards$Tree" 104 y_X10_start := Or.inl (vtb_at 1000 (by decide +kernel) rfl)
theorem ml_10_108 : ML "SowingBoards$Tree" 108 y_X10_leadBehind := Or.inl (vtb_at 1001 (by decide +kernel) rfl)
theorem ml_10_115 : ML "SowingBoards$Tree" 115 y_X10_putAhead := Or.inl (vtb_at 1005 (by decide +kernel) rfl)
theorem ml_10_119 : Cond.methodLink "SowingBoards$Tree" 119 arraycopyName ∈ vtb := vtb_at 1009 (by decide +kernel) rfl
def J_X4_choose_j70_1 (x18 : Int32) (k15 : Int32 → Wd → Option (Int32 × Wd)) (x8 : Int32) : Wd → Option (Int32 × Wd) := fun w19 =>
  bd (wI w19 85 2 x18) fun w21 => k15 x8 w21
def J_X4_choose_j80_2 (r11 : Int32 → Int32 → Wd → Option (Int32 × Wd)) (x8 : Int32) : Int32 → Wd → Option (Int32 × Wd) := fun x13 w14 =>
  bd (x8 + 1) fun x16 => r11 x13 x16 w14
def L_X4_choose_11 (q2 : Nat) (q3 : Nat) (x4 : Int32) (k5 : Int32 → Wd → Option (Int32 × Wd)) : Nat → Int32 → Int32 → Wd → Option (Int32 × Wd)
  | 0, _, _, _ => none
  | n6 + 1, x7, x8, w9 =>
    if (w9.1 q2 2) ≤ x8 then (k5 x7 w9) else (bv (D_X5_take 51 q2 w9) fun w10 => bc (D_X1_make 86 51 x8 x4 w10) fun x12 w11 => bd (J_X4_choose_j80_2 (L_X4_choose_11 q2 q3 x4 k5 n6) x8) fun k15 => if x12 = 0 then (k15 x7 w11) else (bc (D_X6_judge q3 86 w11) fun x18 w17 => bd (J_X4_choose_j70_1 x18 k15 x8) fun k20 => if x7 = (-1) then (k20 w17) else (if x18 ≤ (w17.1 85 2) then (k15 x7 w17) else (k20 w17))))
def J_X4_choose_x86_3  : Int32 → Wd → Option (Int32 × Wd) := fun x22 w23 =>
  some (x22, w23)
def D_X4_choose (o1 : Nat) (o2 : Nat) (p3 : Int32) : Wd → Option (Int32 × Wd) := fun w =>
  bd (wI w 85 2 0) fun w1 => L_X4_choose_11 o1 o2 p3 J_X4_choose_x86_3 FU (-1) 0 w1
set_option maxRecDepth 20000 in
theorem Q_X4_choose_11 {l0 : Launch} {ρ : Nat → Nat} {cs : Nat → ClassId} {G : va_G} {X : Cx} (hρ : injN ρ) (hn : X.2.2.2.2.2.2.2.2.2.2.1 = 7) (h : Okx l0 ρ cs G X prog_6_method_2_code "SowingBoards$Player" 11) {rr : (Int32 × Wd)} (hR : ∀ pc L, decode prog_6_method_2_code pc = .ok (.ireturn, 1) → narrow .int (.int rr.1) = .int rr.1 → gG ρ cs G X pc L [.int rr.1] rr.2) {q2 : Nat} (hq2 : isPos q2) {q3 : Nat} (hq3 : isRule q3) {x4 : Int32} {k5 : Int32 → Wd → Option (Int32 × Wd)} (hk5 : ∀ (z4 : Int32) (w1 : Wd), k5 z4 w1 = some rr → gG ρ cs G X 86 [(4, .int z4)] [] w1) : ∀ (n : Nat) (x7 : Int32) (x8 : Int32) (w : Wd), L_X4_choose_11 q2 q3 x4 k5 n x7 x8 w = some rr → gG ρ cs G X 11 [(0, .ref (ρ 85)), (1, .ref (ρ q2)), (2, .ref (ρ q3)), (3, .int x4), (4, .int x7), (5, .int x8)] [] w := by
  intro n
  induction n with
  | zero =>
    intro x7 x8 w hD
    cases hD
  | succ n6 ih =>
    intro x7 x8 w9 hD
    unfold L_X4_choose_11 at hD
    refine g_iload h 5 t_X4_choose_11 rfl ?_
    refine g_aload_n h 1 t_X4_choose_13 rfl ?_
    refine g_getI h q2 2 fl_4_29 (isPos_sh hq2) (isPos_lt hq2) rfl t_X4_choose_14 ?_
    refine g_icmp_ge (tgt := 86) h t_X4_choose_17 (by decide) hD (fun hD => ?_) (fun hD => ?_)
    · refine g_loc (L' := [(4, .int x7)]) h [4] rfl ?_
      exact hk5 x7 _ hD
    · refine g_aload_n h 0 t_X4_choose_20 rfl ?_
      refine g_getR h 85 0 51 fl_4_12 rfl (by decide) rfl t_X4_choose_21 ?_
      refine g_aload_n h 1 t_X4_choose_24 rfl ?_
      refine g_callVV h 51 (As := [.ref (ρ q2)]) (st := []) my_X5_take mi_X5_take ml_4_32 rfl (by decide) rfl rfl rfl (Nat.le_of_ble_eq_true rfl) (by decide) t_X4_choose_25 hD (fun _ e => S_X5_take hρ (by decide) hq2 e) (fun w10 hD => ?_)
      refine g_aload_n h 0 t_X4_choose_28 rfl ?_
      refine g_getR h 85 1 86 fl_4_21 rfl (by decide) rfl t_X4_choose_29 ?_
      refine g_aload_n h 0 t_X4_choose_32 rfl ?_
      refine g_getR h 85 0 51 fl_4_12 rfl (by decide) rfl t_X4_choose_33 ?_
      refine g_iload h 5 t_X4_choose_36 rfl ?_
      refine g_iload_n h 3 t_X4_choose_38 rfl ?_
      refine g_callVI h 86 (As := [.ref (ρ 51), .int x8, .int x4]) (st := []) my_X1_make mi_X1_make ml_4_36 rfl (by decide) rfl rfl rfl (Nat.le_of_ble_eq_true rfl) (by decide) t_X4_choose_39 hD (fun _ _ e => S_X1_make hρ (by decide) (by decide) e) (fun x12 w11 hD => ?_)
      refine g_join (P := fun k15 => ∀ (x13 : Int32) (w14 : Wd), k15 x13 w14 = some rr → gG ρ cs G X 80 [(0, .ref (ρ 85)), (1, .ref (ρ q2)), (2, .ref (ρ q3)), (3, .int x4), (4, .int x13), (5, .int x8)] [] w14) hD ?_ (fun k15 hk15 hD => ?_)
      · intro x13 w14 hD
        unfold J_X4_choose_j80_2 at hD
        obtain ⟨x16, ex16, hD⟩ := bd_ex hD
        refine g_iinc (v := x16) (L' := [(5, .int x16), (0, .ref (ρ 85)), (1, .ref (ρ q2)), (2, .ref (ρ q3)), (3, .int x4), (4, .int x13)]) h hn t_X4_choose_80 (k := 5) rfl (by rw [ex16]; rfl) (by decide) rfl ?_
        refine g_goto (tgt := 11) h t_X4_choose_83 (by decide) ?_
        refine g_loc (L' := [(0, .ref (ρ 85)), (1, .ref (ρ q2)), (2, .ref (ρ q3)), (3, .int x4), (4, .int x13), (5, .int x16)]) h [1, 2, 3, 4, 5, 0] rfl ?_
        exact ih x13 x16 _ hD
      · refine g_if_eq (tgt := 80) h t_X4_choose_42 (by decide) hD (fun hD => ?_) (fun hD => ?_)
        · refine g_loc (L' := [(0, .ref (ρ 85)), (1, .ref (ρ q2)), (2, .ref (ρ q3)), (3, .int x4), (4, .int x7), (5, .int x8)]) h [0, 1, 2, 3, 4, 5] rfl ?_
          exact hk15 x7 _ hD
        · refine g_aload_n h 2 t_X4_choose_45 rfl ?_
          refine g_aload_n h 0 t_X4_choose_46 rfl ?_
          refine g_getR h 85 1 86 fl_4_21 rfl (by decide) rfl t_X4_choose_47 ?_
          refine g_callVI h q3 (As := [.ref (ρ 86)]) (st := []) my_X6_judge mi_X6_judge ml_4_40 (isRule_sh hq3) (isRule_lt hq3) rfl rfl rfl (Nat.le_of_ble_eq_true rfl) (by decide) t_X4_choose_50 hD (fun _ _ e => S_X6_judge hρ hq3 (by decide) e) (fun x18 w17 hD => ?_)
          refine g_istore (L' := [(6, .int x18), (0, .ref (ρ 85)), (1, .ref (ρ q2)), (2, .ref (ρ q3)), (3, .int x4), (4, .int x7), (5, .int x8)]) h hn t_X4_choose_53 (by decide) rfl ?_
          refine g_iload h 5 t_X4_choose_55 rfl ?_
          refine g_iconst (v := (-1)) h t_X4_choose_57 (by decide) ?_
          refine g_join (P := fun k20 => ∀ (w19 : Wd), k20 w19 = some rr → gG ρ cs G X 70 [(0, .ref (ρ 85)), (1, .ref (ρ q2)), (2, .ref (ρ q3)), (3, .int x4), (5, .int x8), (6, .int x18)] [] w19) hD ?_ (fun k20 hk20 hD => ?_)
          · intro w19 hD
            unfold J_X4_choose_j70_1 at hD
            refine g_iload h 4 t_X4_choose_70 rfl ?_
            refine g_istore (L' := [(4, .int x8), (0, .ref (ρ 85)), (1, .ref (ρ q2)), (2, .ref (ρ q3)), (3, .int x4), (5, .int x8), (6, .int x18)]) h hn t_X4_choose_72 (by decide) rfl ?_
            refine g_aload_n h 1 t_X4_choose_74 rfl ?_
            refine g_iload h 6 t_X4_choose_75 rfl ?_
            refine g_putI h 85 2 fl_4_25 fp_4_2 rfl (by decide) rfl t_X4_choose_77 hD (fun w21 hD => ?_)
            refine g_loc (L' := [(0, .ref (ρ 85)), (1, .ref (ρ q2)), (2, .ref (ρ q3)), (3, .int x4), (4, .int x8), (5, .int x8)]) h [1, 2, 3, 4, 0, 5] rfl ?_
            exact hk15 x8 _ hD
          · refine g_icmp_eq (tgt := 70) h t_X4_choose_58 (by decide) hD (fun hD => ?_) (fun hD => ?_)
            · refine g_loc (L' := [(0, .ref (ρ 85)), (1, .ref (ρ q2)), (2, .ref (ρ q3)), (3, .int x4), (5, .int x8), (6, .int x18)]) h [1, 2, 3, 4, 6, 0] rfl ?_
              exact hk20 _ hD
            · refine g_iload h 0 t_X4_choose_61 rfl ?_
              refine g_aload_n h 1 t_X4_choose_63 rfl ?_
              refine g_getI h 85 2 fl_4_25 rfl (by decide) rfl t_X4_choose_64 ?_
              refine g_icmp_le (tgt := 80) h t_X4_choose_67 (by decide) hD (fun hD => ?_) (fun hD => ?_)
              · refine g_loc (L' := [(0, .ref (ρ 85)), (1, .ref (ρ q2)), (2, .ref (ρ q3)), (3, .int x4), (4, .int x7), (5, .int x8)]) h [1, 2, 3, 4, 5, 6] rfl ?_
                exact hk15 x7 _ hD
              · refine g_loc (L' := [(0, .ref (ρ 85)), (1, .ref (ρ q2)), (2, .ref (ρ q3)), (3, .int x4), (5, .int x8), (6, .int x18)]) h [1, 2, 3, 4, 6, 0] rfl ?_
                exact hk20 _ hD
set_option maxRecDepth 20000 in
theorem S_X4_choose {l0 : Launch} {ρ : Nat → Nat} {cs : Nat → ClassId} {G : va_G} (hρ : injN ρ) {o1 : Nat} (ho1 : isPos o1) {o2 : Nat} (ho2 : isRule o2) {p3 : Int32} {w : Wd} {rr : (Int32 × Wd)} (hD : D_X4_choose o1 o2 p3 w = some rr) : CtI l0 ρ cs G y_X4_choose prog_6_method_2_code 7 .int 11 [.ref (ρ 85), .ref (ρ o1), .ref (ρ o2), .int p3] w rr.1 rr.2 := by
  refine ctI_of hρ (by decide) (Nat.le_of_ble_eq_true rfl) (fun X hn h hR => ?_)
  unfold D_X4_choose at hD
  show gG ρ cs G X 0 [(0, .ref (ρ 85)), (1, .ref (ρ o1)), (2, .ref (ρ o2)), (3, .int p3)] [] w
  refine g_iconst (v := (-1)) h t_X4_choose_0 (by decide) ?_
  refine g_istore (L' := [(4, .int (-1)), (0, .ref (ρ 85)), (1, .ref (ρ o1)), (2, .ref (ρ o2)), (3, .int p3)]) h hn t_X4_choose_1 (by decide) rfl ?_
  refine g_aload_n h 1 t_X4_choose_3 rfl ?_
  refine g_iconst (v := 0) h t_X4_choose_4 (by decide) ?_
  refine g_putI h 85 2 fl_4_25 fp_4_2 rfl (by decide) rfl t_X4_choose_5 hD (fun w1 hD => ?_)
  refine g_iconst (v := 0) h t_X4_choose_8 (by decide) ?_
  refine g_istore (L' := [(5, .int 0), (4, .int (-1)), (0, .ref (ρ 85)), (1, .ref (ρ o1)), (2, .ref (ρ o2)), (3, .int p3)]) h hn t_X4_choose_9 (by decide) rfl ?_
  refine g_loc (L' := [(0, .ref (ρ 85)), (1, .ref (ρ o1)), (2, .ref (ρ o2)), (3, .int p3), (4, .int (-1)), (5, .int 0)]) h [2, 3, 4, 5, 1, 0] rfl ?_
  refine Q_X4_choose_11 hρ hn h hR ho1 ho2 ?_ _ _ _ _ hD
  · intro x22 w23 hD
    unfold J_X4_choose_x86_3 at hD
    refine g_iload h 0 t_X4_choose_86 rfl ?_
    obtain rfl := Option.some.inj hD
    exact hR _ _ t_X4_choose_88 rfl
def D_X4_play (o1 : Nat) (o2 : Nat) (p3 : Int32) : Wd → Option (Int32 × Wd) := fun w =>
  bc (D_X4_choose o1 o2 p3 w) fun x2 w1 => bc (D_X1_make 86 o1 x2 p3 w1) fun x4 w3 => if b01 x4 then some (x4, w3) else none
set_option maxRecDepth 20000 in
theorem S_X4_play {l0 : Launch} {ρ : Nat → Nat} {cs : Nat → ClassId} {G : va_G} (hρ : injN ρ) {o1 : Nat} (ho1 : isPos o1) {o2 : Nat} (ho2 : isRule o2) {p3 : Int32} {w : Wd} {rr : (Int32 × Wd)} (hD : D_X4_play o1 o2 p3 w = some rr) : CtI l0 ρ cs G y_X4_play prog_6_method_3_code 4 .boolean 12 [.ref (ρ 85), .ref (ρ o1), .ref (ρ o2), .int p3] w rr.1 rr.2 := by
  refine ctI_of hρ (by decide) (Nat.le_of_ble_eq_true rfl) (fun X hn h hR => ?_)
  unfold D_X4_play at hD
  show gG ρ cs G X 0 [(0, .ref (ρ 85)), (1, .ref (ρ o1)), (2, .ref (ρ o2)), (3, .int p3)] [] w
  refine g_aload_n h 0 t_X4_play_0 rfl ?_
  refine g_getR h 85 1 86 fl_4_21 rfl (by decide) rfl t_X4_play_1 ?_
  refine g_aload_n h 1 t_X4_play_4 rfl ?_
  refine g_aload_n h 0 t_X4_play_5 rfl ?_
  refine g_aload_n h 1 t_X4_play_6 rfl ?_
  refine g_aload_n h 2 t_X4_play_7 rfl ?_
  refine g_iload_n h 3 t_X4_play_8 rfl ?_
  refine g_callVI h 85 (As := [.ref (ρ o1), .ref (ρ o2), .int p3]) (st := [.ref (ρ o1), .ref (ρ 86)]) my_X4_choose mi_X4_choose ml_4_46 rfl (by decide) rfl rfl rfl (Nat.le_of_ble_eq_true rfl) (by decide) t_X4_play_9 hD (fun _ _ e => S_X4_choose hρ ho1 ho2 e) (fun x2 w1 hD => ?_)
  refine g_iload_n h 3 t_X4_play_12 rfl ?_
  refine g_callVI h 86 (As := [.ref (ρ o1), .int x2, .int p3]) (st := []) my_X1_make mi_X1_make ml_4_36 rfl (by decide) rfl rfl rfl (Nat.le_of_ble_eq_true rfl) (by decide) t_X4_play_13 hD (fun _ _ e => S_X1_make hρ (by decide) ho1 e) (fun x4 w3 hD => ?_)
  obtain ⟨hb, hD⟩ := of_ite hD
  obtain rfl := Option.some.inj hD
  exact hR _ _ t_X4_play_16 (b01_n hb)
def D_X10_start (o1 : Nat) (p2 : Int32) (p3 : Int32) (p4 : Int32) : Wd → Option Wd := fun w =>
  if ib 0 7 then bd (54 + 3 * (0 : Int32).toNatClampNeg) (fun q1 => bv (D_X5_take q1 o1 w) fun w2 => bd (wI w2 87 5 0) fun w3 => bd (wI w3 87 6 (imin p2 6)) fun w4 => if b01 p3 then (bd (wI w4 87 8 p3) fun w5 => bd (wI w5 87 7 p4) fun w6 => some w6) else none) else none
set_option maxRecDepth 20000 in
theorem S_X10_start {l0 : Launch} {ρ : Nat → Nat} {cs : Nat → ClassId} {G : va_G} (hρ : injN ρ) {o1 : Nat} (ho1 : isPos o1) {p2 : Int32} {p3 : Int32} {p4 : Int32} {w : Wd} {rr : Wd} (hD : D_X10_start o1 p2 p3 p4 w = some rr) : CtV l0 ρ cs G y_X10_start prog_12_method_2_code 5 1 [.ref (ρ 87), .ref (ρ o1), .int p2, .int p3, .int p4] w rr := by
  refine ctV_of hρ (by decide) (Nat.le_of_ble_eq_true rfl) (fun X hn h hR => ?_)
  unfold D_X10_start at hD
  show gG ρ cs G X 0 [(0, .ref (ρ 87)), (1, .ref (ρ o1)), (2, .int p2), (3, .int p3), (4, .int p4)] [] w
  refine g_aload_n h 0 t_X10_start_0 rfl ?_
  refine g_getR h 87 0 88 fl_10_11 rfl (by decide) rfl t_X10_start_1 ?_
  refine g_iconst (v := 0) h t_X10_start_4 (by decide) ?_
  refine g_pald h 88 rfl (by decide) t_X10_start_5 hD (fun q1 eq1 lq1 hD => ?_)
  have hq1 : isPos q1 := posA (by decide) (by decide) eq1 lq1
  refine g_aload_n h 1 t_X10_start_6 rfl ?_
  refine g_callVV h q1 (As := [.ref (ρ o1)]) (st := []) my_X5_take mi_X5_take ml_10_37 (isPos_sh hq1) (isPos_lt hq1) rfl rfl rfl (Nat.le_of_ble_eq_true rfl) (by decide) t_X10_start_7 hD (fun _ e => S_X5_take hρ hq1 ho1 e) (fun w2 hD => ?_)
  refine g_aload_n h 0 t_X10_start_10 rfl ?_
  refine g_iconst (v := 0) h t_X10_start_11 (by decide) ?_
  refine g_putI h 87 5 fl_10_41 fp_10_5 rfl (by decide) rfl t_X10_start_12 hD (fun w3 hD => ?_)
  refine g_aload_n h 0 t_X10_start_15 rfl ?_
  refine g_iload_n h 2 t_X10_start_16 rfl ?_
  refine g_bipush (v := 6) h t_X10_start_17 (by decide) ?_
  refine g_mmin h (st := [.ref (ρ 87)]) (vtb_at 951 (by decide +kernel) rfl) (Nat.le_of_ble_eq_true rfl) t_X10_start_19 ?_
  refine g_putI h 87 6 fl_10_51 fp_10_6 rfl (by decide) rfl t_X10_start_22 hD (fun w4 hD => ?_)
  refine g_aload_n h 0 t_X10_start_25 rfl ?_
  refine g_iload_n h 3 t_X10_start_26 rfl ?_
  refine g_putZ h 87 8 fl_10_54 fp_10_8 rfl (by decide) rfl t_X10_start_27 hD (fun w5 hD => ?_)
  refine g_aload_n h 0 t_X10_start_30 rfl ?_
  refine g_iload h 4 t_X10_start_31 rfl ?_
  refine g_putI h 87 7 fl_10_58 fp_10_7 rfl (by decide) rfl t_X10_start_33 hD (fun w6 hD => ?_)
  obtain rfl := Option.some.inj hD
  exact hR _ _ t_X10_start_36
def D_X10_here  : Wd → Option (Nat × Wd) := fun w =>
  if ib (w.1 87 5) 7 then bd (54 + 3 * (w.1 87 5).toNatClampNeg) (fun q1 => some (q1, w)) else none
set_option maxRecDepth 20000 in
theorem S_X10_here {l0 : Launch} {ρ : Nat → Nat} {cs : Nat → ClassId} {G : va_G} (hρ : injN ρ)  {w : Wd} {rr : (Nat × Wd)} (hD : D_X10_here w = some rr) : CtR l0 ρ cs G y_X10_here prog_12_method_3_code 1 (.object "SowingBoards$Position") 0 [.ref (ρ 87)] w rr.1 rr.2 := by
  refine ctR_of hρ (by decide) (Nat.le_of_ble_eq_true rfl) (Or.inl ⟨_, rfl⟩) (fun X hn h hR => ?_)
  unfold D_X10_here at hD
  show gG ρ cs G X 0 [(0, .ref (ρ 87))] [] w
  refine g_aload_n h 0 t_X10_here_0 rfl ?_
  refine g_getR h 87 0 88 fl_10_11 rfl (by decide) rfl t_X10_here_1 ?_
  refine g_aload_n h 0 t_X10_here_4 rfl ?_
  refine g_getI h 87 5 fl_10_41 rfl (by decide) rfl t_X10_here_5 ?_
  refine g_pald h 88 rfl (by decide) t_X10_here_8 hD (fun q1 eq1 lq1 hD => ?_)
  have hq1 : isPos q1 := posA (by decide) (by decide) eq1 lq1
  obtain rfl := Option.some.inj hD
  exact hR _ _ t_X10_here_9
set_option maxRecDepth 20000 in
theorem pos_X10_here {w : Wd} {r : Nat} {w1 : Wd} (hD : D_X10_here w = some (r, w1)) : isPos r := by
  unfold D_X10_here at hD
  obtain ⟨h1, hD⟩ := of_ite hD
  obtain ⟨y, hy, hD⟩ := bd_ex hD
  cases hD
  simp only [ib, Bool.and_eq_true, decide_eq_true_eq] at h1
  exact posA (f := 54) (n := 7) (by decide) (by decide) hy h1.2
def L_X10_enter_12 (q2 : Nat) (k3 : Int32 → Wd → Option (Int32 × Wd)) (k4 : Wd → Option (Int32 × Wd)) : Nat → Int32 → Wd → Option (Int32 × Wd)
  | 0, _, _ => none
  | n5 + 1, x6, w7 =>
    if (w7.1 q2 2) ≤ x6 then (k4 w7) else (bc (D_X5_canMove q2 x6 w7) fun x9 w8 => if x9 = 0 then (bd (x6 + 1) fun x10 => L_X10_enter_12 q2 k3 k4 n5 x10 w8) else (k3 x6 w8))
def J_X10_enter_x28_1 (q1 : Nat) : Int32 → Wd → Option (Int32 × Wd) := fun x11 w12 =>
  if ib ((w12.1 87 5) + 1) 7 then bd (54 + 3 * ((w12.1 87 5) + 1).toNatClampNeg) (fun q13 => bv (D_X5_take q13 q1 w12) fun w14 => if ib ((w14.1 87 5) + 1) 7 then bd (54 + 3 * ((w14.1 87 5) + 1).toNatClampNeg) (fun q15 => bc (D_X1_make 97 q15 x11 (w14.1 87 7) w14) fun x17 w16 => if ib (w16.1 87 5) 6 then bd (wI w16 89 (w16.1 87 5).toNatClampNeg x11) (fun w18 => bd (wI w18 87 5 ((w18.1 87 5) + 1)) fun w19 => some (1, w19)) else none) else none) else none
def J_X10_enter_x95_2  : Wd → Option (Int32 × Wd) := fun w20 =>
  some (0, w20)
def D_X10_enter (p1 : Int32) : Wd → Option (Int32 × Wd) := fun w =>
  if ib (w.1 87 5) 7 then bd (54 + 3 * (w.1 87 5).toNatClampNeg) (fun q1 => L_X10_enter_12 q1 (J_X10_enter_x28_1 q1) J_X10_enter_x95_2 FU p1 w) else none
set_option maxRecDepth 20000 in
theorem Q_X10_enter_12 {l0 : Launch} {ρ : Nat → Nat} {cs : Nat → ClassId} {G : va_G} {X : Cx} (hρ : injN ρ) (hn : X.2.2.2.2.2.2.2.2.2.2.1 = 4) (h : Okx l0 ρ cs G X prog_12_method_5_code "SowingBoards$Tree" 3) {rr : (Int32 × Wd)} (hR : ∀ pc L, decode prog_12_method_5_code pc = .ok (.ireturn, 1) → narrow .boolean (.int rr.1) = .int rr.1 → gG ρ cs G X pc L [.int rr.1] rr.2) {q2 : Nat} (hq2 : isPos q2) {k3 : Int32 → Wd → Option (Int32 × Wd)} (hk3 : ∀ (z3 : Int32) (w1 : Wd), k3 z3 w1 = some rr → gG ρ cs G X 28 [(0, .ref (ρ 87)), (2, .ref (ρ q2)), (3, .int z3)] [] w1) {k4 : Wd → Option (Int32 × Wd)} (hk4 : ∀ (w1 : Wd), k4 w1 = some rr → gG ρ cs G X 95 [] [] w1) : ∀ (n : Nat) (x6 : Int32) (w : Wd), L_X10_enter_12 q2 k3 k4 n x6 w = some rr → gG ρ cs G X 12 [(0, .ref (ρ 87)), (2, .ref (ρ q2)), (3, .int x6)] [] w := by
  intro n
  induction n with
  | zero =>
    intro x6 w hD
    cases hD
  | succ n5 ih =>
    intro x6 w7 hD
    unfold L_X10_enter_12 at hD
    refine g_iload_n h 2 t_X10_enter_12 rfl ?_
    refine g_aload_n h 1 t_X10_enter_13 rfl ?_
    refine g_getI h q2 2 fl_10_72 (isPos_sh hq2) (isPos_lt hq2) rfl t_X10_enter_14 ?_
    refine g_icmp_ge (tgt := 95) h t_X10_enter_17 (by decide) hD (fun hD => ?_) (fun hD => ?_)
    · refine g_loc (L' := []) h [] rfl ?_
      exact hk4 _ hD
    · refine g_aload_n h 1 t_X10_enter_20 rfl ?_
      refine g_iload_n h 2 t_X10_enter_21 rfl ?_
      refine g_callVI h q2 (As := [.int x6]) (st := []) my_X5_canMove mi_X5_canMove ml_10_75 (isPos_sh hq2) (isPos_lt hq2) rfl rfl rfl (Nat.le_of_ble_eq_true rfl) (by decide) t_X10_enter_22 hD (fun _ _ e => S_X5_canMove hρ hq2 e) (fun x9 w8 hD => ?_)
      refine g_if_eq (tgt := 89) h t_X10_enter_25 (by decide) hD (fun hD => ?_) (fun hD => ?_)
      · obtain ⟨x10, ex10, hD⟩ := bd_ex hD
        refine g_iinc (v := x10) (L' := [(3, .int x10), (0, .ref (ρ 87)), (2, .ref (ρ q2))]) h hn t_X10_enter_89 (k := 2) rfl (by rw [ex10]; rfl) (by decide) rfl ?_
        refine g_goto (tgt := 12) h t_X10_enter_92 (by decide) ?_
        refine g_loc (L' := [(0, .ref (ρ 87)), (2, .ref (ρ q2)), (3, .int x10)]) h [1, 2, 0] rfl ?_
        exact ih x10 _ hD
      · refine g_loc (L' := [(0, .ref (ρ 87)), (2, .ref (ρ q2)), (3, .int x6)]) h [0, 1, 2] rfl ?_
        exact hk3 x6 _ hD
set_option maxRecDepth 20000 in
theorem S_X10_enter {l0 : Launch} {ρ : Nat → Nat} {cs : Nat → ClassId} {G : va_G} (hρ : injN ρ) {p1 : Int32} {w : Wd} {rr : (Int32 × Wd)} (hD : D_X10_enter p1 w = some rr) : CtI l0 ρ cs G y_X10_enter prog_12_method_5_code 4 .boolean 3 [.ref (ρ 87), .int p1] w rr.1 rr.2 := by
  refine ctI_of hρ (by decide) (Nat.le_of_ble_eq_true rfl) (fun X hn h hR => ?_)
  unfold D_X10_enter at hD
  show gG ρ cs G X 0 [(0, .ref (ρ 87)), (1, .int p1)] [] w
  refine g_aload_n h 0 t_X10_enter_0 rfl ?_
  refine g_getR h 87 0 88 fl_10_11 rfl (by decide) rfl t_X10_enter_1 ?_
  refine g_aload_n h 0 t_X10_enter_4 rfl ?_
  refine g_getI h 87 5 fl_10_41 rfl (by decide) rfl t_X10_enter_5 ?_
  refine g_pald h 88 rfl (by decide) t_X10_enter_8 hD (fun q1 eq1 lq1 hD => ?_)
  have hq1 : isPos q1 := posA (by decide) (by decide) eq1 lq1
  refine g_astore_n (L' := [(2, .ref (ρ q1)), (0, .ref (ρ 87)), (1, .int p1)]) h hn t_X10_enter_9 rfl (by decide) rfl ?_
  refine g_iload_n h 2 t_X10_enter_10 rfl ?_
  refine g_istore_n (L' := [(3, .int p1), (2, .ref (ρ q1)), (0, .ref (ρ 87)), (1, .int p1)]) h hn t_X10_enter_11 rfl (by decide) rfl ?_
  refine g_loc (L' := [(0, .ref (ρ 87)), (2, .ref (ρ q1)), (3, .int p1)]) h [2, 1, 0] rfl ?_
  refine Q_X10_enter_12 hρ hn h hR hq1 ?_ ?_ _ _ _ hD
  · intro x11 w12 hD
    unfold J_X10_enter_x28_1 at hD
    refine g_aload_n h 0 t_X10_enter_28 rfl ?_
    refine g_getR h 87 0 88 fl_10_11 rfl (by decide) rfl t_X10_enter_29 ?_
    refine g_aload_n h 0 t_X10_enter_32 rfl ?_
    refine g_getI h 87 5 fl_10_41 rfl (by decide) rfl t_X10_enter_33 ?_
    refine g_iconst (v := 1) h t_X10_enter_36 (by decide) ?_
    refine g_iadd h t_X10_enter_37 ?_
    refine g_pald h 88 rfl (by decide) t_X10_enter_38 hD (fun q13 eq13 lq13 hD => ?_)
    have hq13 : isPos q13 := posA (by decide) (by decide) eq13 lq13
    refine g_aload_n h 1 t_X10_enter_39 rfl ?_
    refine g_callVV h q13 (As := [.ref (ρ q1)]) (st := []) my_X5_take mi_X5_take ml_10_37 (isPos_sh hq13) (isPos_lt hq13) rfl rfl rfl (Nat.le_of_ble_eq_true rfl) (by decide) t_X10_enter_40 hD (fun _ e => S_X5_take hρ hq13 hq1 e) (fun w14 hD => ?_)
    refine g_aload_n h 0 t_X10_enter_43 rfl ?_
    refine g_getR h 87 4 97 fl_10_32 rfl (by decide) rfl t_X10_enter_44 ?_
    refine g_aload_n h 0 t_X10_enter_47 rfl ?_
    refine g_getR h 87 0 88 fl_10_11 rfl (by decide) rfl t_X10_enter_48 ?_
    refine g_aload_n h 0 t_X10_enter_51 rfl ?_
    refine g_getI h 87 5 fl_10_41 rfl (by decide) rfl t_X10_enter_52 ?_
    refine g_iconst (v := 1) h t_X10_enter_55 (by decide) ?_
    refine g_iadd h t_X10_enter_56 ?_
    refine g_pald h 88 rfl (by decide) t_X10_enter_57 hD (fun q15 eq15 lq15 hD => ?_)
    have hq15 : isPos q15 := posA (by decide) (by decide) eq15 lq15
    refine g_iload_n h 2 t_X10_enter_58 rfl ?_
    refine g_aload_n h 0 t_X10_enter_59 rfl ?_
    refine g_getI h 87 7 fl_10_58 rfl (by decide) rfl t_X10_enter_60 ?_
    refine g_callVI h 97 (As := [.ref (ρ q15), .int x11, .int (w14.1 87 7)]) (st := []) my_X1_make mi_X1_make ml_10_78 rfl (by decide) rfl rfl rfl (Nat.le_of_ble_eq_true rfl) (by decide) t_X10_enter_63 hD (fun _ _ e => S_X1_make hρ (by decide) hq15 e) (fun x17 w16 hD => ?_)
    refine g_pop h t_X10_enter_66 rfl ?_
    refine g_aload_n h 0 t_X10_enter_67 rfl ?_
    refine g_getR h 87 1 89 fl_10_17 rfl (by decide) rfl t_X10_enter_68 ?_
    refine g_aload_n h 0 t_X10_enter_71 rfl ?_
    refine g_getI h 87 5 fl_10_41 rfl (by decide) rfl t_X10_enter_72 ?_
    refine g_iload_n h 2 t_X10_enter_75 rfl ?_
    refine g_iast h 89 rfl (by decide) t_X10_enter_76 hD (fun w18 hD => ?_)
    refine g_aload_n h 0 t_X10_enter_77 rfl ?_
    refine g_dup h t_X10_enter_78 rfl ?_
    refine g_getI h 87 5 fl_10_41 rfl (by decide) rfl t_X10_enter_79 ?_
    refine g_iconst (v := 1) h t_X10_enter_82 (by decide) ?_
    refine g_iadd h t_X10_enter_83 ?_
    refine g_putI h 87 5 fl_10_41 fp_10_5 rfl (by decide) rfl t_X10_enter_84 hD (fun w19 hD => ?_)
    refine g_iconst (v := 1) h t_X10_enter_87 (by decide) ?_
    obtain rfl := Option.some.inj hD
    exact hR _ _ t_X10_enter_88 (b01_n rfl)
  · intro w20 hD
    unfold J_X10_enter_x95_2 at hD
    refine g_iconst (v := 0) h t_X10_enter_95 (by decide) ?_
    obtain rfl := Option.some.inj hD
    exact hR _ _ t_X10_enter_96 (b01_n rfl)
def L_X10_step_57 (k6 : Wd → Option (Int32 × Wd)) (k7 : Wd → Option (Int32 × Wd)) : Nat → Wd → Option (Int32 × Wd)
  | 0, _ => none
  | n8 + 1, w9 =>
    if (w9.1 87 5) ≤ 0 then (k7 w9) else (bd (wI w9 87 5 ((w9.1 87 5) - 1)) fun w10 => if ib (w10.1 87 5) 6 then (bc (D_X10_enter ((w10.1 89 (w10.1 87 5).toNatClampNeg) + 1) w10) fun x12 w11 => if x12 = 0 then (L_X10_step_57 k6 k7 n8 w11) else (k6 w11)) else none)
def J_X10_step_x92_1  : Wd → Option (Int32 × Wd) := fun w13 =>
  some (1, w13)
def J_X10_step_x94_2  : Wd → Option (Int32 × Wd) := fun w14 =>
  some (0, w14)
def J_X10_step_j57_3  : Wd → Option (Int32 × Wd) := fun w4 =>
  L_X10_step_57 J_X10_step_x92_1 J_X10_step_x94_2 FU w4
def J_X10_step_j30_4 (k3 : Int32 → Wd → Option (Int32 × Wd)) : Wd → Option (Int32 × Wd) := fun w17 =>
  k3 0 w17
def J_X10_step_j31_5  : Int32 → Wd → Option (Int32 × Wd) := fun x1 w2 =>
  bd J_X10_step_j57_3 fun k5 => if (w2.1 87 6) ≤ (w2.1 87 5) then (k5 w2) else (if x1 = 0 then (bc (D_X10_enter 0 w2) fun x16 w15 => if x16 = 0 then (k5 w15) else (some (1, w15))) else (k5 w2))
def D_X10_step  : Wd → Option (Int32 × Wd) := fun w =>
  bd J_X10_step_j31_5 fun k3 => bd (J_X10_step_j30_4 k3) fun k18 => if (w.1 87 8) = 0 then (k18 w) else (bc (D_X10_here w) fun q20 w19 => if ib 0 7 then bd (54 + 3 * (0 : Int32).toNatClampNeg) (fun q21 => if (w19.1 q20 3) = (w19.1 q21 3) then (k18 w19) else (k3 1 w19)) else none)
set_option maxRecDepth 20000 in
theorem Q_X10_step_57 {l0 : Launch} {ρ : Nat → Nat} {cs : Nat → ClassId} {G : va_G} {X : Cx} (hρ : injN ρ) (hn : X.2.2.2.2.2.2.2.2.2.2.1 = 2) (h : Okx l0 ρ cs G X prog_12_method_4_code "SowingBoards$Tree" 4) {rr : (Int32 × Wd)} (hR : ∀ pc L, decode prog_12_method_4_code pc = .ok (.ireturn, 1) → narrow .boolean (.int rr.1) = .int rr.1 → gG ρ cs G X pc L [.int rr.1] rr.2)  {k6 : Wd → Option (Int32 × Wd)} (hk6 : ∀ (w1 : Wd), k6 w1 = some rr → gG ρ cs G X 92 [] [] w1) {k7 : Wd → Option (Int32 × Wd)} (hk7 : ∀ (w1 : Wd), k7 w1 = some rr → gG ρ cs G X 94 [] [] w1) : ∀ (n : Nat) (w : Wd), L_X10_step_57 k6 k7 n w = some rr → gG ρ cs G X 57 [(0, .ref (ρ 87))] [] w := by
  intro n
  induction n with
  | zero =>
    intro w hD
    cases hD
  | succ n8 ih =>
    intro w9 hD
    unfold L_X10_step_57 at hD
    refine g_aload_n h 0 t_X10_step_57 rfl ?_
    refine g_getI h 87 5 fl_10_41 rfl (by decide) rfl t_X10_step_58 ?_
    refine g_if_le (tgt := 94) h t_X10_step_61 (by decide) hD (fun hD => ?_) (fun hD => ?_)
    · refine g_loc (L' := []) h [] rfl ?_
      exact hk7 _ hD
    · refine g_aload_n h 0 t_X10_step_64 rfl ?_
      refine g_dup h t_X10_step_65 rfl ?_
      refine g_getI h 87 5 fl_10_41 rfl (by decide) rfl t_X10_step_66 ?_
      refine g_iconst (v := 1) h t_X10_step_69 (by decide) ?_
      refine g_isub h t_X10_step_70 ?_
      refine g_putI h 87 5 fl_10_41 fp_10_5 rfl (by decide) rfl t_X10_step_71 hD (fun w10 hD => ?_)
      refine g_aload_n h 0 t_X10_step_74 rfl ?_
      refine g_aload_n h 0 t_X10_step_75 rfl ?_
      refine g_getR h 87 1 89 fl_10_17 rfl (by decide) rfl t_X10_step_76 ?_
      refine g_aload_n h 0 t_X10_step_79 rfl ?_
      refine g_getI h 87 5 fl_10_41 rfl (by decide) rfl t_X10_step_80 ?_
      refine g_iald h 89 rfl (by decide) t_X10_step_83 hD (fun hD => ?_)
      refine g_iconst (v := 1) h t_X10_step_84 (by decide) ?_
      refine g_iadd h t_X10_step_85 ?_
      refine g_callVI h 87 (As := [.int ((w10.1 89 (w10.1 87 5).toNatClampNeg) + 1)]) (st := []) my_X10_enter mi_X10_enter ml_10_68 rfl (by decide) rfl rfl rfl (Nat.le_of_ble_eq_true rfl) (by decide) t_X10_step_86 hD (fun _ _ e => S_X10_enter hρ  e) (fun x12 w11 hD => ?_)
      refine g_if_eq (tgt := 57) h t_X10_step_89 (by decide) hD (fun hD => ?_) (fun hD => ?_)
      · refine g_loc (L' := [(0, .ref (ρ 87))]) h [0] rfl ?_
        exact ih _ hD
      · refine g_loc (L' := []) h [] rfl ?_
        exact hk6 _ hD
set_option maxRecDepth 20000 in
theorem S_X10_step {l0 : Launch} {ρ : Nat → Nat} {cs : Nat → ClassId} {G : va_G} (hρ : injN ρ)  {w : Wd} {rr : (Int32 × Wd)} (hD : D_X10_step w = some rr) : CtI l0 ρ cs G y_X10_step prog_12_method_4_code 2 .boolean 4 [.ref (ρ 87)] w rr.1 rr.2 := by
  refine ctI_of hρ (by decide) (Nat.le_of_ble_eq_true rfl) (fun X hn h hR => ?_)
  unfold D_X10_step at hD
  show gG ρ cs G X 0 [(0, .ref (ρ 87))] [] w
  refine g_aload_n h 0 t_X10_step_0 rfl ?_
  refine g_getI h 87 8 fl_10_54 rfl (by decide) rfl t_X10_step_1 ?_
  refine g_join (P := fun k3 => ∀ (x1 : Int32) (w2 : Wd), k3 x1 w2 = some rr → gG ρ cs G X 31 [(0, .ref (ρ 87))] [.int x1] w2) hD ?_ (fun k3 hk3 hD => ?_)
  · intro x1 w2 hD
    unfold J_X10_step_j31_5 at hD
    refine g_istore_n (L' := [(1, .int x1), (0, .ref (ρ 87))]) h hn t_X10_step_31 rfl (by decide) rfl ?_
    refine g_aload_n h 1 t_X10_step_32 rfl ?_
    refine g_getI h 87 5 fl_10_41 rfl (by decide) rfl t_X10_step_33 ?_
    refine g_aload_n h 1 t_X10_step_36 rfl ?_
    refine g_getI h 87 6 fl_10_51 rfl (by decide) rfl t_X10_step_37 ?_
    refine g_join (P := fun k5 => ∀ (w4 : Wd), k5 w4 = some rr → gG ρ cs G X 57 [(0, .ref (ρ 87))] [] w4) hD ?_ (fun k5 hk5 hD => ?_)
    · intro w4 hD
      unfold J_X10_step_j57_3 at hD
      refine g_loc (L' := [(0, .ref (ρ 87))]) h [0] rfl ?_
      refine Q_X10_step_57 hρ hn h hR  ?_ ?_ _  _ hD
      · intro w13 hD
        unfold J_X10_step_x92_1 at hD
        refine g_iconst (v := 1) h t_X10_step_92 (by decide) ?_
        obtain rfl := Option.some.inj hD
        exact hR _ _ t_X10_step_93 (b01_n rfl)
      · intro w14 hD
        unfold J_X10_step_x94_2 at hD
        refine g_iconst (v := 0) h t_X10_step_94 (by decide) ?_
        obtain rfl := Option.some.inj hD
        exact hR _ _ t_X10_step_95 (b01_n rfl)
    · refine g_icmp_ge (tgt := 57) h t_X10_step_40 (by decide) hD (fun hD => ?_) (fun hD => ?_)
      · refine g_loc (L' := [(0, .ref (ρ 87))]) h [1] rfl ?_
        exact hk5 _ hD
      · refine g_iload_n h 0 t_X10_step_43 rfl ?_
        refine g_if_ne (tgt := 57) h t_X10_step_44 (by decide) hD (fun hD => ?_) (fun hD => ?_)
        · refine g_loc (L' := [(0, .ref (ρ 87))]) h [1] rfl ?_
          exact hk5 _ hD
        · refine g_aload_n h 1 t_X10_step_47 rfl ?_
          refine g_iconst (v := 0) h t_X10_step_48 (by decide) ?_
          refine g_callVI h 87 (As := [.int 0]) (st := []) my_X10_enter mi_X10_enter ml_10_68 rfl (by decide) rfl rfl rfl (Nat.le_of_ble_eq_true rfl) (by decide) t_X10_step_49 hD (fun _ _ e => S_X10_enter hρ  e) (fun x16 w15 hD => ?_)
          refine g_if_eq (tgt := 57) h t_X10_step_52 (by decide) hD (fun hD => ?_) (fun hD => ?_)
          · refine g_loc (L' := [(0, .ref (ρ 87))]) h [1] rfl ?_
            exact hk5 _ hD
          · refine g_iconst (v := 1) h t_X10_step_55 (by decide) ?_
            obtain rfl := Option.some.inj hD
            exact hR _ _ t_X10_step_56 (b01_n rfl)
  · refine g_join (P := fun k18 => ∀ (w17 : Wd), k18 w17 = some rr → gG ρ cs G X 30 [(0, .ref (ρ 87))] [] w17) hD ?_ (fun k18 hk18 hD => ?_)
    · intro w17 hD
      unfold J_X10_step_j30_4 at hD
      refine g_iconst (v := 0) h t_X10_step_30 (by decide) ?_
      refine g_loc (L' := [(0, .ref (ρ 87))]) h [0] rfl ?_
      exact hk3 0 _ hD
    · refine g_if_eq (tgt := 30) h t_X10_step_4 (by decide) hD (fun hD => ?_) (fun hD => ?_)
      · refine g_loc (L' := [(0, .ref (ρ 87))]) h [0] rfl ?_
        exact hk18 _ hD
      · refine g_aload_n h 0 t_X10_step_7 rfl ?_
        refine g_callVR h 87 (As := []) (st := []) my_X10_here mi_X10_here ml_10_61 rfl (by decide) rfl rfl rfl (Nat.le_of_ble_eq_true rfl) (by decide) t_X10_step_8 hD (fun _ _ e => S_X10_here hρ  e) (fun q20 w19 eq20 hD => ?_)
        have hq20 : isPos q20 := pos_X10_here eq20
        refine g_getI h q20 3 fl_10_65 (isPos_sh hq20) (isPos_lt hq20) rfl t_X10_step_11 ?_
        refine g_aload_n h 0 t_X10_step_14 rfl ?_
        refine g_getR h 87 0 88 fl_10_11 rfl (by decide) rfl t_X10_step_15 ?_
        refine g_iconst (v := 0) h t_X10_step_18 (by decide) ?_
        refine g_pald h 88 rfl (by decide) t_X10_step_19 hD (fun q21 eq21 lq21 hD => ?_)
        have hq21 : isPos q21 := posA (by decide) (by decide) eq21 lq21
        refine g_getI h q21 3 fl_10_65 (isPos_sh hq21) (isPos_lt hq21) rfl t_X10_step_20 ?_
        refine g_icmp_eq (tgt := 30) h t_X10_step_23 (by decide) hD (fun hD => ?_) (fun hD => ?_)
        · refine g_loc (L' := [(0, .ref (ρ 87))]) h [0] rfl ?_
          exact hk18 _ hD
        · refine g_iconst (v := 1) h t_X10_step_26 (by decide) ?_
          refine g_goto (tgt := 31) h t_X10_step_27 (by decide) ?_
          refine g_loc (L' := [(0, .ref (ρ 87))]) h [0] rfl ?_
          exact hk3 1 _ hD
def D_X10_isAtEnd  : Wd → Option (Int32 × Wd) := fun w =>
  if (w.1 87 5) = (w.1 87 6) then (some (1, w)) else (bc (D_X10_here w) fun q2 w1 => bc (D_X5_isOver q2 w1) fun x4 w3 => if x4 = 0 then (some (0, w3)) else (some (1, w3)))
set_option maxRecDepth 20000 in
theorem S_X10_isAtEnd {l0 : Launch} {ρ : Nat → Nat} {cs : Nat → ClassId} {G : va_G} (hρ : injN ρ)  {w : Wd} {rr : (Int32 × Wd)} (hD : D_X10_isAtEnd w = some rr) : CtI l0 ρ cs G y_X10_isAtEnd prog_12_method_6_code 1 .boolean 2 [.ref (ρ 87)] w rr.1 rr.2 := by
  refine ctI_of hρ (by decide) (Nat.le_of_ble_eq_true rfl) (fun X hn h hR => ?_)
  unfold D_X10_isAtEnd at hD
  show gG ρ cs G X 0 [(0, .ref (ρ 87))] [] w
  refine g_aload_n h 0 t_X10_isAtEnd_0 rfl ?_
  refine g_getI h 87 5 fl_10_41 rfl (by decide) rfl t_X10_isAtEnd_1 ?_
  refine g_aload_n h 0 t_X10_isAtEnd_4 rfl ?_
  refine g_getI h 87 6 fl_10_51 rfl (by decide) rfl t_X10_isAtEnd_5 ?_
  refine g_icmp_eq (tgt := 21) h t_X10_isAtEnd_8 (by decide) hD (fun hD => ?_) (fun hD => ?_)
  · refine g_iconst (v := 1) h t_X10_isAtEnd_21 (by decide) ?_
    refine g_goto (tgt := 26) h t_X10_isAtEnd_22 (by decide) ?_
    obtain rfl := Option.some.inj hD
    exact hR _ _ t_X10_isAtEnd_26 (b01_n rfl)
  · refine g_aload_n h 0 t_X10_isAtEnd_11 rfl ?_
    refine g_callVR h 87 (As := []) (st := []) my_X10_here mi_X10_here ml_10_61 rfl (by decide) rfl rfl rfl (Nat.le_of_ble_eq_true rfl) (by decide) t_X10_isAtEnd_12 hD (fun _ _ e => S_X10_here hρ  e) (fun q2 w1 eq2 hD => ?_)
    have hq2 : isPos q2 := pos_X10_here eq2
    refine g_callVI h q2 (As := []) (st := []) my_X5_isOver mi_X5_isOver ml_10_82 (isPos_sh hq2) (isPos_lt hq2) rfl rfl rfl (Nat.le_of_ble_eq_true rfl) (by decide) t_X10_isAtEnd_15 hD (fun _ _ e => S_X5_isOver hρ hq2 e) (fun x4 w3 hD => ?_)
    refine g_if_eq (tgt := 25) h t_X10_isAtEnd_18 (by decide) hD (fun hD => ?_) (fun hD => ?_)
    · refine g_iconst (v := 0) h t_X10_isAtEnd_25 (by decide) ?_
      obtain rfl := Option.some.inj hD
      exact hR _ _ t_X10_isAtEnd_26 (b01_n rfl)
    · refine g_iconst (v := 1) h t_X10_isAtEnd_21 (by decide) ?_
      refine g_goto (tgt := 26) h t_X10_isAtEnd_22 (by decide) ?_
      obtain rfl := Option.some.inj hD
      exact hR _ _ t_X10_isAtEnd_26 (b01_n rfl)
def L_X10_share_6 (k1 : Int64 → Wd → Option (Int64 × Wd)) : Nat → Int64 → Int32 → Wd → Option (Int64 × Wd)
  | 0, _, _, _ => none
  | n2 + 1, x3, x4, w5 =>
    if (w5.1 87 5) ≤ x4 then (k1 x3 w5) else (if ib x4 7 then bd (54 + 3 * x4.toNatClampNeg) (fun q6 => bc (D_X5_fullPits q6 w5) fun x8 w7 => if ¬ ((imax 1 x8).toInt64) = 0 then (bd (x3 / ((imax 1 x8).toInt64)) fun x9 => bd (x4 + 1) fun x10 => L_X10_share_6 k1 n2 x9 x10 w7) else none) else none)
def J_X10_share_x37_1  : Int64 → Wd → Option (Int64 × Wd) := fun x11 w12 =>
  some (x11, w12)
def D_X10_share  : Wd → Option (Int64 × Wd) := fun w =>
  L_X10_share_6 J_X10_share_x37_1 FU (12960000 : Int64) 0 w
set_option maxRecDepth 20000 in
theorem Q_X10_share_6 {l0 : Launch} {ρ : Nat → Nat} {cs : Nat → ClassId} {G : va_G} {X : Cx} (hρ : injN ρ) (hn : X.2.2.2.2.2.2.2.2.2.2.1 = 4) (h : Okx l0 ρ cs G X prog_12_method_7_code "SowingBoards$Tree" 2) {rr : (Int64 × Wd)} (hR : ∀ pc L, decode prog_12_method_7_code pc = .ok (.lreturn, 1) → gG ρ cs G X pc L [.long rr.1] rr.2)  {k1 : Int64 → Wd → Option (Int64 × Wd)} (hk1 : ∀ (z1 : Int64) (w1 : Wd), k1 z1 w1 = some rr → gG ρ cs G X 37 [(1, .long z1)] [] w1) : ∀ (n : Nat) (x3 : Int64) (x4 : Int32) (w : Wd), L_X10_share_6 k1 n x3 x4 w = some rr → gG ρ cs G X 6 [(0, .ref (ρ 87)), (1, .long x3), (3, .int x4)] [] w := by
  intro n
  induction n with
  | zero =>
    intro x3 x4 w hD
    cases hD
  | succ n2 ih =>
    intro x3 x4 w5 hD
    unfold L_X10_share_6 at hD
    refine g_iload_n h 2 t_X10_share_6 rfl ?_
    refine g_aload_n h 0 t_X10_share_7 rfl ?_
    refine g_getI h 87 5 fl_10_41 rfl (by decide) rfl t_X10_share_8 ?_
    refine g_icmp_ge (tgt := 37) h t_X10_share_11 (by decide) hD (fun hD => ?_) (fun hD => ?_)
    · refine g_loc (L' := [(1, .long x3)]) h [1] rfl ?_
      exact hk1 x3 _ hD
    · refine g_lload_n h 1 t_X10_share_14 rfl ?_
      refine g_iconst (v := 1) h t_X10_share_15 (by decide) ?_
      refine g_aload_n h 0 t_X10_share_16 rfl ?_
      refine g_getR h 87 0 88 fl_10_11 rfl (by decide) rfl t_X10_share_17 ?_
      refine g_iload_n h 2 t_X10_share_20 rfl ?_
      refine g_pald h 88 rfl (by decide) t_X10_share_21 hD (fun q6 eq6 lq6 hD => ?_)
      have hq6 : isPos q6 := posA (by decide) (by decide) eq6 lq6
      refine g_callVI h q6 (As := []) (st := [.int 1, .long x3]) my_X5_fullPits mi_X5_fullPits ml_10_88 (isPos_sh hq6) (isPos_lt hq6) rfl rfl rfl (Nat.le_of_ble_eq_true rfl) (by decide) t_X10_share_22 hD (fun _ _ e => S_X5_fullPits hρ hq6 e) (fun x8 w7 hD => ?_)
      refine g_mmax h (st := [.long x3]) (vtb_at 1061 (by decide +kernel) rfl) (Nat.le_of_ble_eq_true rfl) t_X10_share_25 ?_
      refine g_i2l h t_X10_share_28 ?_
      refine g_ldiv h t_X10_share_29 hD (fun hD => ?_)
      refine g_bdJ hD (fun x9 hD => ?_)
      refine g_lstore_n (L' := [(1, .long x9), (0, .ref (ρ 87)), (3, .int x4)]) h hn t_X10_share_30 rfl (by decide) rfl ?_
      obtain ⟨x10, ex10, hD⟩ := bd_ex hD
      refine g_iinc (v := x10) (L' := [(3, .int x10), (1, .long x9), (0, .ref (ρ 87))]) h hn t_X10_share_31 (k := 2) rfl (by rw [ex10]; rfl) (by decide) rfl ?_
      refine g_goto (tgt := 6) h t_X10_share_34 (by decide) ?_
      refine g_loc (L' := [(0, .ref (ρ 87)), (1, .long x9), (3, .int x10)]) h [2, 1, 0] rfl ?_
      exact ih x9 x10 _ hD
set_option maxRecDepth 20000 in
theorem S_X10_share {l0 : Launch} {ρ : Nat → Nat} {cs : Nat → ClassId} {G : va_G} (hρ : injN ρ)  {w : Wd} {rr : (Int64 × Wd)} (hD : D_X10_share w = some rr) : CtJ l0 ρ cs G y_X10_share prog_12_method_7_code 4 2 [.ref (ρ 87)] w rr.1 rr.2 := by
  refine ctJ_of hρ (by decide) (Nat.le_of_ble_eq_true rfl) (fun X hn h hR => ?_)
  unfold D_X10_share at hD
  show gG ρ cs G X 0 [(0, .ref (ρ 87))] [] w
  refine g_ldc2 (v := 12960000) h t_X10_share_0 cc_10_86 ?_
  refine g_lstore_n (L' := [(1, .long (12960000 : Int64)), (0, .ref (ρ 87))]) h hn t_X10_share_3 rfl (by decide) rfl ?_
  refine g_iconst (v := 0) h t_X10_share_4 (by decide) ?_
  refine g_istore_n (L' := [(3, .int 0), (1, .long (12960000 : Int64)), (0, .ref (ρ 87))]) h hn t_X10_share_5 rfl (by decide) rfl ?_
  refine g_loc (L' := [(0, .ref (ρ 87)), (1, .long (12960000 : Int64)), (3, .int 0)]) h [2, 1, 0] rfl ?_
  refine Q_X10_share_6 hρ hn h hR  ?_ _ _ _ _ hD
  · intro x11 w12 hD
    unfold J_X10_share_x37_1 at hD
    refine g_lload_n h 0 t_X10_share_37 rfl ?_
    obtain rfl := Option.some.inj hD
    exact hR _ _ t_X10_share_38
def L_X10_tellPath_6 (k2 : Wd → Option Wd) : Nat → Int32 → Wd → Option Wd
  | 0, _, _ => none
  | n3 + 1, x4, w5 =>
    if (w5.1 87 5) ≤ x4 then (k2 w5) else (if ib x4 6 then (bv (D_X3_add ((w5.1 89 x4.toNatClampNeg).toInt64) w5) fun w6 => bd (x4 + 1) fun x7 => L_X10_tellPath_6 k2 n3 x7 w6) else none)
def J_X10_tellPath_x31_1  : Wd → Option Wd := fun w8 =>
  some w8
def D_X10_tellPath  : Wd → Option Wd := fun w =>
  bv (D_X3_clear w) fun w1 => L_X10_tellPath_6 J_X10_tellPath_x31_1 FU 0 w1
set_option maxRecDepth 20000 in
theorem Q_X10_tellPath_6 {l0 : Launch} {ρ : Nat → Nat} {cs : Nat → ClassId} {G : va_G} {X : Cx} (hρ : injN ρ) (hn : X.2.2.2.2.2.2.2.2.2.2.1 = 3) (h : Okx l0 ρ cs G X prog_12_method_8_code "SowingBoards$Tree" 1) {rr : Wd} (hR : ∀ pc L, decode prog_12_method_8_code pc = .ok (.return_, 1) → gG ρ cs G X pc L [] rr)  {k2 : Wd → Option Wd} (hk2 : ∀ (w1 : Wd), k2 w1 = some rr → gG ρ cs G X 31 [] [] w1) : ∀ (n : Nat) (x4 : Int32) (w : Wd), L_X10_tellPath_6 k2 n x4 w = some rr → gG ρ cs G X 6 [(0, .ref (ρ 87)), (1, .ref (ρ 82)), (2, .int x4)] [] w := by
  intro n
  induction n with
  | zero =>
    intro x4 w hD
    cases hD
  | succ n3 ih =>
    intro x4 w5 hD
    unfold L_X10_tellPath_6 at hD
    refine g_iload_n h 2 t_X10_tellPath_6 rfl ?_
    refine g_aload_n h 0 t_X10_tellPath_7 rfl ?_
    refine g_getI h 87 5 fl_10_41 rfl (by decide) rfl t_X10_tellPath_8 ?_
    refine g_icmp_ge (tgt := 31) h t_X10_tellPath_11 (by decide) hD (fun hD => ?_) (fun hD => ?_)
    · refine g_loc (L' := []) h [] rfl ?_
      exact hk2 _ hD
    · refine g_aload_n h 1 t_X10_tellPath_14 rfl ?_
      refine g_aload_n h 0 t_X10_tellPath_15 rfl ?_
      refine g_getR h 87 1 89 fl_10_17 rfl (by decide) rfl t_X10_tellPath_16 ?_
      refine g_iload_n h 2 t_X10_tellPath_19 rfl ?_
      refine g_iald h 89 rfl (by decide) t_X10_tellPath_20 hD (fun hD => ?_)
      refine g_i2l h t_X10_tellPath_21 ?_
      refine g_callVV h 82 (As := [.long ((w5.1 89 x4.toNatClampNeg).toInt64)]) (st := []) my_X3_add mi_X3_add ml_10_100 rfl (by decide) rfl rfl rfl (Nat.le_of_ble_eq_true rfl) (by decide) t_X10_tellPath_22 hD (fun _ e => S_X3_add hρ  e) (fun w6 hD => ?_)
      obtain ⟨x7, ex7, hD⟩ := bd_ex hD
      refine g_iinc (v := x7) (L' := [(2, .int x7), (0, .ref (ρ 87)), (1, .ref (ρ 82))]) h hn t_X10_tellPath_25 (k := 2) rfl (by rw [ex7]; rfl) (by decide) rfl ?_
      refine g_goto (tgt := 6) h t_X10_tellPath_28 (by decide) ?_
      refine g_loc (L' := [(0, .ref (ρ 87)), (1, .ref (ρ 82)), (2, .int x7)]) h [1, 2, 0] rfl ?_
      exact ih x7 _ hD
set_option maxRecDepth 20000 in
theorem S_X10_tellPath {l0 : Launch} {ρ : Nat → Nat} {cs : Nat → ClassId} {G : va_G} (hρ : injN ρ)  {w : Wd} {rr : Wd} (hD : D_X10_tellPath w = some rr) : CtV l0 ρ cs G y_X10_tellPath prog_12_method_8_code 3 1 [.ref (ρ 87), .ref (ρ 82)] w rr := by
  refine ctV_of hρ (by decide) (Nat.le_of_ble_eq_true rfl) (fun X hn h hR => ?_)
  unfold D_X10_tellPath at hD
  show gG ρ cs G X 0 [(0, .ref (ρ 87)), (1, .ref (ρ 82))] [] w
  refine g_aload_n h 1 t_X10_tellPath_0 rfl ?_
  refine g_callVV h 82 (As := []) (st := []) my_X3_clear mi_X3_clear ml_10_95 rfl (by decide) rfl rfl rfl (Nat.le_of_ble_eq_true rfl) (by decide) t_X10_tellPath_1 hD (fun _ e => S_X3_clear hρ  e) (fun w1 hD => ?_)
  refine g_iconst (v := 0) h t_X10_tellPath_4 (by decide) ?_
  refine g_istore_n (L' := [(2, .int 0), (0, .ref (ρ 87)), (1, .ref (ρ 82))]) h hn t_X10_tellPath_5 rfl (by decide) rfl ?_
  refine g_loc (L' := [(0, .ref (ρ 87)), (1, .ref (ρ 82)), (2, .int 0)]) h [1, 2, 0] rfl ?_
  refine Q_X10_tellPath_6 hρ hn h hR  ?_ _ _ _ hD
  · intro w8 hD
    unfold J_X10_tellPath_x31_1 at hD
    obtain rfl := Option.some.inj hD
    exact hR _ _ t_X10_tellPath_31
def D_X10_putAhead (p1 : Int32) (p2 : Int32) : Wd → Option Wd := fun w =>
  if ib (p2 + 1) 5 then (bd (w.1 96 (p2 + 1).toNatClampNeg) fun x1 => if ib p2 5 then bd (91 + p2.toNatClampNeg) (fun q2 => if ib 0 (ln q2) then bd (wI w q2 (0 : Int32).toNatClampNeg p1) (fun w3 => if ib (p2 + 1) 5 then bd (91 + (p2 + 1).toNatClampNeg) (fun q4 => if ib p2 5 then bd (91 + p2.toNatClampNeg) (fun q5 => if cpb 0 1 x1 (ln q4) (ln q5) then bd (wC w3 q4 q5 0 1 x1) (fun w6 => if ib p2 5 then bd (wI w6 96 p2.toNatClampNeg (x1 + 1)) (fun w7 => some w7) else none) else none) else none) else none) else none) else none) else none
set_option maxRecDepth 20000 in
theorem S_X10_putAhead {l0 : Launch} {ρ : Nat → Nat} {cs : Nat → ClassId} {G : va_G} (hρ : injN ρ) {p1 : Int32} {p2 : Int32} {w : Wd} {rr : Wd} (hD : D_X10_putAhead p1 p2 w = some rr) : CtV l0 ρ cs G y_X10_putAhead prog_12_method_12_code 4 0 [.ref (ρ 87), .int p1, .int p2] w rr := by
  refine ctV_of hρ (by decide) (Nat.le_of_ble_eq_true rfl) (fun X hn h hR => ?_)
  unfold D_X10_putAhead at hD
  show gG ρ cs G X 0 [(0, .ref (ρ 87)), (1, .int p1), (2, .int p2)] [] w
  refine g_aload_n h 0 t_X10_putAhead_0 rfl ?_
  refine g_getR h 87 3 96 fl_10_26 rfl (by decide) rfl t_X10_putAhead_1 ?_
  refine g_iload_n h 2 t_X10_putAhead_4 rfl ?_
  refine g_iconst (v := 1) h t_X10_putAhead_5 (by decide) ?_
  refine g_iadd h t_X10_putAhead_6 ?_
  refine g_iald h 96 rfl (by decide) t_X10_putAhead_7 hD (fun hD => ?_)
  refine g_bdI hD (fun x1 hD => ?_)
  refine g_istore_n (L' := [(3, .int x1), (0, .ref (ρ 87)), (1, .int p1), (2, .int p2)]) h hn t_X10_putAhead_8 rfl (by decide) rfl ?_
  refine g_aload_n h 1 t_X10_putAhead_9 rfl ?_
  refine g_getR h 87 2 90 fl_10_23 rfl (by decide) rfl t_X10_putAhead_10 ?_
  refine g_iload_n h 3 t_X10_putAhead_13 rfl ?_
  refine g_rald h 90 rfl (by decide) t_X10_putAhead_14 hD (fun q2 eq2 lq2 hD => ?_)
  have hq2 : isIA q2 := iaA (f := 91) (by decide) eq2 lq2
  refine g_iconst (v := 0) h t_X10_putAhead_15 (by decide) ?_
  refine g_iload_n h 2 t_X10_putAhead_16 rfl ?_
  refine g_iast h q2 (isIA_sh hq2) (isIA_lt hq2) t_X10_putAhead_17 hD (fun w3 hD => ?_)
  refine g_aload_n h 1 t_X10_putAhead_18 rfl ?_
  refine g_getR h 87 2 90 fl_10_23 rfl (by decide) rfl t_X10_putAhead_19 ?_
  refine g_iload_n h 3 t_X10_putAhead_22 rfl ?_
  refine g_iconst (v := 1) h t_X10_putAhead_23 (by decide) ?_
  refine g_iadd h t_X10_putAhead_24 ?_
  refine g_rald h 90 rfl (by decide) t_X10_putAhead_25 hD (fun q4 eq4 lq4 hD => ?_)
  have hq4 : isIA q4 := iaA (f := 91) (by decide) eq4 lq4
  refine g_iconst (v := 0) h t_X10_putAhead_26 (by decide) ?_
  refine g_aload_n h 1 t_X10_putAhead_27 rfl ?_
  refine g_getR h 87 2 90 fl_10_23 rfl (by decide) rfl t_X10_putAhead_28 ?_
  refine g_iload_n h 3 t_X10_putAhead_31 rfl ?_
  refine g_rald h 90 rfl (by decide) t_X10_putAhead_32 hD (fun q5 eq5 lq5 hD => ?_)
  have hq5 : isIA q5 := iaA (f := 91) (by decide) eq5 lq5
  refine g_iconst (v := 1) h t_X10_putAhead_33 (by decide) ?_
  refine g_iload_n h 0 t_X10_putAhead_34 rfl ?_
  refine g_acpy h hn (st := []) q4 q5 (isIA_sh hq4) (isIA_lt hq4) (isIA_sh hq5) (isIA_lt hq5) ml_10_119 (Nat.le_of_ble_eq_true rfl) t_X10_putAhead_35 hD (fun w6 hD => ?_)
  refine g_aload_n h 1 t_X10_putAhead_38 rfl ?_
  refine g_getR h 87 3 96 fl_10_26 rfl (by decide) rfl t_X10_putAhead_39 ?_
  refine g_iload_n h 3 t_X10_putAhead_42 rfl ?_
  refine g_iload_n h 0 t_X10_putAhead_43 rfl ?_
  refine g_iconst (v := 1) h t_X10_putAhead_44 (by decide) ?_
  refine g_iadd h t_X10_putAhead_45 ?_
  refine g_iast h 96 rfl (by decide) t_X10_putAhead_46 hD (fun w7 hD => ?_)
  obtain rfl := Option.some.inj hD
  exact hR _ _ t_X10_putAhead_47
def J_X10_leadBehind_j148_1 (x12 : Int32) (x7 : Int32) (k20 : Int32 → Wd → Option (Int32 × Wd)) (x23 : Int32) : Wd → Option (Int32 × Wd) := fun w27 =>
  bv (D_X10_putAhead x12 x7 w27) fun w29 => k20 x23 w29
def J_X10_leadBehind_j132_2 (x12 : Int32) (x7 : Int32) (k20 : Int32 → Wd → Option (Int32 × Wd)) (x23 : Int32) (x11 : Int32) : Int32 → Wd → Option (Int32 × Wd) := fun x24 w25 =>
  bd (J_X10_leadBehind_j148_1 x12 x7 k20 x23) fun k28 => if x24 = 0 then (if ib x7 5 then (if (w25.1 96 x7.toNatClampNeg) = 0 then (k28 w25) else (k20 x11 w25)) else none) else (k28 w25)
def J_X10_leadBehind_j158_3 (r48 : Int32 → Int32 → Wd → Option (Int32 × Wd)) (x12 : Int32) : Int32 → Wd → Option (Int32 × Wd) := fun x18 w19 =>
  bd (x12 + 1) fun x21 => r48 x18 x21 w19
def L_X10_leadBehind_48 (rec : Int32 → Wd → Option (Int32 × Wd)) (x7 : Int32) (q8 : Nat) (k9 : Int32 → Wd → Option (Int32 × Wd)) : Nat → Int32 → Int32 → Wd → Option (Int32 × Wd)
  | 0, _, _, _ => none
  | n10 + 1, x11, x12, w13 =>
    if (w13.1 q8 2) ≤ x12 then (k9 x11 w13) else (if ib (x7 + 1) 7 then bd (54 + 3 * (x7 + 1).toNatClampNeg) (fun q14 => bv (D_X5_take q14 q8 w13) fun w15 => bc (D_X1_make 97 q14 x12 (w15.1 87 7) w15) fun x17 w16 => bd (J_X10_leadBehind_j158_3 (L_X10_leadBehind_48 rec x7 q8 k9 n10) x12) fun k20 => if x17 = 0 then (k20 x11 w16) else (bc (rec (x7 + 1) w16) fun x23 w22 => bd (J_X10_leadBehind_j132_2 x12 x7 k20 x23 x11) fun k26 => if (w22.1 q8 3) = 0 then (if x23 ≤ x11 then (k26 0 w22) else (k26 1 w22)) else (if x11 ≤ x23 then (k26 0 w22) else (k26 1 w22)))) else none)
def J_X10_leadBehind_x164_4  : Int32 → Wd → Option (Int32 × Wd) := fun x30 w31 =>
  some (x30, w31)
def J_X10_leadBehind_j29_5 (q1 : Nat) : Wd → Option (Int32 × Wd) := fun w3 =>
  if ib 0 2 then (if ib 1 2 then (some ((w3.1 (q1 + 2) (0 : Int32).toNatClampNeg) - (w3.1 (q1 + 2) (1 : Int32).toNatClampNeg), w3)) else none) else none
def B_X10_leadBehind (rec : Int32 → Wd → Option (Int32 × Wd)) (p1 : Int32) : Wd → Option (Int32 × Wd) := fun w =>
  if ib p1 7 then bd (54 + 3 * p1.toNatClampNeg) (fun q1 => if ib p1 5 then bd (wI w 96 p1.toNatClampNeg 0) (fun w2 => bd (J_X10_leadBehind_j29_5 q1) fun k4 => if (w2.1 87 6) ≤ p1 then (k4 w2) else (bc (D_X5_isOver q1 w2) fun x6 w5 => if x6 = 0 then (L_X10_leadBehind_48 rec p1 q1 J_X10_leadBehind_x164_4 FU 0 0 w5) else (k4 w5))) else none) else none
set_option maxRecDepth 20000 in
theorem Q_X10_leadBehind_48 {l0 : Launch} {ρ : Nat → Nat} {cs : Nat → ClassId} {G : va_G} {X : Cx} (hρ : injN ρ) {rec : Int32 → Wd → Option (Int32 × Wd)} {dr d : Nat} (hdr : dr < d) (hbd : 3 ≤ d) (hrec : (∀ {p1 : Int32} {w : Wd} {rr : (Int32 × Wd)}, rec p1 w = some rr → CtI l0 ρ cs G y_X10_leadBehind prog_12_method_11_code 8 .int dr [.ref (ρ 87), .int p1] w rr.1 rr.2)) (hn : X.2.2.2.2.2.2.2.2.2.2.1 = 8) (h : Okx l0 ρ cs G X prog_12_method_11_code "SowingBoards$Tree" d) {rr : (Int32 × Wd)} (hR : ∀ pc L, decode prog_12_method_11_code pc = .ok (.ireturn, 1) → narrow .int (.int rr.1) = .int rr.1 → gG ρ cs G X pc L [.int rr.1] rr.2) {x7 : Int32} {q8 : Nat} (hq8 : isPos q8) {k9 : Int32 → Wd → Option (Int32 × Wd)} (hk9 : ∀ (z3 : Int32) (w1 : Wd), k9 z3 w1 = some rr → gG ρ cs G X 164 [(3, .int z3)] [] w1) : ∀ (n : Nat) (x11 : Int32) (x12 : Int32) (w : Wd), L_X10_leadBehind_48 rec x7 q8 k9 n x11 x12 w = some rr → gG ρ cs G X 48 [(0, .ref (ρ 87)), (1, .int x7), (2, .ref (ρ q8)), (3, .int x11), (4, .int x12)] [] w := by
  intro n
  induction n with
  | zero =>
    intro x11 x12 w hD
    cases hD
  | succ n10 ih =>
    intro x11 x12 w13 hD
    unfold L_X10_leadBehind_48 at hD
    refine g_iload h 4 t_X10_leadBehind_48 rfl ?_
    refine g_aload_n h 2 t_X10_leadBehind_50 rfl ?_
    refine g_getI h q8 2 fl_10_72 (isPos_sh hq8) (isPos_lt hq8) rfl t_X10_leadBehind_51 ?_
    refine g_icmp_ge (tgt := 164) h t_X10_leadBehind_54 (by decide) hD (fun hD => ?_) (fun hD => ?_)
    · refine g_loc (L' := [(3, .int x11)]) h [3] rfl ?_
      exact hk9 x11 _ hD
    · refine g_aload_n h 0 t_X10_leadBehind_57 rfl ?_
      refine g_getR h 87 0 88 fl_10_11 rfl (by decide) rfl t_X10_leadBehind_58 ?_
      refine g_iload_n h 1 t_X10_leadBehind_61 rfl ?_
      refine g_iconst (v := 1) h t_X10_leadBehind_62 (by decide) ?_
      refine g_iadd h t_X10_leadBehind_63 ?_
      refine g_pald h 88 rfl (by decide) t_X10_leadBehind_64 hD (fun q14 eq14 lq14 hD => ?_)
      have hq14 : isPos q14 := posA (by decide) (by decide) eq14 lq14
      refine g_astore (L' := [(5, .ref (ρ q14)), (0, .ref (ρ 87)), (1, .int x7), (2, .ref (ρ q8)), (3, .int x11), (4, .int x12)]) h hn t_X10_leadBehind_65 (by decide) rfl ?_
      refine g_aload h 0 t_X10_leadBehind_67 rfl ?_
      refine g_aload_n h 3 t_X10_leadBehind_69 rfl ?_
      refine g_callVV h q14 (As := [.ref (ρ q8)]) (st := []) my_X5_take mi_X5_take ml_10_37 (isPos_sh hq14) (isPos_lt hq14) rfl rfl rfl (Nat.le_of_ble_eq_true rfl) (by omega) t_X10_leadBehind_70 hD (fun _ e => S_X5_take hρ hq14 hq8 e) (fun w15 hD => ?_)
      refine g_aload_n h 1 t_X10_leadBehind_73 rfl ?_
      refine g_getR h 87 4 97 fl_10_32 rfl (by decide) rfl t_X10_leadBehind_74 ?_
      refine g_aload h 0 t_X10_leadBehind_77 rfl ?_
      refine g_iload h 5 t_X10_leadBehind_79 rfl ?_
      refine g_aload_n h 1 t_X10_leadBehind_81 rfl ?_
      refine g_getI h 87 7 fl_10_58 rfl (by decide) rfl t_X10_leadBehind_82 ?_
      refine g_callVI h 97 (As := [.ref (ρ q14), .int x12, .int (w15.1 87 7)]) (st := []) my_X1_make mi_X1_make ml_10_78 rfl (by decide) rfl rfl rfl (Nat.le_of_ble_eq_true rfl) (by omega) t_X10_leadBehind_85 hD (fun _ _ e => S_X1_make hρ (by decide) hq14 e) (fun x17 w16 hD => ?_)
      refine g_join (P := fun k20 => ∀ (x18 : Int32) (w19 : Wd), k20 x18 w19 = some rr → gG ρ cs G X 158 [(0, .ref (ρ 87)), (1, .int x7), (2, .ref (ρ q8)), (3, .int x18), (4, .int x12)] [] w19) hD ?_ (fun k20 hk20 hD => ?_)
      · intro x18 w19 hD
        unfold J_X10_leadBehind_j158_3 at hD
        obtain ⟨x21, ex21, hD⟩ := bd_ex hD
        refine g_iinc (v := x21) (L' := [(4, .int x21), (0, .ref (ρ 87)), (1, .int x7), (2, .ref (ρ q8)), (3, .int x18)]) h hn t_X10_leadBehind_158 (k := 4) rfl (by rw [ex21]; rfl) (by decide) rfl ?_
        refine g_goto (tgt := 48) h t_X10_leadBehind_161 (by decide) ?_
        refine g_loc (L' := [(0, .ref (ρ 87)), (1, .int x7), (2, .ref (ρ q8)), (3, .int x18), (4, .int x21)]) h [1, 2, 3, 4, 0] rfl ?_
        exact ih x18 x21 _ hD
      · refine g_if_eq (tgt := 158) h t_X10_leadBehind_88 (by decide) hD (fun hD => ?_) (fun hD => ?_)
        · refine g_loc (L' := [(0, .ref (ρ 87)), (1, .int x7), (2, .ref (ρ q8)), (3, .int x11), (4, .int x12)]) h [1, 2, 3, 4, 5] rfl ?_
          exact hk20 x11 _ hD
        · refine g_aload_n h 1 t_X10_leadBehind_91 rfl ?_
          refine g_iload_n h 2 t_X10_leadBehind_92 rfl ?_
          refine g_iconst (v := 1) h t_X10_leadBehind_93 (by decide) ?_
          refine g_iadd h t_X10_leadBehind_94 ?_
          refine g_callSI h (As := [.ref (ρ 87), .int (x7 + 1)]) (st := []) my_X10_leadBehind ms_X10_leadBehind ml_10_108 rfl rfl (Nat.le_of_ble_eq_true rfl) (by omega) t_X10_leadBehind_95 hD (fun _ _ e => hrec  e) (fun x23 w22 hD => ?_)
          refine g_istore (L' := [(6, .int x23), (5, .ref (ρ q14)), (0, .ref (ρ 87)), (1, .int x7), (2, .ref (ρ q8)), (3, .int x11), (4, .int x12)]) h hn t_X10_leadBehind_98 (by decide) rfl ?_
          refine g_aload_n h 4 t_X10_leadBehind_100 rfl ?_
          refine g_getI h q8 3 fl_10_65 (isPos_sh hq8) (isPos_lt hq8) rfl t_X10_leadBehind_101 ?_
          refine g_join (P := fun k26 => ∀ (x24 : Int32) (w25 : Wd), k26 x24 w25 = some rr → gG ρ cs G X 132 [(0, .ref (ρ 87)), (1, .int x7), (2, .ref (ρ q8)), (3, .int x11), (4, .int x12), (6, .int x23)] [.int x24] w25) hD ?_ (fun k26 hk26 hD => ?_)
          · intro x24 w25 hD
            unfold J_X10_leadBehind_j132_2 at hD
            refine g_istore (L' := [(7, .int x24), (0, .ref (ρ 87)), (1, .int x7), (2, .ref (ρ q8)), (3, .int x11), (4, .int x12), (6, .int x23)]) h hn t_X10_leadBehind_132 (by decide) rfl ?_
            refine g_iload h 0 t_X10_leadBehind_134 rfl ?_
            refine g_join (P := fun k28 => ∀ (w27 : Wd), k28 w27 = some rr → gG ρ cs G X 148 [(0, .ref (ρ 87)), (1, .int x7), (2, .ref (ρ q8)), (4, .int x12), (6, .int x23)] [] w27) hD ?_ (fun k28 hk28 hD => ?_)
            · intro w27 hD
              unfold J_X10_leadBehind_j148_1 at hD
              refine g_iload h 4 t_X10_leadBehind_148 rfl ?_
              refine g_istore_n (L' := [(3, .int x23), (0, .ref (ρ 87)), (1, .int x7), (2, .ref (ρ q8)), (4, .int x12), (6, .int x23)]) h hn t_X10_leadBehind_150 rfl (by decide) rfl ?_
              refine g_aload_n h 1 t_X10_leadBehind_151 rfl ?_
              refine g_iload h 4 t_X10_leadBehind_152 rfl ?_
              refine g_iload_n h 2 t_X10_leadBehind_154 rfl ?_
              refine g_callVV h 87 (As := [.int x12, .int x7]) (st := []) my_X10_putAhead mi_X10_putAhead ml_10_115 rfl (by decide) rfl rfl rfl (Nat.le_of_ble_eq_true rfl) (by omega) t_X10_leadBehind_155 hD (fun _ e => S_X10_putAhead hρ  e) (fun w29 hD => ?_)
              refine g_loc (L' := [(0, .ref (ρ 87)), (1, .int x7), (2, .ref (ρ q8)), (3, .int x23), (4, .int x12)]) h [1, 2, 3, 0, 4] rfl ?_
              exact hk20 x23 _ hD
            · refine g_if_ne (tgt := 148) h t_X10_leadBehind_136 (by decide) hD (fun hD => ?_) (fun hD => ?_)
              · refine g_loc (L' := [(0, .ref (ρ 87)), (1, .int x7), (2, .ref (ρ q8)), (4, .int x12), (6, .int x23)]) h [1, 2, 3, 5, 6] rfl ?_
                exact hk28 _ hD
              · refine g_aload_n h 1 t_X10_leadBehind_139 rfl ?_
                refine g_getR h 87 3 96 fl_10_26 rfl (by decide) rfl t_X10_leadBehind_140 ?_
                refine g_iload_n h 2 t_X10_leadBehind_143 rfl ?_
                refine g_iald h 96 rfl (by decide) t_X10_leadBehind_144 hD (fun hD => ?_)
                refine g_if_ne (tgt := 158) h t_X10_leadBehind_145 (by decide) hD (fun hD => ?_) (fun hD => ?_)
                · refine g_loc (L' := [(0, .ref (ρ 87)), (1, .int x7), (2, .ref (ρ q8)), (3, .int x11), (4, .int x12)]) h [1, 2, 3, 4, 5] rfl ?_
                  exact hk20 x11 _ hD
                · refine g_loc (L' := [(0, .ref (ρ 87)), (1, .int x7), (2, .ref (ρ q8)), (4, .int x12), (6, .int x23)]) h [1, 2, 3, 5, 6] rfl ?_
                  exact hk28 _ hD
          · refine g_if_ne (tgt := 121) h t_X10_leadBehind_104 (by decide) hD (fun hD => ?_) (fun hD => ?_)
            · refine g_iload h 0 t_X10_leadBehind_121 rfl ?_
              refine g_iload_n h 5 t_X10_leadBehind_123 rfl ?_
              refine g_icmp_ge (tgt := 131) h t_X10_leadBehind_124 (by decide) hD (fun hD => ?_) (fun hD => ?_)
              · refine g_iconst (v := 0) h t_X10_leadBehind_131 (by decide) ?_
                refine g_loc (L' := [(0, .ref (ρ 87)), (1, .int x7), (2, .ref (ρ q8)), (3, .int x11), (4, .int x12), (6, .int x23)]) h [2, 3, 4, 5, 6, 0] rfl ?_
                exact hk26 0 _ hD
              · refine g_iconst (v := 1) h t_X10_leadBehind_127 (by decide) ?_
                refine g_goto (tgt := 132) h t_X10_leadBehind_128 (by decide) ?_
                refine g_loc (L' := [(0, .ref (ρ 87)), (1, .int x7), (2, .ref (ρ q8)), (3, .int x11), (4, .int x12), (6, .int x23)]) h [2, 3, 4, 5, 6, 0] rfl ?_
                exact hk26 1 _ hD
            · refine g_iload h 0 t_X10_leadBehind_107 rfl ?_
              refine g_iload_n h 5 t_X10_leadBehind_109 rfl ?_
              refine g_icmp_le (tgt := 117) h t_X10_leadBehind_110 (by decide) hD (fun hD => ?_) (fun hD => ?_)
              · refine g_iconst (v := 0) h t_X10_leadBehind_117 (by decide) ?_
                refine g_goto (tgt := 132) h t_X10_leadBehind_118 (by decide) ?_
                refine g_loc (L' := [(0, .ref (ρ 87)), (1, .int x7), (2, .ref (ρ q8)), (3, .int x11), (4, .int x12), (6, .int x23)]) h [2, 3, 4, 5, 6, 0] rfl ?_
                exact hk26 0 _ hD
              · refine g_iconst (v := 1) h t_X10_leadBehind_113 (by decide) ?_
                refine g_goto (tgt := 132) h t_X10_leadBehind_114 (by decide) ?_
                refine g_loc (L' := [(0, .ref (ρ 87)), (1, .int x7), (2, .ref (ρ q8)), (3, .int x11), (4, .int x12), (6, .int x23)]) h [2, 3, 4, 5, 6, 0] rfl ?_
                exact hk26 1 _ hD
set_option maxRecDepth 20000 in
theorem SB_X10_leadBehind {l0 : Launch} {ρ : Nat → Nat} {cs : Nat → ClassId} {G : va_G} (hρ : injN ρ) {rec : Int32 → Wd → Option (Int32 × Wd)} {dr d : Nat} (hdr : dr < d) (hbd : 3 ≤ d) (hrec : (∀ {p1 : Int32} {w : Wd} {rr : (Int32 × Wd)}, rec p1 w = some rr → CtI l0 ρ cs G y_X10_leadBehind prog_12_method_11_code 8 .int dr [.ref (ρ 87), .int p1] w rr.1 rr.2)) {p1 : Int32} {w : Wd} {rr : (Int32 × Wd)} (hD : B_X10_leadBehind rec p1 w = some rr) : CtI l0 ρ cs G y_X10_leadBehind prog_12_method_11_code 8 .int d [.ref (ρ 87), .int p1] w rr.1 rr.2 := by
  refine ctI_of hρ (by decide) (Nat.le_of_ble_eq_true rfl) (fun X hn h hR => ?_)
  unfold B_X10_leadBehind at hD
  show gG ρ cs G X 0 [(0, .ref (ρ 87)), (1, .int p1)] [] w
  refine g_aload_n h 0 t_X10_leadBehind_0 rfl ?_
  refine g_getR h 87 0 88 fl_10_11 rfl (by decide) rfl t_X10_leadBehind_1 ?_
  refine g_iload_n h 1 t_X10_leadBehind_4 rfl ?_
  refine g_pald h 88 rfl (by decide) t_X10_leadBehind_5 hD (fun q1 eq1 lq1 hD => ?_)
  have hq1 : isPos q1 := posA (by decide) (by decide) eq1 lq1
  refine g_astore_n (L' := [(2, .ref (ρ q1)), (0, .ref (ρ 87)), (1, .int p1)]) h hn t_X10_leadBehind_6 rfl (by decide) rfl ?_
  refine g_aload_n h 1 t_X10_leadBehind_7 rfl ?_
  refine g_getR h 87 3 96 fl_10_26 rfl (by decide) rfl t_X10_leadBehind_8 ?_
  refine g_iload_n h 2 t_X10_leadBehind_11 rfl ?_
  refine g_iconst (v := 0) h t_X10_leadBehind_12 (by decide) ?_
  refine g_iast h 96 rfl (by decide) t_X10_leadBehind_13 hD (fun w2 hD => ?_)
  refine g_iload_n h 2 t_X10_leadBehind_14 rfl ?_
  refine g_aload_n h 1 t_X10_leadBehind_15 rfl ?_
  refine g_getI h 87 6 fl_10_51 rfl (by decide) rfl t_X10_leadBehind_16 ?_
  refine g_join (P := fun k4 => ∀ (w3 : Wd), k4 w3 = some rr → gG ρ cs G X 29 [(2, .ref (ρ q1))] [] w3) hD ?_ (fun k4 hk4 hD => ?_)
  · intro w3 hD
    unfold J_X10_leadBehind_j29_5 at hD
    refine g_aload_n h 0 t_X10_leadBehind_29 rfl ?_
    refine g_getQ h q1 1 (q1 + 2) 2 (by decide) rfl fl_10_112 (isPos_sh hq1) (isPos_lt hq1) rfl t_X10_leadBehind_30 ?_
    refine g_iconst (v := 0) h t_X10_leadBehind_33 (by decide) ?_
    refine g_iald h (q1 + 2) (isPos_s2 hq1) (isPos_l2 hq1) t_X10_leadBehind_34 hD (fun hD => ?_)
    refine g_aload_n h 0 t_X10_leadBehind_35 rfl ?_
    refine g_getQ h q1 1 (q1 + 2) 2 (by decide) rfl fl_10_112 (isPos_sh hq1) (isPos_lt hq1) rfl t_X10_leadBehind_36 ?_
    refine g_iconst (v := 1) h t_X10_leadBehind_39 (by decide) ?_
    refine g_iald h (q1 + 2) (isPos_s2 hq1) (isPos_l2 hq1) t_X10_leadBehind_40 hD (fun hD => ?_)
    refine g_isub h t_X10_leadBehind_41 ?_
    obtain rfl := Option.some.inj hD
    exact hR _ _ t_X10_leadBehind_42 rfl
  · refine g_icmp_ge (tgt := 29) h t_X10_leadBehind_19 (by decide) hD (fun hD => ?_) (fun hD => ?_)
    · refine g_loc (L' := [(2, .ref (ρ q1))]) h [0] rfl ?_
      exact hk4 _ hD
    · refine g_aload_n h 0 t_X10_leadBehind_22 rfl ?_
      refine g_callVI h q1 (As := []) (st := []) my_X5_isOver mi_X5_isOver ml_10_82 (isPos_sh hq1) (isPos_lt hq1) rfl rfl rfl (Nat.le_of_ble_eq_true rfl) (by omega) t_X10_leadBehind_23 hD (fun _ _ e => S_X5_isOver hρ hq1 e) (fun x6 w5 hD => ?_)
      refine g_if_eq (tgt := 43) h t_X10_leadBehind_26 (by decide) hD (fun hD => ?_) (fun hD => ?_)
      · refine g_iconst (v := 0) h t_X10_leadBehind_43 (by decide) ?_
        refine g_istore_n (L' := [(3, .int 0), (2, .ref (ρ q1)), (0, .ref (ρ 87)), (1, .int p1)]) h hn t_X10_leadBehind_44 rfl (by decide) rfl ?_
        refine g_iconst (v := 0) h t_X10_leadBehind_45 (by decide) ?_
        refine g_istore (L' := [(4, .int 0), (3, .int 0), (2, .ref (ρ q1)), (0, .ref (ρ 87)), (1, .int p1)]) h hn t_X10_leadBehind_46 (by decide) rfl ?_
        refine g_loc (L' := [(0, .ref (ρ 87)), (1, .int p1), (2, .ref (ρ q1)), (3, .int 0), (4, .int 0)]) h [3, 4, 2, 1, 0] rfl ?_
        refine Q_X10_leadBehind_48 hρ hdr hbd hrec hn h hR hq1 ?_ _ _ _ _ hD
        · intro x30 w31 hD
          unfold J_X10_leadBehind_x164_4 at hD
          refine g_iload_n h 0 t_X10_leadBehind_164 rfl ?_
          obtain rfl := Option.some.inj hD
          exact hR _ _ t_X10_leadBehind_165 rfl
      · refine g_loc (L' := [(2, .ref (ρ q1))]) h [0] rfl ?_
        exact hk4 _ hD
def E_X10_leadBehind : Nat → Int32 → Wd → Option (Int32 × Wd)
  | 0, _, _ => none
  | n + 1, p1, w => B_X10_leadBehind (fun p1 w => E_X10_leadBehind n p1 w) p1 w
set_option maxRecDepth 20000 in
theorem SE_X10_leadBehind {l0 : Launch} {ρ : Nat → Nat} {cs : Nat → ClassId} {G : va_G} (hρ : injN ρ) : ∀ n : Nat, (∀ {p1 : Int32} {w : Wd} {rr : (Int32 × Wd)}, E_X10_leadBehind n p1 w = some rr → CtI l0 ρ cs G y_X10_leadBehind prog_12_method_11_code 8 .int (3 + n) [.ref (ρ 87), .int p1] w rr.1 rr.2) := by
  intro n
  induction n with
  | zero =>
    intros
    rename_i hD
    cases hD
  | succ n ih =>
    intros
    rename_i hD
    exact SB_X10_leadBehind hρ (rec := fun p1 w => E_X10_leadBehind n p1 w) (dr := 3 + n) (d := 3 + (n + 1)) (by omega) (by omega) ih hD
def D_X10_leadBehind (p1 : Int32) : Wd → Option (Int32 × Wd) := fun w => E_X10_leadBehind 80 p1 w
set_option maxRecDepth 20000 in
theorem S_X10_leadBehind {l0 : Launch} {ρ : Nat → Nat} {cs : Nat → ClassId} {G : va_G} (hρ : injN ρ) {p1 : Int32} {w : Wd} {rr : (Int32 × Wd)} (hD : D_X10_leadBehind p1 w = some rr) : CtI l0 ρ cs G y_X10_leadBehind prog_12_method_11_code 8 .int 83 [.ref (ρ 87), .int p1] w rr.1 rr.2 := (SE_X10_leadBehind hρ 80) hD
def D_X10_duel (o1 : Nat) (p2 : Int32) (p3 : Int32) : Wd → Option (Int32 × Wd) := fun w =>
  bv (D_X10_start o1 (imin p2 4) 0 p3 w) fun w1 => bc (D_X10_leadBehind 0 w1) fun x3 w2 => if (w2.1 o1 3) = 0 then (some (x3, w2)) else (some (-x3, w2))
set_option maxRecDepth 20000 in
theorem S_X10_duel {l0 : Launch} {ρ : Nat → Nat} {cs : Nat → ClassId} {G : va_G} (hρ : injN ρ) {o1 : Nat} (ho1 : isPos o1) {p2 : Int32} {p3 : Int32} {w : Wd} {rr : (Int32 × Wd)} (hD : D_X10_duel o1 p2 p3 w = some rr) : CtI l0 ρ cs G y_X10_duel prog_12_method_9_code 5 .int 84 [.ref (ρ 87), .ref (ρ o1), .int p2, .int p3] w rr.1 rr.2 := by
  refine ctI_of hρ (by decide) (Nat.le_of_ble_eq_true rfl) (fun X hn h hR => ?_)
  unfold D_X10_duel at hD
  show gG ρ cs G X 0 [(0, .ref (ρ 87)), (1, .ref (ρ o1)), (2, .int p2), (3, .int p3)] [] w
  refine g_aload_n h 0 t_X10_duel_0 rfl ?_
  refine g_aload_n h 1 t_X10_duel_1 rfl ?_
  refine g_iload_n h 2 t_X10_duel_2 rfl ?_
  refine g_iconst (v := 4) h t_X10_duel_3 (by decide) ?_
  refine g_mmin h (st := [.ref (ρ o1), .ref (ρ 87)]) (vtb_at 951 (by decide +kernel) rfl) (Nat.le_of_ble_eq_true rfl) t_X10_duel_4 ?_
  refine g_iconst (v := 0) h t_X10_duel_7 (by decide) ?_
  refine g_iload_n h 3 t_X10_duel_8 rfl ?_
  refine g_callVV h 87 (As := [.ref (ρ o1), .int (imin p2 4), .int 0, .int p3]) (st := []) my_X10_start mi_X10_start ml_10_104 rfl (by decide) rfl rfl rfl (Nat.le_of_ble_eq_true rfl) (by decide) t_X10_duel_9 hD (fun _ e => S_X10_start hρ ho1 e) (fun w1 hD => ?_)
  refine g_aload_n h 0 t_X10_duel_12 rfl ?_
  refine g_iconst (v := 0) h t_X10_duel_13 (by decide) ?_
  refine g_callSI h (As := [.ref (ρ 87), .int 0]) (st := []) my_X10_leadBehind ms_X10_leadBehind ml_10_108 rfl rfl (Nat.le_of_ble_eq_true rfl) (by decide) t_X10_duel_14 hD (fun _ _ e => S_X10_leadBehind hρ  e) (fun x3 w2 hD => ?_)
  refine g_istore (L' := [(4, .int x3), (0, .ref (ρ 87)), (1, .ref (ρ o1)), (2, .int p2), (3, .int p3)]) h hn t_X10_duel_17 (by decide) rfl ?_
  refine g_aload_n h 2 t_X10_duel_19 rfl ?_
  refine g_getI h o1 3 fl_10_65 (isPos_sh ho1) (isPos_lt ho1) rfl t_X10_duel_20 ?_
  refine g_if_ne (tgt := 31) h t_X10_duel_23 (by decide) hD (fun hD => ?_) (fun hD => ?_)
  · refine g_iload h 0 t_X10_duel_31 rfl ?_
    refine g_ineg h t_X10_duel_33 ?_
    obtain rfl := Option.some.inj hD
    exact hR _ _ t_X10_duel_34 rfl
  · refine g_iload h 0 t_X10_duel_26 rfl ?_
    refine g_goto (tgt := 34) h t_X10_duel_28 (by decide) ?_
    obtain rfl := Option.some.inj hD
    exact hR _ _ t_X10_duel_34 rfl
def L_X10_tellDuel_6 (k2 : Wd → Option Wd) : Nat → Int32 → Wd → Option Wd
  | 0, _, _ => none
  | n3 + 1, x4, w5 =>
    if ib 0 5 then (if (w5.1 96 (0 : Int32).toNatClampNeg) ≤ x4 then (k2 w5) else (if ib 0 5 then bd (91 + (0 : Int32).toNatClampNeg) (fun q6 => if ib x4 (ln q6) then (bv (D_X3_add ((w5.1 q6 x4.toNatClampNeg).toInt64) w5) fun w7 => bd (x4 + 1) fun x8 => L_X10_tellDuel_6 k2 n3 x8 w7) else none) else none)) else none
def J_X10_tellDuel_x35_1  : Wd → Option Wd := fun w9 =>
  some w9
def D_X10_tellDuel  : Wd → Option Wd := fun w =>
  bv (D_X3_clear w) fun w1 => L_X10_tellDuel_6 J_X10_tellDuel_x35_1 FU 0 w1
set_option maxRecDepth 20000 in
theorem Q_X10_tellDuel_6 {l0 : Launch} {ρ : Nat → Nat} {cs : Nat → ClassId} {G : va_G} {X : Cx} (hρ : injN ρ) (hn : X.2.2.2.2.2.2.2.2.2.2.1 = 3) (h : Okx l0 ρ cs G X prog_12_method_10_code "SowingBoards$Tree" 1) {rr : Wd} (hR : ∀ pc L, decode prog_12_method_10_code pc = .ok (.return_, 1) → gG ρ cs G X pc L [] rr)  {k2 : Wd → Option Wd} (hk2 : ∀ (w1 : Wd), k2 w1 = some rr → gG ρ cs G X 35 [] [] w1) : ∀ (n : Nat) (x4 : Int32) (w : Wd), L_X10_tellDuel_6 k2 n x4 w = some rr → gG ρ cs G X 6 [(0, .ref (ρ 87)), (1, .ref (ρ 82)), (2, .int x4)] [] w := by
  intro n
  induction n with
  | zero =>
    intro x4 w hD
    cases hD
  | succ n3 ih =>
    intro x4 w5 hD
    unfold L_X10_tellDuel_6 at hD
    refine g_iload_n h 2 t_X10_tellDuel_6 rfl ?_
    refine g_aload_n h 0 t_X10_tellDuel_7 rfl ?_
    refine g_getR h 87 3 96 fl_10_26 rfl (by decide) rfl t_X10_tellDuel_8 ?_
    refine g_iconst (v := 0) h t_X10_tellDuel_11 (by decide) ?_
    refine g_iald h 96 rfl (by decide) t_X10_tellDuel_12 hD (fun hD => ?_)
    refine g_icmp_ge (tgt := 35) h t_X10_tellDuel_13 (by decide) hD (fun hD => ?_) (fun hD => ?_)
    · refine g_loc (L' := []) h [] rfl ?_
      exact hk2 _ hD
    · refine g_aload_n h 1 t_X10_tellDuel_16 rfl ?_
      refine g_aload_n h 0 t_X10_tellDuel_17 rfl ?_
      refine g_getR h 87 2 90 fl_10_23 rfl (by decide) rfl t_X10_tellDuel_18 ?_
      refine g_iconst (v := 0) h t_X10_tellDuel_21 (by decide) ?_
      refine g_rald h 90 rfl (by decide) t_X10_tellDuel_22 hD (fun q6 eq6 lq6 hD => ?_)
      have hq6 : isIA q6 := iaA (f := 91) (by decide) eq6 lq6
      refine g_iload_n h 2 t_X10_tellDuel_23 rfl ?_
      refine g_iald h q6 (isIA_sh hq6) (isIA_lt hq6) t_X10_tellDuel_24 hD (fun hD => ?_)
      refine g_i2l h t_X10_tellDuel_25 ?_
      refine g_callVV h 82 (As := [.long ((w5.1 q6 x4.toNatClampNeg).toInt64)]) (st := []) my_X3_add mi_X3_add ml_10_100 rfl (by decide) rfl rfl rfl (Nat.le_of_ble_eq_true rfl) (by decide) t_X10_tellDuel_26 hD (fun _ e => S_X3_add hρ  e) (fun w7 hD => ?_)
      obtain ⟨x8, ex8, hD⟩ := bd_ex hD
      refine g_iinc (v := x8) (L' := [(2, .int x8), (0, .ref (ρ 87)), (1, .ref (ρ 82))]) h hn t_X10_tellDuel_29 (k := 2) rfl (by rw [ex8]; rfl) (by decide) rfl ?_
      refine g_goto (tgt := 6) h t_X10_tellDuel_32 (by decide) ?_
      refine g_loc (L' := [(0, .ref (ρ 87)), (1, .ref (ρ 82)), (2, .int x8)]) h [1, 2, 0] rfl ?_
      exact ih x8 _ hD
set_option maxRecDepth 20000 in
theorem S_X10_tellDuel {l0 : Launch} {ρ : Nat → Nat} {cs : Nat → ClassId} {G : va_G} (hρ : injN ρ)  {w : Wd} {rr : Wd} (hD : D_X10_tellDuel w = some rr) : CtV l0 ρ cs G y_X10_tellDuel prog_12_method_10_code 3 1 [.ref (ρ 87), .ref (ρ 82)] w rr := by
  refine ctV_of hρ (by decide) (Nat.le_of_ble_eq_true rfl) (fun X hn h hR => ?_)
  unfold D_X10_tellDuel at hD
  show gG ρ cs G X 0 [(0, .ref (ρ 87)), (1, .ref (ρ 82))] [] w
  refine g_aload_n h 1 t_X10_tellDuel_0 rfl ?_
  refine g_callVV h 82 (As := []) (st := []) my_X3_clear mi_X3_clear ml_10_95 rfl (by decide) rfl rfl rfl (Nat.le_of_ble_eq_true rfl) (by decide) t_X10_tellDuel_1 hD (fun _ e => S_X3_clear hρ  e) (fun w1 hD => ?_)
  refine g_iconst (v := 0) h t_X10_tellDuel_4 (by decide) ?_
  refine g_istore_n (L' := [(2, .int 0), (0, .ref (ρ 87)), (1, .ref (ρ 82))]) h hn t_X10_tellDuel_5 rfl (by decide) rfl ?_
  refine g_loc (L' := [(0, .ref (ρ 87)), (1, .ref (ρ 82)), (2, .int 0)]) h [1, 2, 0] rfl ?_
  refine Q_X10_tellDuel_6 hρ hn h hR  ?_ _ _ _ hD
  · intro w9 hD
    unfold J_X10_tellDuel_x35_1 at hD
    obtain rfl := Option.some.inj hD
    exact hR _ _ t_X10_tellDuel_35
