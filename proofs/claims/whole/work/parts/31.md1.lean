def y_X12_behind : MethodName := ⟨"SowingBoardsModel", "behind", "(II)I"⟩
theorem t_X12_behind_0 : decode prog_14_method_34_code 0 = .ok (.iload_n 2, 1) := by decide +kernel
theorem t_X12_behind_1 : decode prog_14_method_34_code 1 = .ok (.ifCond .ne 12, 3) := by decide +kernel
theorem t_X12_behind_4 : decode prog_14_method_34_code 4 = .ok (.aload_n 0, 1) := by decide +kernel
theorem t_X12_behind_5 : decode prog_14_method_34_code 5 = .ok (.getfield 13, 3) := by decide +kernel
theorem t_X12_behind_8 : decode prog_14_method_34_code 8 = .ok (.iconst 1, 1) := by decide +kernel
theorem t_X12_behind_9 : decode prog_14_method_34_code 9 = .ok (.isub, 1) := by decide +kernel
theorem t_X12_behind_10 : decode prog_14_method_34_code 10 = .ok (.goto 9, 3) := by decide +kernel
theorem t_X12_behind_13 : decode prog_14_method_34_code 13 = .ok (.aload_n 0, 1) := by decide +kernel
theorem t_X12_behind_14 : decode prog_14_method_34_code 14 = .ok (.invokevirtual 214, 3) := by decide +kernel
theorem t_X12_behind_17 : decode prog_14_method_34_code 17 = .ok (.iconst 1, 1) := by decide +kernel
theorem t_X12_behind_18 : decode prog_14_method_34_code 18 = .ok (.isub, 1) := by decide +kernel
theorem t_X12_behind_19 : decode prog_14_method_34_code 19 = .ok (.istore_n 3, 1) := by decide +kernel
theorem t_X12_behind_20 : decode prog_14_method_34_code 20 = .ok (.iload_n 1, 1) := by decide +kernel
theorem t_X12_behind_21 : decode prog_14_method_34_code 21 = .ok (.bipush 50, 2) := by decide +kernel
theorem t_X12_behind_23 : decode prog_14_method_34_code 23 = .ok (.if_icmp .ne 12, 3) := by decide +kernel
theorem t_X12_behind_26 : decode prog_14_method_34_code 26 = .ok (.iload_n 3, 1) := by decide +kernel
theorem t_X12_behind_27 : decode prog_14_method_34_code 27 = .ok (.iconst 1, 1) := by decide +kernel
theorem t_X12_behind_28 : decode prog_14_method_34_code 28 = .ok (.iadd, 1) := by decide +kernel
theorem t_X12_behind_29 : decode prog_14_method_34_code 29 = .ok (.aload_n 0, 1) := by decide +kernel
theorem t_X12_behind_30 : decode prog_14_method_34_code 30 = .ok (.invokevirtual 214, 3) := by decide +kernel
theorem t_X12_behind_33 : decode prog_14_method_34_code 33 = .ok (.irem, 1) := by decide +kernel
theorem t_X12_behind_34 : decode prog_14_method_34_code 34 = .ok (.ireturn, 1) := by decide +kernel
theorem t_X12_behind_35 : decode prog_14_method_34_code 35 = .ok (.iload_n 1, 1) := by decide +kernel
theorem t_X12_behind_36 : decode prog_14_method_34_code 36 = .ok (.iload_n 3, 1) := by decide +kernel
theorem t_X12_behind_37 : decode prog_14_method_34_code 37 = .ok (.if_icmp .ne 17, 3) := by decide +kernel
theorem t_X12_behind_40 : decode prog_14_method_34_code 40 = .ok (.aload_n 0, 1) := by decide +kernel
theorem t_X12_behind_41 : decode prog_14_method_34_code 41 = .ok (.getfield 17, 3) := by decide +kernel
theorem t_X12_behind_44 : decode prog_14_method_34_code 44 = .ok (.iconst 1, 1) := by decide +kernel
theorem t_X12_behind_45 : decode prog_14_method_34_code 45 = .ok (.iand, 1) := by decide +kernel
theorem t_X12_behind_46 : decode prog_14_method_34_code 46 = .ok (.ifCond .eq 8, 3) := by decide +kernel
theorem t_X12_behind_49 : decode prog_14_method_34_code 49 = .ok (.bipush 50, 2) := by decide +kernel
theorem t_X12_behind_51 : decode prog_14_method_34_code 51 = .ok (.goto 11, 3) := by decide +kernel
theorem t_X12_behind_54 : decode prog_14_method_34_code 54 = .ok (.iload_n 1, 1) := by decide +kernel
theorem t_X12_behind_55 : decode prog_14_method_34_code 55 = .ok (.iconst 1, 1) := by decide +kernel
theorem t_X12_behind_56 : decode prog_14_method_34_code 56 = .ok (.iadd, 1) := by decide +kernel
theorem t_X12_behind_57 : decode prog_14_method_34_code 57 = .ok (.aload_n 0, 1) := by decide +kernel
theorem t_X12_behind_58 : decode prog_14_method_34_code 58 = .ok (.invokevirtual 214, 3) := by decide +kernel
theorem t_X12_behind_61 : decode prog_14_method_34_code 61 = .ok (.irem, 1) := by decide +kernel
theorem t_X12_behind_62 : decode prog_14_method_34_code 62 = .ok (.ireturn, 1) := by decide +kernel
def y_X12_goLap : MethodName := ⟨"SowingBoardsModel", "goLap", "([II)V"⟩
theorem t_X12_goLap_0 : decode prog_14_method_35_code 0 = .ok (.aload_n 1, 1) := by decide +kernel
theorem t_X12_goLap_1 : decode prog_14_method_35_code 1 = .ok (.bipush 14, 2) := by decide +kernel
theorem t_X12_goLap_3 : decode prog_14_method_35_code 3 = .ok (.iaload, 1) := by decide +kernel
theorem t_X12_goLap_4 : decode prog_14_method_35_code 4 = .ok (.istore_n 3, 1) := by decide +kernel
theorem t_X12_goLap_5 : decode prog_14_method_35_code 5 = .ok (.aload_n 1, 1) := by decide +kernel
theorem t_X12_goLap_6 : decode prog_14_method_35_code 6 = .ok (.iload_n 2, 1) := by decide +kernel
theorem t_X12_goLap_7 : decode prog_14_method_35_code 7 = .ok (.iaload, 1) := by decide +kernel
theorem t_X12_goLap_8 : decode prog_14_method_35_code 8 = .ok (.istore 4, 2) := by decide +kernel
theorem t_X12_goLap_10 : decode prog_14_method_35_code 10 = .ok (.aload_n 1, 1) := by decide +kernel
theorem t_X12_goLap_11 : decode prog_14_method_35_code 11 = .ok (.iload_n 2, 1) := by decide +kernel
theorem t_X12_goLap_12 : decode prog_14_method_35_code 12 = .ok (.iconst 0, 1) := by decide +kernel
theorem t_X12_goLap_13 : decode prog_14_method_35_code 13 = .ok (.iastore, 1) := by decide +kernel
theorem t_X12_goLap_14 : decode prog_14_method_35_code 14 = .ok (.aload_n 0, 1) := by decide +kernel
theorem t_X12_goLap_15 : decode prog_14_method_35_code 15 = .ok (.iload_n 2, 1) := by decide +kernel
theorem t_X12_goLap_16 : decode prog_14_method_35_code 16 = .ok (.putfield 233, 3) := by decide +kernel
theorem t_X12_goLap_19 : decode prog_14_method_35_code 19 = .ok (.iload 4, 2) := by decide +kernel
theorem t_X12_goLap_21 : decode prog_14_method_35_code 21 = .ok (.ifCond .le 75, 3) := by decide +kernel
theorem t_X12_goLap_24 : decode prog_14_method_35_code 24 = .ok (.aload_n 0, 1) := by decide +kernel
theorem t_X12_goLap_25 : decode prog_14_method_35_code 25 = .ok (.aload_n 0, 1) := by decide +kernel
theorem t_X12_goLap_26 : decode prog_14_method_35_code 26 = .ok (.aload_n 0, 1) := by decide +kernel
theorem t_X12_goLap_27 : decode prog_14_method_35_code 27 = .ok (.getfield 233, 3) := by decide +kernel
theorem t_X12_goLap_30 : decode prog_14_method_35_code 30 = .ok (.iload_n 3, 1) := by decide +kernel
theorem t_X12_goLap_31 : decode prog_14_method_35_code 31 = .ok (.invokevirtual 236, 3) := by decide +kernel
theorem t_X12_goLap_34 : decode prog_14_method_35_code 34 = .ok (.putfield 233, 3) := by decide +kernel
theorem t_X12_goLap_37 : decode prog_14_method_35_code 37 = .ok (.aload_n 0, 1) := by decide +kernel
theorem t_X12_goLap_38 : decode prog_14_method_35_code 38 = .ok (.getfield 233, 3) := by decide +kernel
theorem t_X12_goLap_41 : decode prog_14_method_35_code 41 = .ok (.iload_n 2, 1) := by decide +kernel
theorem t_X12_goLap_42 : decode prog_14_method_35_code 42 = .ok (.if_icmp .ne 16, 3) := by decide +kernel
theorem t_X12_goLap_45 : decode prog_14_method_35_code 45 = .ok (.aload_n 0, 1) := by decide +kernel
theorem t_X12_goLap_46 : decode prog_14_method_35_code 46 = .ok (.getfield 17, 3) := by decide +kernel
theorem t_X12_goLap_49 : decode prog_14_method_35_code 49 = .ok (.bipush 8, 2) := by decide +kernel
theorem t_X12_goLap_51 : decode prog_14_method_35_code 51 = .ok (.iand, 1) := by decide +kernel
theorem t_X12_goLap_52 : decode prog_14_method_35_code 52 = .ok (.ifCond .eq 6, 3) := by decide +kernel
theorem t_X12_goLap_55 : decode prog_14_method_35_code 55 = .ok (.goto (-36), 3) := by decide +kernel
theorem t_X12_goLap_58 : decode prog_14_method_35_code 58 = .ok (.aload_n 0, 1) := by decide +kernel
theorem t_X12_goLap_59 : decode prog_14_method_35_code 59 = .ok (.getfield 233, 3) := by decide +kernel
theorem t_X12_goLap_62 : decode prog_14_method_35_code 62 = .ok (.bipush 50, 2) := by decide +kernel
theorem t_X12_goLap_64 : decode prog_14_method_35_code 64 = .ok (.if_icmp .ne 16, 3) := by decide +kernel
theorem t_X12_goLap_67 : decode prog_14_method_35_code 67 = .ok (.aload_n 1, 1) := by decide +kernel
theorem t_X12_goLap_68 : decode prog_14_method_35_code 68 = .ok (.bipush 12, 2) := by decide +kernel
theorem t_X12_goLap_70 : decode prog_14_method_35_code 70 = .ok (.iload_n 3, 1) := by decide +kernel
theorem t_X12_goLap_71 : decode prog_14_method_35_code 71 = .ok (.iadd, 1) := by decide +kernel
theorem t_X12_goLap_72 : decode prog_14_method_35_code 72 = .ok (.dup2, 1) := by decide +kernel
theorem t_X12_goLap_73 : decode prog_14_method_35_code 73 = .ok (.iaload, 1) := by decide +kernel
theorem t_X12_goLap_74 : decode prog_14_method_35_code 74 = .ok (.iconst 1, 1) := by decide +kernel
theorem t_X12_goLap_75 : decode prog_14_method_35_code 75 = .ok (.iadd, 1) := by decide +kernel
theorem t_X12_goLap_76 : decode prog_14_method_35_code 76 = .ok (.iastore, 1) := by decide +kernel
theorem t_X12_goLap_77 : decode prog_14_method_35_code 77 = .ok (.goto 13, 3) := by decide +kernel
theorem t_X12_goLap_80 : decode prog_14_method_35_code 80 = .ok (.aload_n 1, 1) := by decide +kernel
theorem t_X12_goLap_81 : decode prog_14_method_35_code 81 = .ok (.aload_n 0, 1) := by decide +kernel
theorem t_X12_goLap_82 : decode prog_14_method_35_code 82 = .ok (.getfield 233, 3) := by decide +kernel
theorem t_X12_goLap_85 : decode prog_14_method_35_code 85 = .ok (.dup2, 1) := by decide +kernel
theorem t_X12_goLap_86 : decode prog_14_method_35_code 86 = .ok (.iaload, 1) := by decide +kernel
theorem t_X12_goLap_87 : decode prog_14_method_35_code 87 = .ok (.iconst 1, 1) := by decide +kernel
theorem t_X12_goLap_88 : decode prog_14_method_35_code 88 = .ok (.iadd, 1) := by decide +kernel
theorem t_X12_goLap_89 : decode prog_14_method_35_code 89 = .ok (.iastore, 1) := by decide +kernel
theorem t_X12_goLap_90 : decode prog_14_method_35_code 90 = .ok (.iinc 4 (-1), 3) := by decide +kernel
theorem t_X12_goLap_93 : decode prog_14_method_35_code 93 = .ok (.goto (-74), 3) := by decide +kernel
theorem t_X12_goLap_96 : decode prog_14_method_35_code 96 = .ok (.aload_n 0, 1) := by decide +kernel
theorem t_X12_goLap_97 : decode prog_14_method_35_code 97 = .ok (.dup, 1) := by decide +kernel
theorem t_X12_goLap_98 : decode prog_14_method_35_code 98 = .ok (.getfield 239, 3) := by decide +kernel
theorem t_X12_goLap_101 : decode prog_14_method_35_code 101 = .ok (.iconst 1, 1) := by decide +kernel
theorem t_X12_goLap_102 : decode prog_14_method_35_code 102 = .ok (.iadd, 1) := by decide +kernel
theorem t_X12_goLap_103 : decode prog_14_method_35_code 103 = .ok (.putfield 239, 3) := by decide +kernel
theorem t_X12_goLap_106 : decode prog_14_method_35_code 106 = .ok (.return_, 1) := by decide +kernel
def y_X12_isOf : MethodName := ⟨"SowingBoardsModel", "isOf", "(II)Z"⟩
theorem t_X12_isOf_0 : decode prog_14_method_36_code 0 = .ok (.iload_n 1, 1) := by decide +kernel
theorem t_X12_isOf_1 : decode prog_14_method_36_code 1 = .ok (.aload_n 0, 1) := by decide +kernel
theorem t_X12_isOf_2 : decode prog_14_method_36_code 2 = .ok (.getfield 13, 3) := by decide +kernel
theorem t_X12_isOf_5 : decode prog_14_method_36_code 5 = .ok (.idiv, 1) := by decide +kernel
theorem t_X12_isOf_6 : decode prog_14_method_36_code 6 = .ok (.iload_n 2, 1) := by decide +kernel
theorem t_X12_isOf_7 : decode prog_14_method_36_code 7 = .ok (.if_icmp .ne 7, 3) := by decide +kernel
theorem t_X12_isOf_10 : decode prog_14_method_36_code 10 = .ok (.iconst 1, 1) := by decide +kernel
theorem t_X12_isOf_11 : decode prog_14_method_36_code 11 = .ok (.goto 4, 3) := by decide +kernel
theorem t_X12_isOf_14 : decode prog_14_method_36_code 14 = .ok (.iconst 0, 1) := by decide +kernel
theorem t_X12_isOf_15 : decode prog_14_method_36_code 15 = .ok (.ireturn, 1) := by decide +kernel
def y_X12_take : MethodName := ⟨"SowingBoardsModel", "take", "([II)V"⟩
theorem t_X12_take_0 : decode prog_14_method_37_code 0 = .ok (.aload_n 1, 1) := by decide +kernel
theorem t_X12_take_1 : decode prog_14_method_37_code 1 = .ok (.bipush 12, 2) := by decide +kernel
theorem t_X12_take_3 : decode prog_14_method_37_code 3 = .ok (.aload_n 1, 1) := by decide +kernel
theorem t_X12_take_4 : decode prog_14_method_37_code 4 = .ok (.bipush 14, 2) := by decide +kernel
theorem t_X12_take_6 : decode prog_14_method_37_code 6 = .ok (.iaload, 1) := by decide +kernel
theorem t_X12_take_7 : decode prog_14_method_37_code 7 = .ok (.iadd, 1) := by decide +kernel
theorem t_X12_take_8 : decode prog_14_method_37_code 8 = .ok (.dup2, 1) := by decide +kernel
theorem t_X12_take_9 : decode prog_14_method_37_code 9 = .ok (.iaload, 1) := by decide +kernel
theorem t_X12_take_10 : decode prog_14_method_37_code 10 = .ok (.aload_n 1, 1) := by decide +kernel
theorem t_X12_take_11 : decode prog_14_method_37_code 11 = .ok (.iload_n 2, 1) := by decide +kernel
theorem t_X12_take_12 : decode prog_14_method_37_code 12 = .ok (.iaload, 1) := by decide +kernel
theorem t_X12_take_13 : decode prog_14_method_37_code 13 = .ok (.iadd, 1) := by decide +kernel
theorem t_X12_take_14 : decode prog_14_method_37_code 14 = .ok (.iastore, 1) := by decide +kernel
theorem t_X12_take_15 : decode prog_14_method_37_code 15 = .ok (.aload_n 1, 1) := by decide +kernel
theorem t_X12_take_16 : decode prog_14_method_37_code 16 = .ok (.iload_n 2, 1) := by decide +kernel
theorem t_X12_take_17 : decode prog_14_method_37_code 17 = .ok (.iconst 0, 1) := by decide +kernel
theorem t_X12_take_18 : decode prog_14_method_37_code 18 = .ok (.iastore, 1) := by decide +kernel
theorem t_X12_take_19 : decode prog_14_method_37_code 19 = .ok (.return_, 1) := by decide +kernel
def y_X12_goMove : MethodName := ⟨"SowingBoardsModel", "goMove", "([II)V"⟩
theorem t_X12_goMove_0 : decode prog_14_method_38_code 0 = .ok (.aload_n 1, 1) := by decide +kernel
theorem t_X12_goMove_1 : decode prog_14_method_38_code 1 = .ok (.bipush 14, 2) := by decide +kernel
theorem t_X12_goMove_3 : decode prog_14_method_38_code 3 = .ok (.iaload, 1) := by decide +kernel
theorem t_X12_goMove_4 : decode prog_14_method_38_code 4 = .ok (.istore_n 3, 1) := by decide +kernel
theorem t_X12_goMove_5 : decode prog_14_method_38_code 5 = .ok (.aload_n 1, 1) := by decide +kernel
theorem t_X12_goMove_6 : decode prog_14_method_38_code 6 = .ok (.bipush 12, 2) := by decide +kernel
theorem t_X12_goMove_8 : decode prog_14_method_38_code 8 = .ok (.iload_n 3, 1) := by decide +kernel
theorem t_X12_goMove_9 : decode prog_14_method_38_code 9 = .ok (.iadd, 1) := by decide +kernel
theorem t_X12_goMove_10 : decode prog_14_method_38_code 10 = .ok (.iaload, 1) := by decide +kernel
theorem t_X12_goMove_11 : decode prog_14_method_38_code 11 = .ok (.istore 4, 2) := by decide +kernel
theorem t_X12_goMove_13 : decode prog_14_method_38_code 13 = .ok (.aload_n 0, 1) := by decide +kernel
theorem t_X12_goMove_14 : decode prog_14_method_38_code 14 = .ok (.iconst 0, 1) := by decide +kernel
theorem t_X12_goMove_15 : decode prog_14_method_38_code 15 = .ok (.putfield 239, 3) := by decide +kernel
theorem t_X12_goMove_18 : decode prog_14_method_38_code 18 = .ok (.aload_n 0, 1) := by decide +kernel
theorem t_X12_goMove_19 : decode prog_14_method_38_code 19 = .ok (.aload_n 1, 1) := by decide +kernel
theorem t_X12_goMove_20 : decode prog_14_method_38_code 20 = .ok (.aload_n 0, 1) := by decide +kernel
theorem t_X12_goMove_21 : decode prog_14_method_38_code 21 = .ok (.getfield 13, 3) := by decide +kernel
theorem t_X12_goMove_24 : decode prog_14_method_38_code 24 = .ok (.iload_n 3, 1) := by decide +kernel
theorem t_X12_goMove_25 : decode prog_14_method_38_code 25 = .ok (.imul, 1) := by decide +kernel
theorem t_X12_goMove_26 : decode prog_14_method_38_code 26 = .ok (.iload_n 2, 1) := by decide +kernel
theorem t_X12_goMove_27 : decode prog_14_method_38_code 27 = .ok (.iadd, 1) := by decide +kernel
theorem t_X12_goMove_28 : decode prog_14_method_38_code 28 = .ok (.invokevirtual 242, 3) := by decide +kernel
theorem t_X12_goMove_31 : decode prog_14_method_38_code 31 = .ok (.aload_n 0, 1) := by decide +kernel
theorem t_X12_goMove_32 : decode prog_14_method_38_code 32 = .ok (.getfield 17, 3) := by decide +kernel
theorem t_X12_goMove_35 : decode prog_14_method_38_code 35 = .ok (.iconst 2, 1) := by decide +kernel
theorem t_X12_goMove_36 : decode prog_14_method_38_code 36 = .ok (.iand, 1) := by decide +kernel
theorem t_X12_goMove_37 : decode prog_14_method_38_code 37 = .ok (.ifCond .eq 43, 3) := by decide +kernel
theorem t_X12_goMove_40 : decode prog_14_method_38_code 40 = .ok (.aload_n 0, 1) := by decide +kernel
theorem t_X12_goMove_41 : decode prog_14_method_38_code 41 = .ok (.getfield 233, 3) := by decide +kernel
theorem t_X12_goMove_44 : decode prog_14_method_38_code 44 = .ok (.bipush 50, 2) := by decide +kernel
theorem t_X12_goMove_46 : decode prog_14_method_38_code 46 = .ok (.if_icmp .eq 34, 3) := by decide +kernel
theorem t_X12_goMove_49 : decode prog_14_method_38_code 49 = .ok (.aload_n 1, 1) := by decide +kernel
theorem t_X12_goMove_50 : decode prog_14_method_38_code 50 = .ok (.aload_n 0, 1) := by decide +kernel
theorem t_X12_goMove_51 : decode prog_14_method_38_code 51 = .ok (.getfield 233, 3) := by decide +kernel
theorem t_X12_goMove_54 : decode prog_14_method_38_code 54 = .ok (.iaload, 1) := by decide +kernel
theorem t_X12_goMove_55 : decode prog_14_method_38_code 55 = .ok (.iconst 1, 1) := by decide +kernel
theorem t_X12_goMove_56 : decode prog_14_method_38_code 56 = .ok (.if_icmp .le 24, 3) := by decide +kernel
theorem t_X12_goMove_59 : decode prog_14_method_38_code 59 = .ok (.aload_n 0, 1) := by decide +kernel
theorem t_X12_goMove_60 : decode prog_14_method_38_code 60 = .ok (.getfield 239, 3) := by decide +kernel
theorem t_X12_goMove_63 : decode prog_14_method_38_code 63 = .ok (.bipush 50, 2) := by decide +kernel
theorem t_X12_goMove_65 : decode prog_14_method_38_code 65 = .ok (.if_icmp .ge 15, 3) := by decide +kernel
theorem t_X12_goMove_68 : decode prog_14_method_38_code 68 = .ok (.aload_n 0, 1) := by decide +kernel
theorem t_X12_goMove_69 : decode prog_14_method_38_code 69 = .ok (.aload_n 1, 1) := by decide +kernel
theorem t_X12_goMove_70 : decode prog_14_method_38_code 70 = .ok (.aload_n 0, 1) := by decide +kernel
theorem t_X12_goMove_71 : decode prog_14_method_38_code 71 = .ok (.getfield 233, 3) := by decide +kernel
theorem t_X12_goMove_74 : decode prog_14_method_38_code 74 = .ok (.invokevirtual 242, 3) := by decide +kernel
theorem t_X12_goMove_77 : decode prog_14_method_38_code 77 = .ok (.goto (-46), 3) := by decide +kernel
theorem t_X12_goMove_80 : decode prog_14_method_38_code 80 = .ok (.aload_n 0, 1) := by decide +kernel
theorem t_X12_goMove_81 : decode prog_14_method_38_code 81 = .ok (.getfield 233, 3) := by decide +kernel
theorem t_X12_goMove_84 : decode prog_14_method_38_code 84 = .ok (.bipush 50, 2) := by decide +kernel
theorem t_X12_goMove_86 : decode prog_14_method_38_code 86 = .ok (.if_icmp .ne 7, 3) := by decide +kernel
theorem t_X12_goMove_89 : decode prog_14_method_38_code 89 = .ok (.iconst 1, 1) := by decide +kernel
theorem t_X12_goMove_90 : decode prog_14_method_38_code 90 = .ok (.goto 4, 3) := by decide +kernel
theorem t_X12_goMove_93 : decode prog_14_method_38_code 93 = .ok (.iconst 0, 1) := by decide +kernel
theorem t_X12_goMove_94 : decode prog_14_method_38_code 94 = .ok (.istore 5, 2) := by decide +kernel
theorem t_X12_goMove_96 : decode prog_14_method_38_code 96 = .ok (.iload 5, 2) := by decide +kernel
theorem t_X12_goMove_98 : decode prog_14_method_38_code 98 = .ok (.ifCond .ne 75, 3) := by decide +kernel
theorem t_X12_goMove_101 : decode prog_14_method_38_code 101 = .ok (.aload_n 0, 1) := by decide +kernel
theorem t_X12_goMove_102 : decode prog_14_method_38_code 102 = .ok (.getfield 17, 3) := by decide +kernel
theorem t_X12_goMove_105 : decode prog_14_method_38_code 105 = .ok (.iconst 4, 1) := by decide +kernel
theorem t_X12_goMove_106 : decode prog_14_method_38_code 106 = .ok (.iand, 1) := by decide +kernel
theorem t_X12_goMove_107 : decode prog_14_method_38_code 107 = .ok (.ifCond .eq 66, 3) := by decide +kernel
theorem t_X12_goMove_110 : decode prog_14_method_38_code 110 = .ok (.aload_n 0, 1) := by decide +kernel
theorem t_X12_goMove_111 : decode prog_14_method_38_code 111 = .ok (.aload_n 0, 1) := by decide +kernel
theorem t_X12_goMove_112 : decode prog_14_method_38_code 112 = .ok (.getfield 233, 3) := by decide +kernel
theorem t_X12_goMove_115 : decode prog_14_method_38_code 115 = .ok (.iload_n 3, 1) := by decide +kernel
theorem t_X12_goMove_116 : decode prog_14_method_38_code 116 = .ok (.invokevirtual 246, 3) := by decide +kernel
theorem t_X12_goMove_119 : decode prog_14_method_38_code 119 = .ok (.ifCond .eq 54, 3) := by decide +kernel
theorem t_X12_goMove_122 : decode prog_14_method_38_code 122 = .ok (.aload_n 1, 1) := by decide +kernel
theorem t_X12_goMove_123 : decode prog_14_method_38_code 123 = .ok (.aload_n 0, 1) := by decide +kernel
theorem t_X12_goMove_124 : decode prog_14_method_38_code 124 = .ok (.getfield 233, 3) := by decide +kernel
theorem t_X12_goMove_127 : decode prog_14_method_38_code 127 = .ok (.iaload, 1) := by decide +kernel
theorem t_X12_goMove_128 : decode prog_14_method_38_code 128 = .ok (.iconst 1, 1) := by decide +kernel
theorem t_X12_goMove_129 : decode prog_14_method_38_code 129 = .ok (.if_icmp .ne 44, 3) := by decide +kernel
theorem t_X12_goMove_132 : decode prog_14_method_38_code 132 = .ok (.aload_n 1, 1) := by decide +kernel
theorem t_X12_goMove_133 : decode prog_14_method_38_code 133 = .ok (.aload_n 0, 1) := by decide +kernel
theorem t_X12_goMove_134 : decode prog_14_method_38_code 134 = .ok (.invokevirtual 214, 3) := by decide +kernel
theorem t_X12_goMove_137 : decode prog_14_method_38_code 137 = .ok (.iconst 1, 1) := by decide +kernel
theorem t_X12_goMove_138 : decode prog_14_method_38_code 138 = .ok (.isub, 1) := by decide +kernel
theorem t_X12_goMove_139 : decode prog_14_method_38_code 139 = .ok (.aload_n 0, 1) := by decide +kernel
theorem t_X12_goMove_140 : decode prog_14_method_38_code 140 = .ok (.getfield 233, 3) := by decide +kernel
theorem t_X12_goMove_143 : decode prog_14_method_38_code 143 = .ok (.isub, 1) := by decide +kernel
theorem t_X12_goMove_144 : decode prog_14_method_38_code 144 = .ok (.iaload, 1) := by decide +kernel
theorem t_X12_goMove_145 : decode prog_14_method_38_code 145 = .ok (.ifCond .le 28, 3) := by decide +kernel
theorem t_X12_goMove_148 : decode prog_14_method_38_code 148 = .ok (.aload_n 0, 1) := by decide +kernel
theorem t_X12_goMove_149 : decode prog_14_method_38_code 149 = .ok (.aload_n 1, 1) := by decide +kernel
theorem t_X12_goMove_150 : decode prog_14_method_38_code 150 = .ok (.aload_n 0, 1) := by decide +kernel
theorem t_X12_goMove_151 : decode prog_14_method_38_code 151 = .ok (.getfield 233, 3) := by decide +kernel
theorem t_X12_goMove_154 : decode prog_14_method_38_code 154 = .ok (.invokevirtual 250, 3) := by decide +kernel
theorem t_X12_goMove_157 : decode prog_14_method_38_code 157 = .ok (.aload_n 0, 1) := by decide +kernel
theorem t_X12_goMove_158 : decode prog_14_method_38_code 158 = .ok (.aload_n 1, 1) := by decide +kernel
theorem t_X12_goMove_159 : decode prog_14_method_38_code 159 = .ok (.aload_n 0, 1) := by decide +kernel
theorem t_X12_goMove_160 : decode prog_14_method_38_code 160 = .ok (.invokevirtual 214, 3) := by decide +kernel
theorem t_X12_goMove_163 : decode prog_14_method_38_code 163 = .ok (.iconst 1, 1) := by decide +kernel
theorem t_X12_goMove_164 : decode prog_14_method_38_code 164 = .ok (.isub, 1) := by decide +kernel
theorem t_X12_goMove_165 : decode prog_14_method_38_code 165 = .ok (.aload_n 0, 1) := by decide +kernel
theorem t_X12_goMove_166 : decode prog_14_method_38_code 166 = .ok (.getfield 233, 3) := by decide +kernel
theorem t_X12_goMove_169 : decode prog_14_method_38_code 169 = .ok (.isub, 1) := by decide +kernel
theorem t_X12_goMove_170 : decode prog_14_method_38_code 170 = .ok (.invokevirtual 250, 3) := by decide +kernel
theorem t_X12_goMove_173 : decode prog_14_method_38_code 173 = .ok (.iload 5, 2) := by decide +kernel
theorem t_X12_goMove_175 : decode prog_14_method_38_code 175 = .ok (.ifCond .ne 59, 3) := by decide +kernel
theorem t_X12_goMove_178 : decode prog_14_method_38_code 178 = .ok (.aload_n 0, 1) := by decide +kernel
theorem t_X12_goMove_179 : decode prog_14_method_38_code 179 = .ok (.getfield 17, 3) := by decide +kernel
theorem t_X12_goMove_182 : decode prog_14_method_38_code 182 = .ok (.bipush 32, 2) := by decide +kernel
theorem t_X12_goMove_184 : decode prog_14_method_38_code 184 = .ok (.iand, 1) := by decide +kernel
theorem t_X12_goMove_185 : decode prog_14_method_38_code 185 = .ok (.ifCond .eq 49, 3) := by decide +kernel
theorem t_X12_goMove_188 : decode prog_14_method_38_code 188 = .ok (.aload_n 0, 1) := by decide +kernel
theorem t_X12_goMove_189 : decode prog_14_method_38_code 189 = .ok (.getfield 233, 3) := by decide +kernel
theorem t_X12_goMove_192 : decode prog_14_method_38_code 192 = .ok (.istore 6, 2) := by decide +kernel
theorem t_X12_goMove_194 : decode prog_14_method_38_code 194 = .ok (.iload 6, 2) := by decide +kernel
theorem t_X12_goMove_196 : decode prog_14_method_38_code 196 = .ok (.ifCond .lt 38, 3) := by decide +kernel
theorem t_X12_goMove_199 : decode prog_14_method_38_code 199 = .ok (.aload_n 0, 1) := by decide +kernel
theorem t_X12_goMove_200 : decode prog_14_method_38_code 200 = .ok (.iload 6, 2) := by decide +kernel
theorem t_X12_goMove_202 : decode prog_14_method_38_code 202 = .ok (.iload_n 3, 1) := by decide +kernel
theorem t_X12_goMove_203 : decode prog_14_method_38_code 203 = .ok (.invokevirtual 246, 3) := by decide +kernel
theorem t_X12_goMove_206 : decode prog_14_method_38_code 206 = .ok (.ifCond .ne 28, 3) := by decide +kernel
theorem t_X12_goMove_209 : decode prog_14_method_38_code 209 = .ok (.aload_n 1, 1) := by decide +kernel
theorem t_X12_goMove_210 : decode prog_14_method_38_code 210 = .ok (.iload 6, 2) := by decide +kernel
theorem t_X12_goMove_212 : decode prog_14_method_38_code 212 = .ok (.iaload, 1) := by decide +kernel
theorem t_X12_goMove_213 : decode prog_14_method_38_code 213 = .ok (.iconst 2, 1) := by decide +kernel
theorem t_X12_goMove_214 : decode prog_14_method_38_code 214 = .ok (.iconst 3, 1) := by decide +kernel
theorem t_X12_goMove_215 : decode prog_14_method_38_code 215 = .ok (.invokestatic 118, 3) := by decide +kernel
theorem t_X12_goMove_218 : decode prog_14_method_38_code 218 = .ok (.ifCond .eq 16, 3) := by decide +kernel
theorem t_X12_goMove_221 : decode prog_14_method_38_code 221 = .ok (.aload_n 0, 1) := by decide +kernel
theorem t_X12_goMove_222 : decode prog_14_method_38_code 222 = .ok (.aload_n 1, 1) := by decide +kernel
theorem t_X12_goMove_223 : decode prog_14_method_38_code 223 = .ok (.iload 6, 2) := by decide +kernel
theorem t_X12_goMove_225 : decode prog_14_method_38_code 225 = .ok (.invokevirtual 250, 3) := by decide +kernel
theorem t_X12_goMove_228 : decode prog_14_method_38_code 228 = .ok (.iinc 6 (-1), 3) := by decide +kernel
theorem t_X12_goMove_231 : decode prog_14_method_38_code 231 = .ok (.goto (-37), 3) := by decide +kernel
theorem t_X12_goMove_234 : decode prog_14_method_38_code 234 = .ok (.aload_n 0, 1) := by decide +kernel
theorem t_X12_goMove_235 : decode prog_14_method_38_code 235 = .ok (.aload_n 1, 1) := by decide +kernel
theorem t_X12_goMove_236 : decode prog_14_method_38_code 236 = .ok (.bipush 12, 2) := by decide +kernel
theorem t_X12_goMove_238 : decode prog_14_method_38_code 238 = .ok (.iload_n 3, 1) := by decide +kernel
theorem t_X12_goMove_239 : decode prog_14_method_38_code 239 = .ok (.iadd, 1) := by decide +kernel
theorem t_X12_goMove_240 : decode prog_14_method_38_code 240 = .ok (.iaload, 1) := by decide +kernel
theorem t_X12_goMove_241 : decode prog_14_method_38_code 241 = .ok (.iload 4, 2) := by decide +kernel
theorem t_X12_goMove_243 : decode prog_14_method_38_code 243 = .ok (.isub, 1) := by decide +kernel
theorem t_X12_goMove_244 : decode prog_14_method_38_code 244 = .ok (.putfield 253, 3) := by decide +kernel
theorem t_X12_goMove_247 : decode prog_14_method_38_code 247 = .ok (.iload 5, 2) := by decide +kernel
theorem t_X12_goMove_249 : decode prog_14_method_38_code 249 = .ok (.ifCond .eq 13, 3) := by decide +kernel
theorem t_X12_goMove_252 : decode prog_14_method_38_code 252 = .ok (.aload_n 0, 1) := by decide +kernel
theorem t_X12_goMove_253 : decode prog_14_method_38_code 253 = .ok (.getfield 17, 3) := by decide +kernel
theorem t_X12_goMove_256 : decode prog_14_method_38_code 256 = .ok (.bipush 16, 2) := by decide +kernel
theorem t_X12_goMove_258 : decode prog_14_method_38_code 258 = .ok (.iand, 1) := by decide +kernel
theorem t_X12_goMove_259 : decode prog_14_method_38_code 259 = .ok (.ifCond .ne 10, 3) := by decide +kernel
theorem t_X12_goMove_262 : decode prog_14_method_38_code 262 = .ok (.aload_n 1, 1) := by decide +kernel
theorem t_X12_goMove_263 : decode prog_14_method_38_code 263 = .ok (.bipush 14, 2) := by decide +kernel
theorem t_X12_goMove_265 : decode prog_14_method_38_code 265 = .ok (.iconst 1, 1) := by decide +kernel
theorem t_X12_goMove_266 : decode prog_14_method_38_code 266 = .ok (.iload_n 3, 1) := by decide +kernel
theorem t_X12_goMove_267 : decode prog_14_method_38_code 267 = .ok (.isub, 1) := by decide +kernel
theorem t_X12_goMove_268 : decode prog_14_method_38_code 268 = .ok (.iastore, 1) := by decide +kernel
theorem t_X12_goMove_269 : decode prog_14_method_38_code 269 = .ok (.aload_n 1, 1) := by decide +kernel
theorem t_X12_goMove_270 : decode prog_14_method_38_code 270 = .ok (.bipush 15, 2) := by decide +kernel
theorem t_X12_goMove_272 : decode prog_14_method_38_code 272 = .ok (.dup2, 1) := by decide +kernel
theorem t_X12_goMove_273 : decode prog_14_method_38_code 273 = .ok (.iaload, 1) := by decide +kernel
theorem t_X12_goMove_274 : decode prog_14_method_38_code 274 = .ok (.iconst 1, 1) := by decide +kernel
theorem t_X12_goMove_275 : decode prog_14_method_38_code 275 = .ok (.iadd, 1) := by decide +kernel
theorem t_X12_goMove_276 : decode prog_14_method_38_code 276 = .ok (.iastore, 1) := by decide +kernel
theorem t_X12_goMove_277 : decode prog_14_method_38_code 277 = .ok (.return_, 1) := by decide +kernel
def y_X12_isOver : MethodName := ⟨"SowingBoardsModel", "isOver", "([I)Z"⟩
theorem t_X12_isOver_0 : decode prog_14_method_39_code 0 = .ok (.aload_n 0, 1) := by decide +kernel
theorem t_X12_isOver_1 : decode prog_14_method_39_code 1 = .ok (.aload_n 1, 1) := by decide +kernel
theorem t_X12_isOver_2 : decode prog_14_method_39_code 2 = .ok (.aload_n 0, 1) := by decide +kernel
theorem t_X12_isOver_3 : decode prog_14_method_39_code 3 = .ok (.getfield 13, 3) := by decide +kernel
theorem t_X12_isOver_6 : decode prog_14_method_39_code 6 = .ok (.aload_n 1, 1) := by decide +kernel
theorem t_X12_isOver_7 : decode prog_14_method_39_code 7 = .ok (.bipush 14, 2) := by decide +kernel
theorem t_X12_isOver_9 : decode prog_14_method_39_code 9 = .ok (.iaload, 1) := by decide +kernel
theorem t_X12_isOver_10 : decode prog_14_method_39_code 10 = .ok (.imul, 1) := by decide +kernel
theorem t_X12_isOver_11 : decode prog_14_method_39_code 11 = .ok (.aload_n 0, 1) := by decide +kernel
theorem t_X12_isOver_12 : decode prog_14_method_39_code 12 = .ok (.getfield 13, 3) := by decide +kernel
theorem t_X12_isOver_15 : decode prog_14_method_39_code 15 = .ok (.invokevirtual 229, 3) := by decide +kernel
theorem t_X12_isOver_18 : decode prog_14_method_39_code 18 = .ok (.ifCond .ne 7, 3) := by decide +kernel
theorem t_X12_isOver_21 : decode prog_14_method_39_code 21 = .ok (.iconst 1, 1) := by decide +kernel
theorem t_X12_isOver_22 : decode prog_14_method_39_code 22 = .ok (.goto 4, 3) := by decide +kernel
theorem t_X12_isOver_25 : decode prog_14_method_39_code 25 = .ok (.iconst 0, 1) := by decide +kernel
theorem t_X12_isOver_26 : decode prog_14_method_39_code 26 = .ok (.ireturn, 1) := by decide +kernel
def y_X12_refuses : MethodName := ⟨"SowingBoardsModel", "refuses", "([II)I"⟩
theorem t_X12_refuses_0 : decode prog_14_method_40_code 0 = .ok (.iload_n 2, 1) := by decide +kernel
theorem t_X12_refuses_1 : decode prog_14_method_40_code 1 = .ok (.iconst 0, 1) := by decide +kernel
theorem t_X12_refuses_2 : decode prog_14_method_40_code 2 = .ok (.aload_n 0, 1) := by decide +kernel
theorem t_X12_refuses_3 : decode prog_14_method_40_code 3 = .ok (.getfield 13, 3) := by decide +kernel
theorem t_X12_refuses_6 : decode prog_14_method_40_code 6 = .ok (.iconst 1, 1) := by decide +kernel
theorem t_X12_refuses_7 : decode prog_14_method_40_code 7 = .ok (.isub, 1) := by decide +kernel
theorem t_X12_refuses_8 : decode prog_14_method_40_code 8 = .ok (.invokestatic 118, 3) := by decide +kernel
theorem t_X12_refuses_11 : decode prog_14_method_40_code 11 = .ok (.ifCond .ne 5, 3) := by decide +kernel
theorem t_X12_refuses_14 : decode prog_14_method_40_code 14 = .ok (.iconst (-1), 1) := by decide +kernel
theorem t_X12_refuses_15 : decode prog_14_method_40_code 15 = .ok (.ireturn, 1) := by decide +kernel
theorem t_X12_refuses_16 : decode prog_14_method_40_code 16 = .ok (.aload_n 1, 1) := by decide +kernel
theorem t_X12_refuses_17 : decode prog_14_method_40_code 17 = .ok (.aload_n 0, 1) := by decide +kernel
theorem t_X12_refuses_18 : decode prog_14_method_40_code 18 = .ok (.getfield 13, 3) := by decide +kernel
theorem t_X12_refuses_21 : decode prog_14_method_40_code 21 = .ok (.aload_n 1, 1) := by decide +kernel
theorem t_X12_refuses_22 : decode prog_14_method_40_code 22 = .ok (.bipush 14, 2) := by decide +kernel
theorem t_X12_refuses_24 : decode prog_14_method_40_code 24 = .ok (.iaload, 1) := by decide +kernel
theorem t_X12_refuses_25 : decode prog_14_method_40_code 25 = .ok (.imul, 1) := by decide +kernel
theorem t_X12_refuses_26 : decode prog_14_method_40_code 26 = .ok (.iload_n 2, 1) := by decide +kernel
theorem t_X12_refuses_27 : decode prog_14_method_40_code 27 = .ok (.iadd, 1) := by decide +kernel
theorem t_X12_refuses_28 : decode prog_14_method_40_code 28 = .ok (.iaload, 1) := by decide +kernel
theorem t_X12_refuses_29 : decode prog_14_method_40_code 29 = .ok (.ifCond .ne 8, 3) := by decide +kernel
theorem t_X12_refuses_32 : decode prog_14_method_40_code 32 = .ok (.bipush (-2), 2) := by decide +kernel
theorem t_X12_refuses_34 : decode prog_14_method_40_code 34 = .ok (.goto 4, 3) := by decide +kernel
theorem t_X12_refuses_37 : decode prog_14_method_40_code 37 = .ok (.iconst 0, 1) := by decide +kernel
theorem t_X12_refuses_38 : decode prog_14_method_40_code 38 = .ok (.ireturn, 1) := by decide +kernel
def y_X12_lay : MethodName := ⟨"SowingBoardsModel", "lay", "([I[II)V"⟩
theorem t_X12_lay_0 : decode prog_14_method_41_code 0 = .ok (.iconst 0, 1) := by decide +kernel
theorem t_X12_lay_1 : decode prog_14_method_41_code 1 = .ok (.istore_n 3, 1) := by decide +kernel
theorem t_X12_lay_2 : decode prog_14_method_41_code 2 = .ok (.iload_n 3, 1) := by decide +kernel
theorem t_X12_lay_3 : decode prog_14_method_41_code 3 = .ok (.bipush 16, 2) := by decide +kernel
theorem t_X12_lay_5 : decode prog_14_method_41_code 5 = .ok (.if_icmp .ge 17, 3) := by decide +kernel
theorem t_X12_lay_8 : decode prog_14_method_41_code 8 = .ok (.aload_n 1, 1) := by decide +kernel
theorem t_X12_lay_9 : decode prog_14_method_41_code 9 = .ok (.iload_n 2, 1) := by decide +kernel
theorem t_X12_lay_10 : decode prog_14_method_41_code 10 = .ok (.iload_n 3, 1) := by decide +kernel
theorem t_X12_lay_11 : decode prog_14_method_41_code 11 = .ok (.iadd, 1) := by decide +kernel
theorem t_X12_lay_12 : decode prog_14_method_41_code 12 = .ok (.aload_n 0, 1) := by decide +kernel
theorem t_X12_lay_13 : decode prog_14_method_41_code 13 = .ok (.iload_n 3, 1) := by decide +kernel
theorem t_X12_lay_14 : decode prog_14_method_41_code 14 = .ok (.iaload, 1) := by decide +kernel
theorem t_X12_lay_15 : decode prog_14_method_41_code 15 = .ok (.iastore, 1) := by decide +kernel
theorem t_X12_lay_16 : decode prog_14_method_41_code 16 = .ok (.iinc 3 1, 3) := by decide +kernel
theorem t_X12_lay_19 : decode prog_14_method_41_code 19 = .ok (.goto (-17), 3) := by decide +kernel
theorem t_X12_lay_22 : decode prog_14_method_41_code 22 = .ok (.return_, 1) := by decide +kernel
def y_X12_remember : MethodName := ⟨"SowingBoardsModel", "remember", "([I)V"⟩
theorem t_X12_remember_0 : decode prog_14_method_42_code 0 = .ok (.aload_n 0, 1) := by decide +kernel
theorem t_X12_remember_1 : decode prog_14_method_42_code 1 = .ok (.getfield 167, 3) := by decide +kernel
theorem t_X12_remember_4 : decode prog_14_method_42_code 4 = .ok (.bipush 12, 2) := by decide +kernel
theorem t_X12_remember_6 : decode prog_14_method_42_code 6 = .ok (.if_icmp .ne 43, 3) := by decide +kernel
theorem t_X12_remember_9 : decode prog_14_method_42_code 9 = .ok (.iconst 0, 1) := by decide +kernel
theorem t_X12_remember_10 : decode prog_14_method_42_code 10 = .ok (.istore_n 2, 1) := by decide +kernel
theorem t_X12_remember_11 : decode prog_14_method_42_code 11 = .ok (.iload_n 2, 1) := by decide +kernel
theorem t_X12_remember_12 : decode prog_14_method_42_code 12 = .ok (.sipush 176, 3) := by decide +kernel
theorem t_X12_remember_15 : decode prog_14_method_42_code 15 = .ok (.if_icmp .ge 24, 3) := by decide +kernel
theorem t_X12_remember_18 : decode prog_14_method_42_code 18 = .ok (.aload_n 0, 1) := by decide +kernel
theorem t_X12_remember_19 : decode prog_14_method_42_code 19 = .ok (.getfield 40, 3) := by decide +kernel
theorem t_X12_remember_22 : decode prog_14_method_42_code 22 = .ok (.iload_n 2, 1) := by decide +kernel
theorem t_X12_remember_23 : decode prog_14_method_42_code 23 = .ok (.aload_n 0, 1) := by decide +kernel
theorem t_X12_remember_24 : decode prog_14_method_42_code 24 = .ok (.getfield 40, 3) := by decide +kernel
theorem t_X12_remember_27 : decode prog_14_method_42_code 27 = .ok (.iload_n 2, 1) := by decide +kernel
theorem t_X12_remember_28 : decode prog_14_method_42_code 28 = .ok (.bipush 16, 2) := by decide +kernel
theorem t_X12_remember_30 : decode prog_14_method_42_code 30 = .ok (.iadd, 1) := by decide +kernel
theorem t_X12_remember_31 : decode prog_14_method_42_code 31 = .ok (.iaload, 1) := by decide +kernel
theorem t_X12_remember_32 : decode prog_14_method_42_code 32 = .ok (.iastore, 1) := by decide +kernel
theorem t_X12_remember_33 : decode prog_14_method_42_code 33 = .ok (.iinc 2 1, 3) := by decide +kernel
theorem t_X12_remember_36 : decode prog_14_method_42_code 36 = .ok (.goto (-25), 3) := by decide +kernel
theorem t_X12_remember_39 : decode prog_14_method_42_code 39 = .ok (.aload_n 0, 1) := by decide +kernel
theorem t_X12_remember_40 : decode prog_14_method_42_code 40 = .ok (.dup, 1) := by decide +kernel
theorem t_X12_remember_41 : decode prog_14_method_42_code 41 = .ok (.getfield 167, 3) := by decide +kernel
theorem t_X12_remember_44 : decode prog_14_method_42_code 44 = .ok (.iconst 1, 1) := by decide +kernel
theorem t_X12_remember_45 : decode prog_14_method_42_code 45 = .ok (.isub, 1) := by decide +kernel
theorem t_X12_remember_46 : decode prog_14_method_42_code 46 = .ok (.putfield 167, 3) := by decide +kernel
theorem t_X12_remember_49 : decode prog_14_method_42_code 49 = .ok (.aload_n 1, 1) := by decide +kernel
theorem t_X12_remember_50 : decode prog_14_method_42_code 50 = .ok (.aload_n 0, 1) := by decide +kernel
theorem t_X12_remember_51 : decode prog_14_method_42_code 51 = .ok (.getfield 40, 3) := by decide +kernel
theorem t_X12_remember_54 : decode prog_14_method_42_code 54 = .ok (.bipush 16, 2) := by decide +kernel
theorem t_X12_remember_56 : decode prog_14_method_42_code 56 = .ok (.aload_n 0, 1) := by decide +kernel
theorem t_X12_remember_57 : decode prog_14_method_42_code 57 = .ok (.getfield 167, 3) := by decide +kernel
theorem t_X12_remember_60 : decode prog_14_method_42_code 60 = .ok (.imul, 1) := by decide +kernel
theorem t_X12_remember_61 : decode prog_14_method_42_code 61 = .ok (.invokestatic 256, 3) := by decide +kernel
theorem t_X12_remember_64 : decode prog_14_method_42_code 64 = .ok (.aload_n 0, 1) := by decide +kernel
theorem t_X12_remember_65 : decode prog_14_method_42_code 65 = .ok (.dup, 1) := by decide +kernel
theorem t_X12_remember_66 : decode prog_14_method_42_code 66 = .ok (.getfield 167, 3) := by decide +kernel
theorem t_X12_remember_69 : decode prog_14_method_42_code 69 = .ok (.iconst 1, 1) := by decide +kernel
theorem t_X12_remember_70 : decode prog_14_method_42_code 70 = .ok (.iadd, 1) := by decide +kernel
theorem t_X12_remember_71 : decode prog_14_method_42_code 71 = .ok (.putfield 167, 3) := by decide +kernel
theorem t_X12_remember_74 : decode prog_14_method_42_code 74 = .ok (.return_, 1) := by decide +kernel
def y_X12_tellMove : MethodName := ⟨"SowingBoardsModel", "tellMove", "([I)I"⟩
theorem t_X12_tellMove_0 : decode prog_14_method_43_code 0 = .ok (.aload_n 0, 1) := by decide +kernel
theorem t_X12_tellMove_1 : decode prog_14_method_43_code 1 = .ok (.iconst 0, 1) := by decide +kernel
theorem t_X12_tellMove_2 : decode prog_14_method_43_code 2 = .ok (.putfield 112, 3) := by decide +kernel
theorem t_X12_tellMove_5 : decode prog_14_method_43_code 5 = .ok (.aload_n 0, 1) := by decide +kernel
theorem t_X12_tellMove_6 : decode prog_14_method_43_code 6 = .ok (.aload_n 0, 1) := by decide +kernel
theorem t_X12_tellMove_7 : decode prog_14_method_43_code 7 = .ok (.getfield 239, 3) := by decide +kernel
theorem t_X12_tellMove_10 : decode prog_14_method_43_code 10 = .ok (.i2l, 1) := by decide +kernel
theorem t_X12_tellMove_11 : decode prog_14_method_43_code 11 = .ok (.invokevirtual 260, 3) := by decide +kernel
theorem t_X12_tellMove_14 : decode prog_14_method_43_code 14 = .ok (.aload_n 0, 1) := by decide +kernel
theorem t_X12_tellMove_15 : decode prog_14_method_43_code 15 = .ok (.aload_n 0, 1) := by decide +kernel
theorem t_X12_tellMove_16 : decode prog_14_method_43_code 16 = .ok (.getfield 233, 3) := by decide +kernel
theorem t_X12_tellMove_19 : decode prog_14_method_43_code 19 = .ok (.i2l, 1) := by decide +kernel
theorem t_X12_tellMove_20 : decode prog_14_method_43_code 20 = .ok (.invokevirtual 260, 3) := by decide +kernel
theorem t_X12_tellMove_23 : decode prog_14_method_43_code 23 = .ok (.aload_n 0, 1) := by decide +kernel
theorem t_X12_tellMove_24 : decode prog_14_method_43_code 24 = .ok (.aload_n 1, 1) := by decide +kernel
theorem t_X12_tellMove_25 : decode prog_14_method_43_code 25 = .ok (.bipush 14, 2) := by decide +kernel
theorem t_X12_tellMove_27 : decode prog_14_method_43_code 27 = .ok (.iaload, 1) := by decide +kernel
theorem t_X12_tellMove_28 : decode prog_14_method_43_code 28 = .ok (.i2l, 1) := by decide +kernel
theorem t_X12_tellMove_29 : decode prog_14_method_43_code 29 = .ok (.invokevirtual 260, 3) := by decide +kernel
theorem t_X12_tellMove_32 : decode prog_14_method_43_code 32 = .ok (.aload_n 0, 1) := by decide +kernel
theorem t_X12_tellMove_33 : decode prog_14_method_43_code 33 = .ok (.getfield 253, 3) := by decide +kernel
theorem t_X12_tellMove_36 : decode prog_14_method_43_code 36 = .ok (.ireturn, 1) := by decide +kernel
def y_X12_moves : MethodName := ⟨"SowingBoardsModel", "moves", "(I)I"⟩
theorem t_X12_moves_0 : decode prog_14_method_44_code 0 = .ok (.aload_n 0, 1) := by decide +kernel
theorem t_X12_moves_1 : decode prog_14_method_44_code 1 = .ok (.iconst 0, 1) := by decide +kernel
theorem t_X12_moves_2 : decode prog_14_method_44_code 2 = .ok (.putfield 109, 3) := by decide +kernel
theorem t_X12_moves_5 : decode prog_14_method_44_code 5 = .ok (.aload_n 0, 1) := by decide +kernel
theorem t_X12_moves_6 : decode prog_14_method_44_code 6 = .ok (.aload_n 0, 1) := by decide +kernel
theorem t_X12_moves_7 : decode prog_14_method_44_code 7 = .ok (.getfield 9, 3) := by decide +kernel
theorem t_X12_moves_10 : decode prog_14_method_44_code 10 = .ok (.iload_n 1, 1) := by decide +kernel
theorem t_X12_moves_11 : decode prog_14_method_44_code 11 = .ok (.invokevirtual 264, 3) := by decide +kernel
theorem t_X12_moves_14 : decode prog_14_method_44_code 14 = .ok (.istore_n 2, 1) := by decide +kernel
theorem t_X12_moves_15 : decode prog_14_method_44_code 15 = .ok (.iload_n 2, 1) := by decide +kernel
theorem t_X12_moves_16 : decode prog_14_method_44_code 16 = .ok (.ifCond .ge 5, 3) := by decide +kernel
theorem t_X12_moves_19 : decode prog_14_method_44_code 19 = .ok (.iload_n 2, 1) := by decide +kernel
theorem t_X12_moves_20 : decode prog_14_method_44_code 20 = .ok (.ireturn, 1) := by decide +kernel
theorem t_X12_moves_21 : decode prog_14_method_44_code 21 = .ok (.aload_n 0, 1) := by decide +kernel
theorem t_X12_moves_22 : decode prog_14_method_44_code 22 = .ok (.aload_n 0, 1) := by decide +kernel
theorem t_X12_moves_23 : decode prog_14_method_44_code 23 = .ok (.getfield 9, 3) := by decide +kernel
theorem t_X12_moves_26 : decode prog_14_method_44_code 26 = .ok (.invokevirtual 268, 3) := by decide +kernel
theorem t_X12_moves_29 : decode prog_14_method_44_code 29 = .ok (.aload_n 0, 1) := by decide +kernel
theorem t_X12_moves_30 : decode prog_14_method_44_code 30 = .ok (.aload_n 0, 1) := by decide +kernel
theorem t_X12_moves_31 : decode prog_14_method_44_code 31 = .ok (.getfield 9, 3) := by decide +kernel
theorem t_X12_moves_34 : decode prog_14_method_44_code 34 = .ok (.iload_n 1, 1) := by decide +kernel
theorem t_X12_moves_35 : decode prog_14_method_44_code 35 = .ok (.invokevirtual 272, 3) := by decide +kernel
theorem t_X12_moves_38 : decode prog_14_method_44_code 38 = .ok (.aload_n 0, 1) := by decide +kernel
theorem t_X12_moves_39 : decode prog_14_method_44_code 39 = .ok (.aload_n 0, 1) := by decide +kernel
theorem t_X12_moves_40 : decode prog_14_method_44_code 40 = .ok (.getfield 9, 3) := by decide +kernel
theorem t_X12_moves_43 : decode prog_14_method_44_code 43 = .ok (.invokevirtual 275, 3) := by decide +kernel
theorem t_X12_moves_46 : decode prog_14_method_44_code 46 = .ok (.ireturn, 1) := by decide +kernel
def y_X12_worthOf : MethodName := ⟨"SowingBoardsModel", "worthOf", "([II)I"⟩
theorem t_X12_worthOf_0 : decode prog_14_method_45_code 0 = .ok (.aload_n 1, 1) := by decide +kernel
theorem t_X12_worthOf_1 : decode prog_14_method_45_code 1 = .ok (.bipush 14, 2) := by decide +kernel
theorem t_X12_worthOf_3 : decode prog_14_method_45_code 3 = .ok (.iaload, 1) := by decide +kernel
theorem t_X12_worthOf_4 : decode prog_14_method_45_code 4 = .ok (.istore_n 3, 1) := by decide +kernel
theorem t_X12_worthOf_5 : decode prog_14_method_45_code 5 = .ok (.aload_n 1, 1) := by decide +kernel
theorem t_X12_worthOf_6 : decode prog_14_method_45_code 6 = .ok (.aload_n 0, 1) := by decide +kernel
theorem t_X12_worthOf_7 : decode prog_14_method_45_code 7 = .ok (.getfield 49, 3) := by decide +kernel
theorem t_X12_worthOf_10 : decode prog_14_method_45_code 10 = .ok (.iconst 0, 1) := by decide +kernel
theorem t_X12_worthOf_11 : decode prog_14_method_45_code 11 = .ok (.invokestatic 256, 3) := by decide +kernel
theorem t_X12_worthOf_14 : decode prog_14_method_45_code 14 = .ok (.aload_n 0, 1) := by decide +kernel
theorem t_X12_worthOf_15 : decode prog_14_method_45_code 15 = .ok (.aload_n 0, 1) := by decide +kernel
theorem t_X12_worthOf_16 : decode prog_14_method_45_code 16 = .ok (.getfield 49, 3) := by decide +kernel
theorem t_X12_worthOf_19 : decode prog_14_method_45_code 19 = .ok (.iload_n 2, 1) := by decide +kernel
theorem t_X12_worthOf_20 : decode prog_14_method_45_code 20 = .ok (.invokevirtual 272, 3) := by decide +kernel
theorem t_X12_worthOf_23 : decode prog_14_method_45_code 23 = .ok (.aload_n 0, 1) := by decide +kernel
theorem t_X12_worthOf_24 : decode prog_14_method_45_code 24 = .ok (.getfield 49, 3) := by decide +kernel
theorem t_X12_worthOf_27 : decode prog_14_method_45_code 27 = .ok (.bipush 14, 2) := by decide +kernel
theorem t_X12_worthOf_29 : decode prog_14_method_45_code 29 = .ok (.iaload, 1) := by decide +kernel
theorem t_X12_worthOf_30 : decode prog_14_method_45_code 30 = .ok (.iload_n 3, 1) := by decide +kernel
theorem t_X12_worthOf_31 : decode prog_14_method_45_code 31 = .ok (.if_icmp .ne 7, 3) := by decide +kernel
theorem t_X12_worthOf_34 : decode prog_14_method_45_code 34 = .ok (.iconst 1, 1) := by decide +kernel
theorem t_X12_worthOf_35 : decode prog_14_method_45_code 35 = .ok (.goto 4, 3) := by decide +kernel
theorem t_X12_worthOf_38 : decode prog_14_method_45_code 38 = .ok (.iconst 0, 1) := by decide +kernel
theorem t_X12_worthOf_39 : decode prog_14_method_45_code 39 = .ok (.istore 4, 2) := by decide +kernel
theorem t_X12_worthOf_41 : decode prog_14_method_45_code 41 = .ok (.aload_n 0, 1) := by decide +kernel
theorem t_X12_worthOf_42 : decode prog_14_method_45_code 42 = .ok (.getfield 211, 3) := by decide +kernel
theorem t_X12_worthOf_45 : decode prog_14_method_45_code 45 = .ok (.ifCond .ne 15, 3) := by decide +kernel
theorem t_X12_worthOf_48 : decode prog_14_method_45_code 48 = .ok (.aload_n 0, 1) := by decide +kernel
theorem t_X12_worthOf_49 : decode prog_14_method_45_code 49 = .ok (.getfield 253, 3) := by decide +kernel
theorem t_X12_worthOf_52 : decode prog_14_method_45_code 52 = .ok (.iconst 3, 1) := by decide +kernel
theorem t_X12_worthOf_53 : decode prog_14_method_45_code 53 = .ok (.imul, 1) := by decide +kernel
theorem t_X12_worthOf_54 : decode prog_14_method_45_code 54 = .ok (.iload 4, 2) := by decide +kernel
theorem t_X12_worthOf_56 : decode prog_14_method_45_code 56 = .ok (.iconst 2, 1) := by decide +kernel
theorem t_X12_worthOf_57 : decode prog_14_method_45_code 57 = .ok (.imul, 1) := by decide +kernel
theorem t_X12_worthOf_58 : decode prog_14_method_45_code 58 = .ok (.iadd, 1) := by decide +kernel
theorem t_X12_worthOf_59 : decode prog_14_method_45_code 59 = .ok (.ireturn, 1) := by decide +kernel
theorem t_X12_worthOf_60 : decode prog_14_method_45_code 60 = .ok (.iconst 0, 1) := by decide +kernel
theorem t_X12_worthOf_61 : decode prog_14_method_45_code 61 = .ok (.istore 5, 2) := by decide +kernel
theorem t_X12_worthOf_63 : decode prog_14_method_45_code 63 = .ok (.iconst 0, 1) := by decide +kernel
theorem t_X12_worthOf_64 : decode prog_14_method_45_code 64 = .ok (.istore 6, 2) := by decide +kernel
theorem t_X12_worthOf_66 : decode prog_14_method_45_code 66 = .ok (.iload 6, 2) := by decide +kernel
theorem t_X12_worthOf_68 : decode prog_14_method_45_code 68 = .ok (.aload_n 0, 1) := by decide +kernel
theorem t_X12_worthOf_69 : decode prog_14_method_45_code 69 = .ok (.getfield 13, 3) := by decide +kernel
theorem t_X12_worthOf_72 : decode prog_14_method_45_code 72 = .ok (.if_icmp .ge 36, 3) := by decide +kernel
theorem t_X12_worthOf_75 : decode prog_14_method_45_code 75 = .ok (.iload 5, 2) := by decide +kernel
theorem t_X12_worthOf_77 : decode prog_14_method_45_code 77 = .ok (.aload_n 0, 1) := by decide +kernel
theorem t_X12_worthOf_78 : decode prog_14_method_45_code 78 = .ok (.getfield 49, 3) := by decide +kernel
theorem t_X12_worthOf_81 : decode prog_14_method_45_code 81 = .ok (.aload_n 0, 1) := by decide +kernel
theorem t_X12_worthOf_82 : decode prog_14_method_45_code 82 = .ok (.getfield 13, 3) := by decide +kernel
theorem t_X12_worthOf_85 : decode prog_14_method_45_code 85 = .ok (.iload_n 3, 1) := by decide +kernel
theorem t_X12_worthOf_86 : decode prog_14_method_45_code 86 = .ok (.imul, 1) := by decide +kernel
theorem t_X12_worthOf_87 : decode prog_14_method_45_code 87 = .ok (.iload 6, 2) := by decide +kernel
theorem t_X12_worthOf_89 : decode prog_14_method_45_code 89 = .ok (.iadd, 1) := by decide +kernel
theorem t_X12_worthOf_90 : decode prog_14_method_45_code 90 = .ok (.iaload, 1) := by decide +kernel
theorem t_X12_worthOf_91 : decode prog_14_method_45_code 91 = .ok (.ifCond .ne 7, 3) := by decide +kernel
theorem t_X12_worthOf_94 : decode prog_14_method_45_code 94 = .ok (.iconst 1, 1) := by decide +kernel
theorem t_X12_worthOf_95 : decode prog_14_method_45_code 95 = .ok (.goto 4, 3) := by decide +kernel
theorem t_X12_worthOf_98 : decode prog_14_method_45_code 98 = .ok (.iconst 0, 1) := by decide +kernel
theorem t_X12_worthOf_99 : decode prog_14_method_45_code 99 = .ok (.iadd, 1) := by decide +kernel
theorem t_X12_worthOf_100 : decode prog_14_method_45_code 100 = .ok (.istore 5, 2) := by decide +kernel
theorem t_X12_worthOf_102 : decode prog_14_method_45_code 102 = .ok (.iinc 6 1, 3) := by decide +kernel
theorem t_X12_worthOf_105 : decode prog_14_method_45_code 105 = .ok (.goto (-39), 3) := by decide +kernel
theorem t_X12_worthOf_108 : decode prog_14_method_45_code 108 = .ok (.aload_n 0, 1) := by decide +kernel
theorem t_X12_worthOf_109 : decode prog_14_method_45_code 109 = .ok (.getfield 37, 3) := by decide +kernel
theorem t_X12_worthOf_112 : decode prog_14_method_45_code 112 = .ok (.iconst 0, 1) := by decide +kernel
theorem t_X12_worthOf_113 : decode prog_14_method_45_code 113 = .ok (.aload_n 0, 1) := by decide +kernel
theorem t_X12_worthOf_114 : decode prog_14_method_45_code 114 = .ok (.getfield 253, 3) := by decide +kernel
theorem t_X12_worthOf_117 : decode prog_14_method_45_code 117 = .ok (.iastore, 1) := by decide +kernel
theorem t_X12_worthOf_118 : decode prog_14_method_45_code 118 = .ok (.aload_n 0, 1) := by decide +kernel
theorem t_X12_worthOf_119 : decode prog_14_method_45_code 119 = .ok (.getfield 37, 3) := by decide +kernel
theorem t_X12_worthOf_122 : decode prog_14_method_45_code 122 = .ok (.iconst 1, 1) := by decide +kernel
theorem t_X12_worthOf_123 : decode prog_14_method_45_code 123 = .ok (.iload 4, 2) := by decide +kernel
theorem t_X12_worthOf_125 : decode prog_14_method_45_code 125 = .ok (.iastore, 1) := by decide +kernel
theorem t_X12_worthOf_126 : decode prog_14_method_45_code 126 = .ok (.aload_n 0, 1) := by decide +kernel
theorem t_X12_worthOf_127 : decode prog_14_method_45_code 127 = .ok (.getfield 37, 3) := by decide +kernel
theorem t_X12_worthOf_130 : decode prog_14_method_45_code 130 = .ok (.iconst 2, 1) := by decide +kernel
theorem t_X12_worthOf_131 : decode prog_14_method_45_code 131 = .ok (.iload_n 2, 1) := by decide +kernel
theorem t_X12_worthOf_132 : decode prog_14_method_45_code 132 = .ok (.iastore, 1) := by decide +kernel
theorem t_X12_worthOf_133 : decode prog_14_method_45_code 133 = .ok (.aload_n 0, 1) := by decide +kernel
theorem t_X12_worthOf_134 : decode prog_14_method_45_code 134 = .ok (.getfield 37, 3) := by decide +kernel
theorem t_X12_worthOf_137 : decode prog_14_method_45_code 137 = .ok (.iconst 3, 1) := by decide +kernel
theorem t_X12_worthOf_138 : decode prog_14_method_45_code 138 = .ok (.aload_n 1, 1) := by decide +kernel
theorem t_X12_worthOf_139 : decode prog_14_method_45_code 139 = .ok (.aload_n 0, 1) := by decide +kernel
theorem t_X12_worthOf_140 : decode prog_14_method_45_code 140 = .ok (.getfield 13, 3) := by decide +kernel
theorem t_X12_worthOf_143 : decode prog_14_method_45_code 143 = .ok (.iload_n 3, 1) := by decide +kernel
theorem t_X12_worthOf_144 : decode prog_14_method_45_code 144 = .ok (.imul, 1) := by decide +kernel
theorem t_X12_worthOf_145 : decode prog_14_method_45_code 145 = .ok (.iload_n 2, 1) := by decide +kernel
theorem t_X12_worthOf_146 : decode prog_14_method_45_code 146 = .ok (.iadd, 1) := by decide +kernel
theorem t_X12_worthOf_147 : decode prog_14_method_45_code 147 = .ok (.iaload, 1) := by decide +kernel
theorem t_X12_worthOf_148 : decode prog_14_method_45_code 148 = .ok (.iastore, 1) := by decide +kernel
theorem t_X12_worthOf_149 : decode prog_14_method_45_code 149 = .ok (.aload_n 0, 1) := by decide +kernel
theorem t_X12_worthOf_150 : decode prog_14_method_45_code 150 = .ok (.getfield 37, 3) := by decide +kernel
theorem t_X12_worthOf_153 : decode prog_14_method_45_code 153 = .ok (.iconst 4, 1) := by decide +kernel
theorem t_X12_worthOf_154 : decode prog_14_method_45_code 154 = .ok (.aload_n 0, 1) := by decide +kernel
theorem t_X12_worthOf_155 : decode prog_14_method_45_code 155 = .ok (.getfield 239, 3) := by decide +kernel
theorem t_X12_worthOf_158 : decode prog_14_method_45_code 158 = .ok (.iastore, 1) := by decide +kernel
theorem t_X12_worthOf_159 : decode prog_14_method_45_code 159 = .ok (.aload_n 0, 1) := by decide +kernel
theorem t_X12_worthOf_160 : decode prog_14_method_45_code 160 = .ok (.getfield 37, 3) := by decide +kernel
theorem t_X12_worthOf_163 : decode prog_14_method_45_code 163 = .ok (.iconst 5, 1) := by decide +kernel
theorem t_X12_worthOf_164 : decode prog_14_method_45_code 164 = .ok (.iload 5, 2) := by decide +kernel
theorem t_X12_worthOf_166 : decode prog_14_method_45_code 166 = .ok (.iastore, 1) := by decide +kernel
theorem t_X12_worthOf_167 : decode prog_14_method_45_code 167 = .ok (.aload_n 0, 1) := by decide +kernel
theorem t_X12_worthOf_168 : decode prog_14_method_45_code 168 = .ok (.getfield 37, 3) := by decide +kernel
theorem t_X12_worthOf_171 : decode prog_14_method_45_code 171 = .ok (.bipush 6, 2) := by decide +kernel
theorem t_X12_worthOf_173 : decode prog_14_method_45_code 173 = .ok (.aload_n 0, 1) := by decide +kernel
theorem t_X12_worthOf_174 : decode prog_14_method_45_code 174 = .ok (.aload_n 0, 1) := by decide +kernel
theorem t_X12_worthOf_175 : decode prog_14_method_45_code 175 = .ok (.getfield 49, 3) := by decide +kernel
theorem t_X12_worthOf_178 : decode prog_14_method_45_code 178 = .ok (.aload_n 0, 1) := by decide +kernel
theorem t_X12_worthOf_179 : decode prog_14_method_45_code 179 = .ok (.getfield 13, 3) := by decide +kernel
theorem t_X12_worthOf_182 : decode prog_14_method_45_code 182 = .ok (.iconst 1, 1) := by decide +kernel
theorem t_X12_worthOf_183 : decode prog_14_method_45_code 183 = .ok (.iload_n 3, 1) := by decide +kernel
theorem t_X12_worthOf_184 : decode prog_14_method_45_code 184 = .ok (.isub, 1) := by decide +kernel
theorem t_X12_worthOf_185 : decode prog_14_method_45_code 185 = .ok (.imul, 1) := by decide +kernel
theorem t_X12_worthOf_186 : decode prog_14_method_45_code 186 = .ok (.aload_n 0, 1) := by decide +kernel
theorem t_X12_worthOf_187 : decode prog_14_method_45_code 187 = .ok (.getfield 13, 3) := by decide +kernel
theorem t_X12_worthOf_190 : decode prog_14_method_45_code 190 = .ok (.invokevirtual 229, 3) := by decide +kernel
theorem t_X12_worthOf_193 : decode prog_14_method_45_code 193 = .ok (.iastore, 1) := by decide +kernel
theorem t_X12_worthOf_194 : decode prog_14_method_45_code 194 = .ok (.aload_n 0, 1) := by decide +kernel
theorem t_X12_worthOf_195 : decode prog_14_method_45_code 195 = .ok (.aload_n 0, 1) := by decide +kernel
theorem t_X12_worthOf_196 : decode prog_14_method_45_code 196 = .ok (.getfield 31, 3) := by decide +kernel
theorem t_X12_worthOf_199 : decode prog_14_method_45_code 199 = .ok (.aload_n 0, 1) := by decide +kernel
theorem t_X12_worthOf_200 : decode prog_14_method_45_code 200 = .ok (.getfield 211, 3) := by decide +kernel
theorem t_X12_worthOf_203 : decode prog_14_method_45_code 203 = .ok (.bipush 40, 2) := by decide +kernel
theorem t_X12_worthOf_205 : decode prog_14_method_45_code 205 = .ok (.invokevirtual 137, 3) := by decide +kernel
theorem t_X12_worthOf_208 : decode prog_14_method_45_code 208 = .ok (.aload_n 0, 1) := by decide +kernel
theorem t_X12_worthOf_209 : decode prog_14_method_45_code 209 = .ok (.iconst 1, 1) := by decide +kernel
theorem t_X12_worthOf_210 : decode prog_14_method_45_code 210 = .ok (.putfield 204, 3) := by decide +kernel
theorem t_X12_worthOf_213 : decode prog_14_method_45_code 213 = .ok (.aload_n 0, 1) := by decide +kernel
theorem t_X12_worthOf_214 : decode prog_14_method_45_code 214 = .ok (.iconst 0, 1) := by decide +kernel
theorem t_X12_worthOf_215 : decode prog_14_method_45_code 215 = .ok (.invokevirtual 191, 3) := by decide +kernel
theorem t_X12_worthOf_218 : decode prog_14_method_45_code 218 = .ok (.istore 6, 2) := by decide +kernel
theorem t_X12_worthOf_220 : decode prog_14_method_45_code 220 = .ok (.aload_n 0, 1) := by decide +kernel
theorem t_X12_worthOf_221 : decode prog_14_method_45_code 221 = .ok (.iconst 0, 1) := by decide +kernel
theorem t_X12_worthOf_222 : decode prog_14_method_45_code 222 = .ok (.putfield 204, 3) := by decide +kernel
theorem t_X12_worthOf_225 : decode prog_14_method_45_code 225 = .ok (.iload 6, 2) := by decide +kernel
theorem t_X12_worthOf_227 : decode prog_14_method_45_code 227 = .ok (.ireturn, 1) := by decide +kernel
def y_X12_bestOf : MethodName := ⟨"SowingBoardsModel", "bestOf", "([I)I"⟩
theorem t_X12_bestOf_0 : decode prog_14_method_46_code 0 = .ok (.iconst (-1), 1) := by decide +kernel
theorem t_X12_bestOf_1 : decode prog_14_method_46_code 1 = .ok (.istore_n 2, 1) := by decide +kernel
theorem t_X12_bestOf_2 : decode prog_14_method_46_code 2 = .ok (.iconst 0, 1) := by decide +kernel
theorem t_X12_bestOf_3 : decode prog_14_method_46_code 3 = .ok (.istore_n 3, 1) := by decide +kernel
theorem t_X12_bestOf_4 : decode prog_14_method_46_code 4 = .ok (.iconst 0, 1) := by decide +kernel
theorem t_X12_bestOf_5 : decode prog_14_method_46_code 5 = .ok (.istore 4, 2) := by decide +kernel
theorem t_X12_bestOf_7 : decode prog_14_method_46_code 7 = .ok (.iload 4, 2) := by decide +kernel
theorem t_X12_bestOf_9 : decode prog_14_method_46_code 9 = .ok (.aload_n 0, 1) := by decide +kernel
theorem t_X12_bestOf_10 : decode prog_14_method_46_code 10 = .ok (.getfield 13, 3) := by decide +kernel
theorem t_X12_bestOf_13 : decode prog_14_method_46_code 13 = .ok (.if_icmp .ge 51, 3) := by decide +kernel
theorem t_X12_bestOf_16 : decode prog_14_method_46_code 16 = .ok (.aload_n 0, 1) := by decide +kernel
theorem t_X12_bestOf_17 : decode prog_14_method_46_code 17 = .ok (.aload_n 1, 1) := by decide +kernel
theorem t_X12_bestOf_18 : decode prog_14_method_46_code 18 = .ok (.iload 4, 2) := by decide +kernel
theorem t_X12_bestOf_20 : decode prog_14_method_46_code 20 = .ok (.invokevirtual 264, 3) := by decide +kernel
theorem t_X12_bestOf_23 : decode prog_14_method_46_code 23 = .ok (.ifCond .ge 6, 3) := by decide +kernel
theorem t_X12_bestOf_26 : decode prog_14_method_46_code 26 = .ok (.goto 32, 3) := by decide +kernel
theorem t_X12_bestOf_29 : decode prog_14_method_46_code 29 = .ok (.aload_n 0, 1) := by decide +kernel
theorem t_X12_bestOf_30 : decode prog_14_method_46_code 30 = .ok (.aload_n 1, 1) := by decide +kernel
theorem t_X12_bestOf_31 : decode prog_14_method_46_code 31 = .ok (.iload 4, 2) := by decide +kernel
theorem t_X12_bestOf_33 : decode prog_14_method_46_code 33 = .ok (.invokevirtual 279, 3) := by decide +kernel
theorem t_X12_bestOf_36 : decode prog_14_method_46_code 36 = .ok (.istore 5, 2) := by decide +kernel
theorem t_X12_bestOf_38 : decode prog_14_method_46_code 38 = .ok (.iload_n 2, 1) := by decide +kernel
theorem t_X12_bestOf_39 : decode prog_14_method_46_code 39 = .ok (.iconst (-1), 1) := by decide +kernel
theorem t_X12_bestOf_40 : decode prog_14_method_46_code 40 = .ok (.if_icmp .eq 12, 3) := by decide +kernel
theorem t_X12_bestOf_43 : decode prog_14_method_46_code 43 = .ok (.iload 5, 2) := by decide +kernel
theorem t_X12_bestOf_45 : decode prog_14_method_46_code 45 = .ok (.iload_n 3, 1) := by decide +kernel
theorem t_X12_bestOf_46 : decode prog_14_method_46_code 46 = .ok (.if_icmp .gt 6, 3) := by decide +kernel
theorem t_X12_bestOf_49 : decode prog_14_method_46_code 49 = .ok (.goto 9, 3) := by decide +kernel
theorem t_X12_bestOf_52 : decode prog_14_method_46_code 52 = .ok (.iload 4, 2) := by decide +kernel
theorem t_X12_bestOf_54 : decode prog_14_method_46_code 54 = .ok (.istore_n 2, 1) := by decide +kernel
theorem t_X12_bestOf_55 : decode prog_14_method_46_code 55 = .ok (.iload 5, 2) := by decide +kernel
theorem t_X12_bestOf_57 : decode prog_14_method_46_code 57 = .ok (.istore_n 3, 1) := by decide +kernel
theorem t_X12_bestOf_58 : decode prog_14_method_46_code 58 = .ok (.iinc 4 1, 3) := by decide +kernel
theorem t_X12_bestOf_61 : decode prog_14_method_46_code 61 = .ok (.goto (-54), 3) := by decide +kernel
theorem t_X12_bestOf_64 : decode prog_14_method_46_code 64 = .ok (.iload_n 2, 1) := by decide +kernel
theorem t_X12_bestOf_65 : decode prog_14_method_46_code 65 = .ok (.ireturn, 1) := by decide +kernel
def y_X12_goRule : MethodName := ⟨"SowingBoardsModel", "goRule", "([I)Z"⟩
theorem t_X12_goRule_0 : decode prog_14_method_47_code 0 = .ok (.aload_n 0, 1) := by decide +kernel
theorem t_X12_goRule_1 : decode prog_14_method_47_code 1 = .ok (.aload_n 1, 1) := by decide +kernel
theorem t_X12_goRule_2 : decode prog_14_method_47_code 2 = .ok (.invokevirtual 282, 3) := by decide +kernel
theorem t_X12_goRule_5 : decode prog_14_method_47_code 5 = .ok (.ifCond .eq 5, 3) := by decide +kernel
theorem t_X12_goRule_8 : decode prog_14_method_47_code 8 = .ok (.iconst 0, 1) := by decide +kernel
theorem t_X12_goRule_9 : decode prog_14_method_47_code 9 = .ok (.ireturn, 1) := by decide +kernel
theorem t_X12_goRule_10 : decode prog_14_method_47_code 10 = .ok (.aload_n 0, 1) := by decide +kernel
theorem t_X12_goRule_11 : decode prog_14_method_47_code 11 = .ok (.aload_n 1, 1) := by decide +kernel
theorem t_X12_goRule_12 : decode prog_14_method_47_code 12 = .ok (.aload_n 0, 1) := by decide +kernel
theorem t_X12_goRule_13 : decode prog_14_method_47_code 13 = .ok (.aload_n 1, 1) := by decide +kernel
theorem t_X12_goRule_14 : decode prog_14_method_47_code 14 = .ok (.invokevirtual 286, 3) := by decide +kernel
theorem t_X12_goRule_17 : decode prog_14_method_47_code 17 = .ok (.invokevirtual 272, 3) := by decide +kernel
theorem t_X12_goRule_20 : decode prog_14_method_47_code 20 = .ok (.iconst 1, 1) := by decide +kernel
theorem t_X12_goRule_21 : decode prog_14_method_47_code 21 = .ok (.ireturn, 1) := by decide +kernel
def y_X12_plays : MethodName := ⟨"SowingBoardsModel", "plays", "(I)I"⟩
theorem t_X12_plays_0 : decode prog_14_method_48_code 0 = .ok (.aload_n 0, 1) := by decide +kernel
theorem t_X12_plays_1 : decode prog_14_method_48_code 1 = .ok (.iconst 0, 1) := by decide +kernel
theorem t_X12_plays_2 : decode prog_14_method_48_code 2 = .ok (.putfield 109, 3) := by decide +kernel
theorem t_X12_plays_5 : decode prog_14_method_48_code 5 = .ok (.iload_n 1, 1) := by decide +kernel
theorem t_X12_plays_6 : decode prog_14_method_48_code 6 = .ok (.iconst 1, 1) := by decide +kernel
theorem t_X12_plays_7 : decode prog_14_method_48_code 7 = .ok (.bipush 60, 2) := by decide +kernel
theorem t_X12_plays_9 : decode prog_14_method_48_code 9 = .ok (.invokestatic 118, 3) := by decide +kernel
theorem t_X12_plays_12 : decode prog_14_method_48_code 12 = .ok (.ifCond .ne 5, 3) := by decide +kernel
theorem t_X12_plays_15 : decode prog_14_method_48_code 15 = .ok (.iconst (-1), 1) := by decide +kernel
theorem t_X12_plays_16 : decode prog_14_method_48_code 16 = .ok (.ireturn, 1) := by decide +kernel
theorem t_X12_plays_17 : decode prog_14_method_48_code 17 = .ok (.aload_n 0, 1) := by decide +kernel
theorem t_X12_plays_18 : decode prog_14_method_48_code 18 = .ok (.aload_n 0, 1) := by decide +kernel
theorem t_X12_plays_19 : decode prog_14_method_48_code 19 = .ok (.getfield 9, 3) := by decide +kernel
theorem t_X12_plays_22 : decode prog_14_method_48_code 22 = .ok (.invokevirtual 282, 3) := by decide +kernel
theorem t_X12_plays_25 : decode prog_14_method_48_code 25 = .ok (.ifCond .eq 6, 3) := by decide +kernel
theorem t_X12_plays_28 : decode prog_14_method_48_code 28 = .ok (.bipush (-2), 2) := by decide +kernel
theorem t_X12_plays_30 : decode prog_14_method_48_code 30 = .ok (.ireturn, 1) := by decide +kernel
theorem t_X12_plays_31 : decode prog_14_method_48_code 31 = .ok (.aload_n 0, 1) := by decide +kernel
theorem t_X12_plays_32 : decode prog_14_method_48_code 32 = .ok (.aload_n 0, 1) := by decide +kernel
theorem t_X12_plays_33 : decode prog_14_method_48_code 33 = .ok (.getfield 9, 3) := by decide +kernel
theorem t_X12_plays_36 : decode prog_14_method_48_code 36 = .ok (.invokevirtual 268, 3) := by decide +kernel
theorem t_X12_plays_39 : decode prog_14_method_48_code 39 = .ok (.iconst 0, 1) := by decide +kernel
theorem t_X12_plays_40 : decode prog_14_method_48_code 40 = .ok (.istore_n 2, 1) := by decide +kernel
theorem t_X12_plays_41 : decode prog_14_method_48_code 41 = .ok (.iload_n 2, 1) := by decide +kernel
theorem t_X12_plays_42 : decode prog_14_method_48_code 42 = .ok (.iload_n 1, 1) := by decide +kernel
theorem t_X12_plays_43 : decode prog_14_method_48_code 43 = .ok (.if_icmp .ge 20, 3) := by decide +kernel
theorem t_X12_plays_46 : decode prog_14_method_48_code 46 = .ok (.aload_n 0, 1) := by decide +kernel
theorem t_X12_plays_47 : decode prog_14_method_48_code 47 = .ok (.aload_n 0, 1) := by decide +kernel
theorem t_X12_plays_48 : decode prog_14_method_48_code 48 = .ok (.getfield 9, 3) := by decide +kernel
theorem t_X12_plays_51 : decode prog_14_method_48_code 51 = .ok (.invokevirtual 289, 3) := by decide +kernel
theorem t_X12_plays_54 : decode prog_14_method_48_code 54 = .ok (.ifCond .eq 9, 3) := by decide +kernel
theorem t_X12_plays_57 : decode prog_14_method_48_code 57 = .ok (.iinc 2 1, 3) := by decide +kernel
theorem t_X12_plays_60 : decode prog_14_method_48_code 60 = .ok (.goto (-19), 3) := by decide +kernel
theorem t_X12_plays_63 : decode prog_14_method_48_code 63 = .ok (.aload_n 0, 1) := by decide +kernel
theorem t_X12_plays_64 : decode prog_14_method_48_code 64 = .ok (.iconst 0, 1) := by decide +kernel
theorem t_X12_plays_65 : decode prog_14_method_48_code 65 = .ok (.putfield 112, 3) := by decide +kernel
theorem t_X12_plays_68 : decode prog_14_method_48_code 68 = .ok (.aload_n 0, 1) := by decide +kernel
theorem t_X12_plays_69 : decode prog_14_method_48_code 69 = .ok (.aload_n 0, 1) := by decide +kernel
theorem t_X12_plays_70 : decode prog_14_method_48_code 70 = .ok (.getfield 9, 3) := by decide +kernel
theorem t_X12_plays_73 : decode prog_14_method_48_code 73 = .ok (.bipush 12, 2) := by decide +kernel
theorem t_X12_plays_75 : decode prog_14_method_48_code 75 = .ok (.iaload, 1) := by decide +kernel
theorem t_X12_plays_76 : decode prog_14_method_48_code 76 = .ok (.i2l, 1) := by decide +kernel
theorem t_X12_plays_77 : decode prog_14_method_48_code 77 = .ok (.invokevirtual 260, 3) := by decide +kernel
theorem t_X12_plays_80 : decode prog_14_method_48_code 80 = .ok (.aload_n 0, 1) := by decide +kernel
theorem t_X12_plays_81 : decode prog_14_method_48_code 81 = .ok (.aload_n 0, 1) := by decide +kernel
theorem t_X12_plays_82 : decode prog_14_method_48_code 82 = .ok (.getfield 9, 3) := by decide +kernel
theorem t_X12_plays_85 : decode prog_14_method_48_code 85 = .ok (.bipush 13, 2) := by decide +kernel
theorem t_X12_plays_87 : decode prog_14_method_48_code 87 = .ok (.iaload, 1) := by decide +kernel
theorem t_X12_plays_88 : decode prog_14_method_48_code 88 = .ok (.i2l, 1) := by decide +kernel
theorem t_X12_plays_89 : decode prog_14_method_48_code 89 = .ok (.invokevirtual 260, 3) := by decide +kernel
theorem t_X12_plays_92 : decode prog_14_method_48_code 92 = .ok (.iload_n 2, 1) := by decide +kernel
theorem t_X12_plays_93 : decode prog_14_method_48_code 93 = .ok (.ireturn, 1) := by decide +kernel
def y_X12_passes_ : MethodName := ⟨"SowingBoardsModel", "passes", "()I"⟩
theorem t_X12_passes__0 : decode prog_14_method_49_code 0 = .ok (.aload_n 0, 1) := by decide +kernel
theorem t_X12_passes__1 : decode prog_14_method_49_code 1 = .ok (.iconst 0, 1) := by decide +kernel
theorem t_X12_passes__2 : decode prog_14_method_49_code 2 = .ok (.putfield 109, 3) := by decide +kernel
theorem t_X12_passes__5 : decode prog_14_method_49_code 5 = .ok (.aload_n 0, 1) := by decide +kernel
theorem t_X12_passes__6 : decode prog_14_method_49_code 6 = .ok (.aload_n 0, 1) := by decide +kernel
theorem t_X12_passes__7 : decode prog_14_method_49_code 7 = .ok (.getfield 9, 3) := by decide +kernel
theorem t_X12_passes__10 : decode prog_14_method_49_code 10 = .ok (.invokevirtual 268, 3) := by decide +kernel
theorem t_X12_passes__13 : decode prog_14_method_49_code 13 = .ok (.aload_n 0, 1) := by decide +kernel
theorem t_X12_passes__14 : decode prog_14_method_49_code 14 = .ok (.getfield 9, 3) := by decide +kernel
theorem t_X12_passes__17 : decode prog_14_method_49_code 17 = .ok (.bipush 14, 2) := by decide +kernel
theorem t_X12_passes__19 : decode prog_14_method_49_code 19 = .ok (.iconst 1, 1) := by decide +kernel
theorem t_X12_passes__20 : decode prog_14_method_49_code 20 = .ok (.aload_n 0, 1) := by decide +kernel
theorem t_X12_passes__21 : decode prog_14_method_49_code 21 = .ok (.getfield 9, 3) := by decide +kernel
theorem t_X12_passes__24 : decode prog_14_method_49_code 24 = .ok (.bipush 14, 2) := by decide +kernel
theorem t_X12_passes__26 : decode prog_14_method_49_code 26 = .ok (.iaload, 1) := by decide +kernel
theorem t_X12_passes__27 : decode prog_14_method_49_code 27 = .ok (.isub, 1) := by decide +kernel
theorem t_X12_passes__28 : decode prog_14_method_49_code 28 = .ok (.iastore, 1) := by decide +kernel
theorem t_X12_passes__29 : decode prog_14_method_49_code 29 = .ok (.aload_n 0, 1) := by decide +kernel
theorem t_X12_passes__30 : decode prog_14_method_49_code 30 = .ok (.getfield 9, 3) := by decide +kernel
theorem t_X12_passes__33 : decode prog_14_method_49_code 33 = .ok (.bipush 14, 2) := by decide +kernel
theorem t_X12_passes__35 : decode prog_14_method_49_code 35 = .ok (.iaload, 1) := by decide +kernel
theorem t_X12_passes__36 : decode prog_14_method_49_code 36 = .ok (.ireturn, 1) := by decide +kernel
def y_X12_adds : MethodName := ⟨"SowingBoardsModel", "adds", "(II)I"⟩
theorem t_X12_adds_0 : decode prog_14_method_50_code 0 = .ok (.aload_n 0, 1) := by decide +kernel
theorem t_X12_adds_1 : decode prog_14_method_50_code 1 = .ok (.iconst 0, 1) := by decide +kernel
theorem t_X12_adds_2 : decode prog_14_method_50_code 2 = .ok (.putfield 109, 3) := by decide +kernel
theorem t_X12_adds_5 : decode prog_14_method_50_code 5 = .ok (.iload_n 1, 1) := by decide +kernel
theorem t_X12_adds_6 : decode prog_14_method_50_code 6 = .ok (.iconst 0, 1) := by decide +kernel
theorem t_X12_adds_7 : decode prog_14_method_50_code 7 = .ok (.aload_n 0, 1) := by decide +kernel
theorem t_X12_adds_8 : decode prog_14_method_50_code 8 = .ok (.invokevirtual 214, 3) := by decide +kernel
theorem t_X12_adds_11 : decode prog_14_method_50_code 11 = .ok (.iconst 1, 1) := by decide +kernel
theorem t_X12_adds_12 : decode prog_14_method_50_code 12 = .ok (.isub, 1) := by decide +kernel
theorem t_X12_adds_13 : decode prog_14_method_50_code 13 = .ok (.invokestatic 118, 3) := by decide +kernel
theorem t_X12_adds_16 : decode prog_14_method_50_code 16 = .ok (.ifCond .eq 13, 3) := by decide +kernel
theorem t_X12_adds_19 : decode prog_14_method_50_code 19 = .ok (.iload_n 2, 1) := by decide +kernel
theorem t_X12_adds_20 : decode prog_14_method_50_code 20 = .ok (.iconst 1, 1) := by decide +kernel
theorem t_X12_adds_21 : decode prog_14_method_50_code 21 = .ok (.bipush 9, 2) := by decide +kernel
theorem t_X12_adds_23 : decode prog_14_method_50_code 23 = .ok (.invokestatic 118, 3) := by decide +kernel
theorem t_X12_adds_26 : decode prog_14_method_50_code 26 = .ok (.ifCond .ne 5, 3) := by decide +kernel
theorem t_X12_adds_29 : decode prog_14_method_50_code 29 = .ok (.iconst (-1), 1) := by decide +kernel
theorem t_X12_adds_30 : decode prog_14_method_50_code 30 = .ok (.ireturn, 1) := by decide +kernel
theorem t_X12_adds_31 : decode prog_14_method_50_code 31 = .ok (.aload_n 0, 1) := by decide +kernel
theorem t_X12_adds_32 : decode prog_14_method_50_code 32 = .ok (.aload_n 0, 1) := by decide +kernel
theorem t_X12_adds_33 : decode prog_14_method_50_code 33 = .ok (.getfield 9, 3) := by decide +kernel
theorem t_X12_adds_36 : decode prog_14_method_50_code 36 = .ok (.iconst 0, 1) := by decide +kernel
theorem t_X12_adds_37 : decode prog_14_method_50_code 37 = .ok (.aload_n 0, 1) := by decide +kernel
theorem t_X12_adds_38 : decode prog_14_method_50_code 38 = .ok (.invokevirtual 214, 3) := by decide +kernel
theorem t_X12_adds_41 : decode prog_14_method_50_code 41 = .ok (.invokevirtual 229, 3) := by decide +kernel
theorem t_X12_adds_44 : decode prog_14_method_50_code 44 = .ok (.aload_n 0, 1) := by decide +kernel
theorem t_X12_adds_45 : decode prog_14_method_50_code 45 = .ok (.aload_n 0, 1) := by decide +kernel
theorem t_X12_adds_46 : decode prog_14_method_50_code 46 = .ok (.getfield 9, 3) := by decide +kernel
theorem t_X12_adds_49 : decode prog_14_method_50_code 49 = .ok (.bipush 12, 2) := by decide +kernel
theorem t_X12_adds_51 : decode prog_14_method_50_code 51 = .ok (.iconst 2, 1) := by decide +kernel
theorem t_X12_adds_52 : decode prog_14_method_50_code 52 = .ok (.invokevirtual 229, 3) := by decide +kernel
theorem t_X12_adds_55 : decode prog_14_method_50_code 55 = .ok (.iadd, 1) := by decide +kernel
theorem t_X12_adds_56 : decode prog_14_method_50_code 56 = .ok (.iload_n 2, 1) := by decide +kernel
theorem t_X12_adds_57 : decode prog_14_method_50_code 57 = .ok (.iadd, 1) := by decide +kernel
theorem t_X12_adds_58 : decode prog_14_method_50_code 58 = .ok (.sipush 200, 3) := by decide +kernel
theorem t_X12_adds_61 : decode prog_14_method_50_code 61 = .ok (.if_icmp .le 6, 3) := by decide +kernel
theorem t_X12_adds_64 : decode prog_14_method_50_code 64 = .ok (.bipush (-2), 2) := by decide +kernel
theorem t_X12_adds_66 : decode prog_14_method_50_code 66 = .ok (.ireturn, 1) := by decide +kernel
theorem t_X12_adds_67 : decode prog_14_method_50_code 67 = .ok (.aload_n 0, 1) := by decide +kernel
theorem t_X12_adds_68 : decode prog_14_method_50_code 68 = .ok (.aload_n 0, 1) := by decide +kernel
theorem t_X12_adds_69 : decode prog_14_method_50_code 69 = .ok (.getfield 9, 3) := by decide +kernel
theorem t_X12_adds_72 : decode prog_14_method_50_code 72 = .ok (.invokevirtual 268, 3) := by decide +kernel
theorem t_X12_adds_75 : decode prog_14_method_50_code 75 = .ok (.aload_n 0, 1) := by decide +kernel
theorem t_X12_adds_76 : decode prog_14_method_50_code 76 = .ok (.getfield 9, 3) := by decide +kernel
theorem t_X12_adds_79 : decode prog_14_method_50_code 79 = .ok (.iload_n 1, 1) := by decide +kernel
theorem t_X12_adds_80 : decode prog_14_method_50_code 80 = .ok (.dup2, 1) := by decide +kernel
theorem t_X12_adds_81 : decode prog_14_method_50_code 81 = .ok (.iaload, 1) := by decide +kernel
theorem t_X12_adds_82 : decode prog_14_method_50_code 82 = .ok (.iload_n 2, 1) := by decide +kernel
theorem t_X12_adds_83 : decode prog_14_method_50_code 83 = .ok (.iadd, 1) := by decide +kernel
theorem t_X12_adds_84 : decode prog_14_method_50_code 84 = .ok (.iastore, 1) := by decide +kernel
theorem t_X12_adds_85 : decode prog_14_method_50_code 85 = .ok (.aload_n 0, 1) := by decide +kernel
theorem t_X12_adds_86 : decode prog_14_method_50_code 86 = .ok (.getfield 9, 3) := by decide +kernel
theorem t_X12_adds_89 : decode prog_14_method_50_code 89 = .ok (.iload_n 1, 1) := by decide +kernel
theorem t_X12_adds_90 : decode prog_14_method_50_code 90 = .ok (.iaload, 1) := by decide +kernel
theorem t_X12_adds_91 : decode prog_14_method_50_code 91 = .ok (.ireturn, 1) := by decide +kernel
def y_X12_act : MethodName := ⟨"SowingBoardsModel", "act", "(I)Z"⟩
theorem t_X12_act_0 : decode prog_14_method_52_code 0 = .ok (.iload_n 1, 1) := by decide +kernel
theorem t_X12_act_1 : decode prog_14_method_52_code 1 = .ok (.bipush 47, 2) := by decide +kernel
theorem t_X12_act_3 : decode prog_14_method_52_code 3 = .ok (.if_icmp .ne 21, 3) := by decide +kernel
theorem t_X12_act_6 : decode prog_14_method_52_code 6 = .ok (.aload_n 0, 1) := by decide +kernel
theorem t_X12_act_7 : decode prog_14_method_52_code 7 = .ok (.getfield 9, 3) := by decide +kernel
theorem t_X12_act_10 : decode prog_14_method_52_code 10 = .ok (.bipush 14, 2) := by decide +kernel
theorem t_X12_act_12 : decode prog_14_method_52_code 12 = .ok (.iconst 1, 1) := by decide +kernel
theorem t_X12_act_13 : decode prog_14_method_52_code 13 = .ok (.aload_n 0, 1) := by decide +kernel
theorem t_X12_act_14 : decode prog_14_method_52_code 14 = .ok (.getfield 9, 3) := by decide +kernel
theorem t_X12_act_17 : decode prog_14_method_52_code 17 = .ok (.bipush 14, 2) := by decide +kernel
theorem t_X12_act_19 : decode prog_14_method_52_code 19 = .ok (.iaload, 1) := by decide +kernel
theorem t_X12_act_20 : decode prog_14_method_52_code 20 = .ok (.isub, 1) := by decide +kernel
theorem t_X12_act_21 : decode prog_14_method_52_code 21 = .ok (.iastore, 1) := by decide +kernel
theorem t_X12_act_22 : decode prog_14_method_52_code 22 = .ok (.iconst 1, 1) := by decide +kernel
theorem t_X12_act_23 : decode prog_14_method_52_code 23 = .ok (.ireturn, 1) := by decide +kernel
theorem t_X12_act_24 : decode prog_14_method_52_code 24 = .ok (.iload_n 1, 1) := by decide +kernel
theorem t_X12_act_25 : decode prog_14_method_52_code 25 = .ok (.bipush 42, 2) := by decide +kernel
theorem t_X12_act_27 : decode prog_14_method_52_code 27 = .ok (.if_icmp .ne 12, 3) := by decide +kernel
theorem t_X12_act_30 : decode prog_14_method_52_code 30 = .ok (.aload_n 0, 1) := by decide +kernel
theorem t_X12_act_31 : decode prog_14_method_52_code 31 = .ok (.aload_n 0, 1) := by decide +kernel
theorem t_X12_act_32 : decode prog_14_method_52_code 32 = .ok (.getfield 9, 3) := by decide +kernel
theorem t_X12_act_35 : decode prog_14_method_52_code 35 = .ok (.invokevirtual 289, 3) := by decide +kernel
theorem t_X12_act_38 : decode prog_14_method_52_code 38 = .ok (.ireturn, 1) := by decide +kernel
theorem t_X12_act_39 : decode prog_14_method_52_code 39 = .ok (.aload_n 0, 1) := by decide +kernel
theorem t_X12_act_40 : decode prog_14_method_52_code 40 = .ok (.aload_n 0, 1) := by decide +kernel
theorem t_X12_act_41 : decode prog_14_method_52_code 41 = .ok (.getfield 9, 3) := by decide +kernel
theorem t_X12_act_44 : decode prog_14_method_52_code 44 = .ok (.iload_n 1, 1) := by decide +kernel
theorem t_X12_act_45 : decode prog_14_method_52_code 45 = .ok (.invokevirtual 264, 3) := by decide +kernel
theorem t_X12_act_48 : decode prog_14_method_52_code 48 = .ok (.ifCond .ge 5, 3) := by decide +kernel
theorem t_X12_act_51 : decode prog_14_method_52_code 51 = .ok (.iconst 0, 1) := by decide +kernel
theorem t_X12_act_52 : decode prog_14_method_52_code 52 = .ok (.ireturn, 1) := by decide +kernel
theorem t_X12_act_53 : decode prog_14_method_52_code 53 = .ok (.aload_n 0, 1) := by decide +kernel
theorem t_X12_act_54 : decode prog_14_method_52_code 54 = .ok (.aload_n 0, 1) := by decide +kernel
theorem t_X12_act_55 : decode prog_14_method_52_code 55 = .ok (.getfield 9, 3) := by decide +kernel
theorem t_X12_act_58 : decode prog_14_method_52_code 58 = .ok (.iload_n 1, 1) := by decide +kernel
theorem t_X12_act_59 : decode prog_14_method_52_code 59 = .ok (.invokevirtual 272, 3) := by decide +kernel
theorem t_X12_act_62 : decode prog_14_method_52_code 62 = .ok (.iconst 1, 1) := by decide +kernel
theorem t_X12_act_63 : decode prog_14_method_52_code 63 = .ok (.ireturn, 1) := by decide +kernel
def y_X12_game : MethodName := ⟨"SowingBoardsModel", "game", "()I"⟩
theorem t_X12_game_0 : decode prog_14_method_51_code 0 = .ok (.aload_n 0, 1) := by decide +kernel
theorem t_X12_game_1 : decode prog_14_method_51_code 1 = .ok (.iconst 0, 1) := by decide +kernel
theorem t_X12_game_2 : decode prog_14_method_51_code 2 = .ok (.putfield 109, 3) := by decide +kernel
theorem t_X12_game_5 : decode prog_14_method_51_code 5 = .ok (.aload_n 0, 1) := by decide +kernel
theorem t_X12_game_6 : decode prog_14_method_51_code 6 = .ok (.bipush 60, 2) := by decide +kernel
theorem t_X12_game_8 : decode prog_14_method_51_code 8 = .ok (.invokevirtual 161, 3) := by decide +kernel
theorem t_X12_game_11 : decode prog_14_method_51_code 11 = .ok (.iconst 0, 1) := by decide +kernel
theorem t_X12_game_12 : decode prog_14_method_51_code 12 = .ok (.istore_n 1, 1) := by decide +kernel
theorem t_X12_game_13 : decode prog_14_method_51_code 13 = .ok (.aload_n 0, 1) := by decide +kernel
theorem t_X12_game_14 : decode prog_14_method_51_code 14 = .ok (.invokevirtual 141, 3) := by decide +kernel
theorem t_X12_game_17 : decode prog_14_method_51_code 17 = .ok (.ifCond .eq 72, 3) := by decide +kernel
theorem t_X12_game_20 : decode prog_14_method_51_code 20 = .ok (.aload_n 0, 1) := by decide +kernel
theorem t_X12_game_21 : decode prog_14_method_51_code 21 = .ok (.invokevirtual 145, 3) := by decide +kernel
theorem t_X12_game_24 : decode prog_14_method_51_code 24 = .ok (.iconst (-1), 1) := by decide +kernel
theorem t_X12_game_25 : decode prog_14_method_51_code 25 = .ok (.if_icmp .eq 64, 3) := by decide +kernel
theorem t_X12_game_28 : decode prog_14_method_51_code 28 = .ok (.aload_n 0, 1) := by decide +kernel
theorem t_X12_game_29 : decode prog_14_method_51_code 29 = .ok (.invokevirtual 145, 3) := by decide +kernel
theorem t_X12_game_32 : decode prog_14_method_51_code 32 = .ok (.bipush 42, 2) := by decide +kernel
theorem t_X12_game_34 : decode prog_14_method_51_code 34 = .ok (.if_icmp .eq 12, 3) := by decide +kernel
theorem t_X12_game_37 : decode prog_14_method_51_code 37 = .ok (.aload_n 0, 1) := by decide +kernel
theorem t_X12_game_38 : decode prog_14_method_51_code 38 = .ok (.invokevirtual 145, 3) := by decide +kernel
theorem t_X12_game_41 : decode prog_14_method_51_code 41 = .ok (.bipush 47, 2) := by decide +kernel
theorem t_X12_game_43 : decode prog_14_method_51_code 43 = .ok (.if_icmp .ne 26, 3) := by decide +kernel
theorem t_X12_game_46 : decode prog_14_method_51_code 46 = .ok (.aload_n 0, 1) := by decide +kernel
theorem t_X12_game_47 : decode prog_14_method_51_code 47 = .ok (.getfield 52, 3) := by decide +kernel
theorem t_X12_game_50 : decode prog_14_method_51_code 50 = .ok (.iload_n 1, 1) := by decide +kernel
theorem t_X12_game_51 : decode prog_14_method_51_code 51 = .ok (.aload_n 0, 1) := by decide +kernel
theorem t_X12_game_52 : decode prog_14_method_51_code 52 = .ok (.invokevirtual 145, 3) := by decide +kernel
theorem t_X12_game_55 : decode prog_14_method_51_code 55 = .ok (.iastore, 1) := by decide +kernel
theorem t_X12_game_56 : decode prog_14_method_51_code 56 = .ok (.aload_n 0, 1) := by decide +kernel
theorem t_X12_game_57 : decode prog_14_method_51_code 57 = .ok (.dup, 1) := by decide +kernel
theorem t_X12_game_58 : decode prog_14_method_51_code 58 = .ok (.getfield 131, 3) := by decide +kernel
theorem t_X12_game_61 : decode prog_14_method_51_code 61 = .ok (.iconst 1, 1) := by decide +kernel
theorem t_X12_game_62 : decode prog_14_method_51_code 62 = .ok (.iadd, 1) := by decide +kernel
theorem t_X12_game_63 : decode prog_14_method_51_code 63 = .ok (.putfield 131, 3) := by decide +kernel
theorem t_X12_game_66 : decode prog_14_method_51_code 66 = .ok (.goto 17, 3) := by decide +kernel
theorem t_X12_game_69 : decode prog_14_method_51_code 69 = .ok (.aload_n 0, 1) := by decide +kernel
theorem t_X12_game_70 : decode prog_14_method_51_code 70 = .ok (.getfield 52, 3) := by decide +kernel
theorem t_X12_game_73 : decode prog_14_method_51_code 73 = .ok (.iload_n 1, 1) := by decide +kernel
theorem t_X12_game_74 : decode prog_14_method_51_code 74 = .ok (.aload_n 0, 1) := by decide +kernel
theorem t_X12_game_75 : decode prog_14_method_51_code 75 = .ok (.bipush 48, 2) := by decide +kernel
theorem t_X12_game_77 : decode prog_14_method_51_code 77 = .ok (.bipush 6, 2) := by decide +kernel
theorem t_X12_game_79 : decode prog_14_method_51_code 79 = .ok (.invokevirtual 157, 3) := by decide +kernel
theorem t_X12_game_82 : decode prog_14_method_51_code 82 = .ok (.iastore, 1) := by decide +kernel
theorem t_X12_game_83 : decode prog_14_method_51_code 83 = .ok (.iinc 1 1, 3) := by decide +kernel
theorem t_X12_game_86 : decode prog_14_method_51_code 86 = .ok (.goto (-73), 3) := by decide +kernel
theorem t_X12_game_89 : decode prog_14_method_51_code 89 = .ok (.aload_n 0, 1) := by decide +kernel
theorem t_X12_game_90 : decode prog_14_method_51_code 90 = .ok (.invokevirtual 164, 3) := by decide +kernel
theorem t_X12_game_93 : decode prog_14_method_51_code 93 = .ok (.ifCond .ne 10, 3) := by decide +kernel
theorem t_X12_game_96 : decode prog_14_method_51_code 96 = .ok (.iconst (-1), 1) := by decide +kernel
theorem t_X12_game_97 : decode prog_14_method_51_code 97 = .ok (.aload_n 0, 1) := by decide +kernel
theorem t_X12_game_98 : decode prog_14_method_51_code 98 = .ok (.getfield 134, 3) := by decide +kernel
theorem t_X12_game_101 : decode prog_14_method_51_code 101 = .ok (.isub, 1) := by decide +kernel
theorem t_X12_game_102 : decode prog_14_method_51_code 102 = .ok (.ireturn, 1) := by decide +kernel
theorem t_X12_game_103 : decode prog_14_method_51_code 103 = .ok (.aload_n 0, 1) := by decide +kernel
theorem t_X12_game_104 : decode prog_14_method_51_code 104 = .ok (.getfield 9, 3) := by decide +kernel
theorem t_X12_game_107 : decode prog_14_method_51_code 107 = .ok (.aload_n 0, 1) := by decide +kernel
theorem t_X12_game_108 : decode prog_14_method_51_code 108 = .ok (.getfield 43, 3) := by decide +kernel
theorem t_X12_game_111 : decode prog_14_method_51_code 111 = .ok (.iconst 0, 1) := by decide +kernel
theorem t_X12_game_112 : decode prog_14_method_51_code 112 = .ok (.invokestatic 256, 3) := by decide +kernel
theorem t_X12_game_115 : decode prog_14_method_51_code 115 = .ok (.iconst 0, 1) := by decide +kernel
theorem t_X12_game_116 : decode prog_14_method_51_code 116 = .ok (.istore_n 2, 1) := by decide +kernel
theorem t_X12_game_117 : decode prog_14_method_51_code 117 = .ok (.iload_n 2, 1) := by decide +kernel
theorem t_X12_game_118 : decode prog_14_method_51_code 118 = .ok (.iload_n 1, 1) := by decide +kernel
theorem t_X12_game_119 : decode prog_14_method_51_code 119 = .ok (.if_icmp .ge 22, 3) := by decide +kernel
theorem t_X12_game_122 : decode prog_14_method_51_code 122 = .ok (.aload_n 0, 1) := by decide +kernel
theorem t_X12_game_123 : decode prog_14_method_51_code 123 = .ok (.aload_n 0, 1) := by decide +kernel
theorem t_X12_game_124 : decode prog_14_method_51_code 124 = .ok (.getfield 52, 3) := by decide +kernel
theorem t_X12_game_127 : decode prog_14_method_51_code 127 = .ok (.iload_n 2, 1) := by decide +kernel
theorem t_X12_game_128 : decode prog_14_method_51_code 128 = .ok (.iaload, 1) := by decide +kernel
theorem t_X12_game_129 : decode prog_14_method_51_code 129 = .ok (.invokevirtual 292, 3) := by decide +kernel
theorem t_X12_game_132 : decode prog_14_method_51_code 132 = .ok (.ifCond .eq 9, 3) := by decide +kernel
theorem t_X12_game_135 : decode prog_14_method_51_code 135 = .ok (.iinc 2 1, 3) := by decide +kernel
theorem t_X12_game_138 : decode prog_14_method_51_code 138 = .ok (.goto (-21), 3) := by decide +kernel
theorem t_X12_game_141 : decode prog_14_method_51_code 141 = .ok (.iload_n 2, 1) := by decide +kernel
theorem t_X12_game_142 : decode prog_14_method_51_code 142 = .ok (.ifCond .le 11, 3) := by decide +kernel
theorem t_X12_game_145 : decode prog_14_method_51_code 145 = .ok (.aload_n 0, 1) := by decide +kernel
theorem t_X12_game_146 : decode prog_14_method_51_code 146 = .ok (.aload_n 0, 1) := by decide +kernel
theorem t_X12_game_147 : decode prog_14_method_51_code 147 = .ok (.getfield 43, 3) := by decide +kernel
theorem t_X12_game_150 : decode prog_14_method_51_code 150 = .ok (.invokevirtual 268, 3) := by decide +kernel
theorem t_X12_game_153 : decode prog_14_method_51_code 153 = .ok (.aload_n 0, 1) := by decide +kernel
theorem t_X12_game_154 : decode prog_14_method_51_code 154 = .ok (.iconst 0, 1) := by decide +kernel
theorem t_X12_game_155 : decode prog_14_method_51_code 155 = .ok (.putfield 112, 3) := by decide +kernel
theorem t_X12_game_158 : decode prog_14_method_51_code 158 = .ok (.aload_n 0, 1) := by decide +kernel
theorem t_X12_game_159 : decode prog_14_method_51_code 159 = .ok (.iload_n 2, 1) := by decide +kernel
theorem t_X12_game_160 : decode prog_14_method_51_code 160 = .ok (.iload_n 1, 1) := by decide +kernel
theorem t_X12_game_161 : decode prog_14_method_51_code 161 = .ok (.if_icmp .ge 7, 3) := by decide +kernel
theorem t_X12_game_164 : decode prog_14_method_51_code 164 = .ok (.lconst 1, 1) := by decide +kernel
theorem t_X12_game_165 : decode prog_14_method_51_code 165 = .ok (.goto 4, 3) := by decide +kernel
theorem t_X12_game_168 : decode prog_14_method_51_code 168 = .ok (.lconst 0, 1) := by decide +kernel
theorem t_X12_game_169 : decode prog_14_method_51_code 169 = .ok (.invokevirtual 260, 3) := by decide +kernel
theorem t_X12_game_172 : decode prog_14_method_51_code 172 = .ok (.aload_n 0, 1) := by decide +kernel
theorem t_X12_game_173 : decode prog_14_method_51_code 173 = .ok (.aload_n 0, 1) := by decide +kernel
theorem t_X12_game_174 : decode prog_14_method_51_code 174 = .ok (.getfield 9, 3) := by decide +kernel
theorem t_X12_game_177 : decode prog_14_method_51_code 177 = .ok (.bipush 14, 2) := by decide +kernel
theorem t_X12_game_179 : decode prog_14_method_51_code 179 = .ok (.iaload, 1) := by decide +kernel
theorem t_X12_game_180 : decode prog_14_method_51_code 180 = .ok (.i2l, 1) := by decide +kernel
theorem t_X12_game_181 : decode prog_14_method_51_code 181 = .ok (.invokevirtual 260, 3) := by decide +kernel
theorem t_X12_game_184 : decode prog_14_method_51_code 184 = .ok (.iload_n 2, 1) := by decide +kernel
theorem t_X12_game_185 : decode prog_14_method_51_code 185 = .ok (.ireturn, 1) := by decide +kernel
theorem fl_12_40 : FLk "SowingBoardsModel" 40 12 22 := ⟨_, rfl, by decide, Or.inl (vtb_at 1360 (by decide +kernel) rfl)⟩
theorem fl_12_43 : FLk "SowingBoardsModel" 43 12 24 := ⟨_, rfl, by decide, Or.inl (vtb_at 1362 (by decide +kernel) rfl)⟩
theorem fl_12_49 : FLk "SowingBoardsModel" 49 12 26 := ⟨_, rfl, by decide, Or.inl (vtb_at 1364 (by decide +kernel) rfl)⟩
theorem fl_12_52 : FLk "SowingBoardsModel" 52 12 27 := ⟨_, rfl, by decide, Or.inl (vtb_at 1365 (by decide +kernel) rfl)⟩
theorem fl_12_233 : FLk "SowingBoardsModel" 233 12 21 := ⟨_, rfl, by decide, Or.inl (vtb_at 1359 (by decide +kernel) rfl)⟩
theorem fl_12_239 : FLk "SowingBoardsModel" 239 12 20 := ⟨_, rfl, by decide, Or.inl (vtb_at 1358 (by decide +kernel) rfl)⟩
theorem fl_12_253 : FLk "SowingBoardsModel" 253 12 19 := ⟨_, rfl, by decide, Or.inl (vtb_at 1357 (by decide +kernel) rfl)⟩
theorem fp_12_19 : FPk 12 19 "I" := ⟨_, rfl, rfl, rfl⟩
theorem fp_12_20 : FPk 12 20 "I" := ⟨_, rfl, rfl, rfl⟩
theorem fp_12_21 : FPk 12 21 "I" := ⟨_, rfl, rfl, rfl⟩
theorem my_X12_behind : MY y_X12_behind prog_14_method_34_code 4 (some .int) 2 := ⟨vtb_at 1650 (by decide +kernel) rfl, vtb_at 152 (by decide +kernel) rfl, ⟨by decide, by decide, by decide +kernel⟩, by decide⟩
theorem mi_X12_behind : MI y_X12_behind := ⟨vtb_at 1649 (by decide +kernel) rfl, vtb_at 111 (by decide +kernel) rfl⟩
theorem my_X12_goLap : MY y_X12_goLap prog_14_method_35_code 5 none 2 := ⟨vtb_at 1646 (by decide +kernel) rfl, vtb_at 152 (by decide +kernel) rfl, ⟨by decide, by decide, by decide +kernel⟩, by decide⟩
theorem mi_X12_goLap : MI y_X12_goLap := ⟨vtb_at 1645 (by decide +kernel) rfl, vtb_at 110 (by decide +kernel) rfl⟩
theorem my_X12_isOf : MY y_X12_isOf prog_14_method_36_code 3 (some .boolean) 2 := ⟨vtb_at 1654 (by decide +kernel) rfl, vtb_at 152 (by decide +kernel) rfl, ⟨by decide, by decide, by decide +kernel⟩, by decide⟩
theorem mi_X12_isOf : MI y_X12_isOf := ⟨vtb_at 1653 (by decide +kernel) rfl, vtb_at 112 (by decide +kernel) rfl⟩
theorem my_X12_take : MY y_X12_take prog_14_method_37_code 3 none 2 := ⟨vtb_at 1658 (by decide +kernel) rfl, vtb_at 152 (by decide +kernel) rfl, ⟨by decide, by decide, by decide +kernel⟩, by decide⟩
theorem mi_X12_take : MI y_X12_take := ⟨vtb_at 1657 (by decide +kernel) rfl, vtb_at 113 (by decide +kernel) rfl⟩
theorem my_X12_lay : MY y_X12_lay prog_14_method_41_code 4 none 3 := ⟨vtb_at 1638 (by decide +kernel) rfl, vtb_at 152 (by decide +kernel) rfl, ⟨by decide, by decide, by decide +kernel⟩, by decide⟩
theorem ms_X12_lay : Cond.static y_X12_lay ∈ vtb := vtb_at 1637 (by decide +kernel) rfl
theorem my_X12_tell : MY y_X12_tell prog_14_method_6_code 3 none 1 := ⟨vtb_at 1666 (by decide +kernel) rfl, vtb_at 152 (by decide +kernel) rfl, ⟨by decide, by decide, by decide +kernel⟩, by decide⟩
theorem mi_X12_tell : MI y_X12_tell := ⟨vtb_at 1665 (by decide +kernel) rfl, vtb_at 115 (by decide +kernel) rfl⟩
theorem my_X12_refuses : MY y_X12_refuses prog_14_method_40_code 3 (some .int) 2 := ⟨vtb_at 1631 (by decide +kernel) rfl, vtb_at 152 (by decide +kernel) rfl, ⟨by decide, by decide, by decide +kernel⟩, by decide⟩
theorem mi_X12_refuses : MI y_X12_refuses := ⟨vtb_at 1630 (by decide +kernel) rfl, vtb_at 107 (by decide +kernel) rfl⟩
theorem my_X12_remember : MY y_X12_remember prog_14_method_42_code 3 none 1 := ⟨vtb_at 1635 (by decide +kernel) rfl, vtb_at 152 (by decide +kernel) rfl, ⟨by decide, by decide, by decide +kernel⟩, by decide⟩
theorem mi_X12_remember : MI y_X12_remember := ⟨vtb_at 1634 (by decide +kernel) rfl, vtb_at 108 (by decide +kernel) rfl⟩
theorem my_X12_goMove : MY y_X12_goMove prog_14_method_38_code 7 none 2 := ⟨vtb_at 1642 (by decide +kernel) rfl, vtb_at 152 (by decide +kernel) rfl, ⟨by decide, by decide, by decide +kernel⟩, by decide⟩
theorem mi_X12_goMove : MI y_X12_goMove := ⟨vtb_at 1641 (by decide +kernel) rfl, vtb_at 109 (by decide +kernel) rfl⟩
theorem my_X12_tellMove : MY y_X12_tellMove prog_14_method_43_code 2 (some .int) 1 := ⟨vtb_at 1662 (by decide +kernel) rfl, vtb_at 152 (by decide +kernel) rfl, ⟨by decide, by decide, by decide +kernel⟩, by decide⟩
theorem mi_X12_tellMove : MI y_X12_tellMove := ⟨vtb_at 1661 (by decide +kernel) rfl, vtb_at 114 (by decide +kernel) rfl⟩
theorem my_X12_worthOf : MY y_X12_worthOf prog_14_method_45_code 7 (some .int) 2 := ⟨vtb_at 1686 (by decide +kernel) rfl, vtb_at 152 (by decide +kernel) rfl, ⟨by decide, by decide, by decide +kernel⟩, by decide⟩
theorem mi_X12_worthOf : MI y_X12_worthOf := ⟨vtb_at 1685 (by decide +kernel) rfl, vtb_at 119 (by decide +kernel) rfl⟩
theorem my_X12_isOver : MY y_X12_isOver prog_14_method_39_code 2 (some .boolean) 1 := ⟨vtb_at 1674 (by decide +kernel) rfl, vtb_at 152 (by decide +kernel) rfl, ⟨by decide, by decide, by decide +kernel⟩, by decide⟩
theorem mi_X12_isOver : MI y_X12_isOver := ⟨vtb_at 1673 (by decide +kernel) rfl, vtb_at 116 (by decide +kernel) rfl⟩
theorem my_X12_bestOf : MY y_X12_bestOf prog_14_method_46_code 6 (some .int) 1 := ⟨vtb_at 1682 (by decide +kernel) rfl, vtb_at 152 (by decide +kernel) rfl, ⟨by decide, by decide, by decide +kernel⟩, by decide⟩
theorem mi_X12_bestOf : MI y_X12_bestOf := ⟨vtb_at 1681 (by decide +kernel) rfl, vtb_at 118 (by decide +kernel) rfl⟩
theorem my_X12_goRule : MY y_X12_goRule prog_14_method_47_code 2 (some .boolean) 1 := ⟨vtb_at 1678 (by decide +kernel) rfl, vtb_at 152 (by decide +kernel) rfl, ⟨by decide, by decide, by decide +kernel⟩, by decide⟩
theorem mi_X12_goRule : MI y_X12_goRule := ⟨vtb_at 1677 (by decide +kernel) rfl, vtb_at 117 (by decide +kernel) rfl⟩
theorem my_X12_act : MY y_X12_act prog_14_method_52_code 2 (some .boolean) 1 := ⟨vtb_at 1702 (by decide +kernel) rfl, vtb_at 152 (by decide +kernel) rfl, ⟨by decide, by decide, by decide +kernel⟩, by decide⟩
theorem mi_X12_act : MI y_X12_act := ⟨vtb_at 1701 (by decide +kernel) rfl, vtb_at 120 (by decide +kernel) rfl⟩
theorem ml_12_236 : ML "SowingBoardsModel" 236 y_X12_behind := Or.inl (vtb_at 1647 (by decide +kernel) rfl)
theorem ml_12_242 : ML "SowingBoardsModel" 242 y_X12_goLap := Or.inl (vtb_at 1643 (by decide +kernel) rfl)
theorem ml_12_246 : ML "SowingBoardsModel" 246 y_X12_isOf := Or.inl (vtb_at 1651 (by decide +kernel) rfl)
theorem ml_12_250 : ML "SowingBoardsModel" 250 y_X12_take := Or.inl (vtb_at 1655 (by decide +kernel) rfl)
theorem ml_12_256 : ML "SowingBoardsModel" 256 y_X12_lay := Or.inl (vtb_at 1636 (by decide +kernel) rfl)
theorem ml_12_260 : ML "SowingBoardsModel" 260 y_X12_tell := Or.inl (vtb_at 1663 (by decide +kernel) rfl)
theorem ml_12_264 : ML "SowingBoardsModel" 264 y_X12_refuses := Or.inl (vtb_at 1628 (by decide +kernel) rfl)
theorem ml_12_268 : ML "SowingBoardsModel" 268 y_X12_remember := Or.inl (vtb_at 1632 (by decide +kernel) rfl)
theorem ml_12_272 : ML "SowingBoardsModel" 272 y_X12_goMove := Or.inl (vtb_at 1639 (by decide +kernel) rfl)
theorem ml_12_275 : ML "SowingBoardsModel" 275 y_X12_tellMove := Or.inl (vtb_at 1659 (by decide +kernel) rfl)
theorem ml_12_279 : ML "SowingBoardsModel" 279 y_X12_worthOf := Or.inl (vtb_at 1683 (by decide +kernel) rfl)
theorem ml_12_282 : ML "SowingBoardsModel" 282 y_X12_isOver := Or.inl (vtb_at 1671 (by decide +kernel) rfl)
theorem ml_12_286 : ML "SowingBoardsModel" 286 y_X12_bestOf := Or.inl (vtb_at 1679 (by decide +kernel) rfl)
theorem ml_12_289 : ML "SowingBoardsModel" 289 y_X12_goRule := Or.inl (vtb_at 1675 (by decide +kernel) rfl)
theorem ml_12_292 : ML "SowingBoardsModel" 292 y_X12_act := Or.inl (vtb_at 1699 (by decide +kernel) rfl)
def J_X12_behind_j54_1 (p1 : Int32) : Wd → Option (Int32 × Wd) := fun w4 =>
  bc (D_X12_pits w4) fun x7 w6 => if ¬ (x7) = 0 then (some ((p1 + 1) - (p1 + 1) / x7 * x7, w6)) else none
def J_X12_behind_j19_2 (p1 : Int32) : Int32 → Wd → Option (Int32 × Wd) := fun x1 w2 =>
  if p1 = 50 then (bc (D_X12_pits w2) fun x9 w8 => if ¬ (x9) = 0 then (some ((x1 + 1) - (x1 + 1) / x9 * x9, w8)) else none) else (bd (J_X12_behind_j54_1 p1) fun k5 => if p1 = x1 then (if ((w2.1 119 2) &&& 1) = 0 then (k5 w2) else (some (50, w2))) else (k5 w2))
def D_X12_behind (p1 : Int32) (p2 : Int32) : Wd → Option (Int32 × Wd) := fun w =>
  bd (J_X12_behind_j19_2 p1) fun k3 => if p2 = 0 then (k3 ((w.1 119 1) - 1) w) else (bc (D_X12_pits w) fun x11 w10 => k3 (x11 - 1) w10)
set_option maxRecDepth 20000 in
theorem S_X12_behind {l0 : Launch} {ρ : Nat → Nat} {cs : Nat → ClassId} {G : va_G} (hρ : injN ρ) {p1 : Int32} {p2 : Int32} {w : Wd} {rr : (Int32 × Wd)} (hD : D_X12_behind p1 p2 w = some rr) : CtI l0 ρ cs G y_X12_behind prog_14_method_34_code 4 .int 1 [.ref (ρ 119), .int p1, .int p2] w rr.1 rr.2 := by
  refine ctI_of hρ (by decide) (Nat.le_of_ble_eq_true rfl) (fun X hn h hR => ?_)
  unfold D_X12_behind at hD
  show gG ρ cs G X 0 [(0, .ref (ρ 119)), (1, .int p1), (2, .int p2)] [] w
  refine g_iload_n h 2 t_X12_behind_0 rfl ?_
  refine g_join (P := fun k3 => ∀ (x1 : Int32) (w2 : Wd), k3 x1 w2 = some rr → gG ρ cs G X 19 [(0, .ref (ρ 119)), (1, .int p1)] [.int x1] w2) hD ?_ (fun k3 hk3 hD => ?_)
  · intro x1 w2 hD
    unfold J_X12_behind_j19_2 at hD
    refine g_istore_n (L' := [(3, .int x1), (0, .ref (ρ 119)), (1, .int p1)]) h hn t_X12_behind_19 rfl (by decide) rfl ?_
    refine g_iload_n h 2 t_X12_behind_20 rfl ?_
    refine g_bipush (v := 50) h t_X12_behind_21 (by decide) ?_
    refine g_icmp_ne (tgt := 35) h t_X12_behind_23 (by decide) hD (fun hD => ?_) (fun hD => ?_)
    · refine g_iload_n h 2 t_X12_behind_35 rfl ?_
      refine g_iload_n h 0 t_X12_behind_36 rfl ?_
      refine g_join (P := fun k5 => ∀ (w4 : Wd), k5 w4 = some rr → gG ρ cs G X 54 [(0, .ref (ρ 119)), (1, .int p1)] [] w4) hD ?_ (fun k5 hk5 hD => ?_)
      · intro w4 hD
        unfold J_X12_behind_j54_1 at hD
        refine g_iload_n h 1 t_X12_behind_54 rfl ?_
        refine g_iconst (v := 1) h t_X12_behind_55 (by decide) ?_
        refine g_iadd h t_X12_behind_56 ?_
        refine g_aload_n h 0 t_X12_behind_57 rfl ?_
        refine g_callVI h 119 (As := []) (st := [.int (p1 + 1)]) my_X12_pits mi_X12_pits ml_12_214 rfl (by decide) rfl rfl rfl (Nat.le_of_ble_eq_true rfl) (by decide) t_X12_behind_58 hD (fun _ _ e => S_X12_pits hρ  e) (fun x7 w6 hD => ?_)
        refine g_irem h t_X12_behind_61 hD (fun hD => ?_)
        obtain rfl := Option.some.inj hD
        exact hR _ _ t_X12_behind_62 rfl
      · refine g_icmp_ne (tgt := 54) h t_X12_behind_37 (by decide) hD (fun hD => ?_) (fun hD => ?_)
        · refine g_loc (L' := [(0, .ref (ρ 119)), (1, .int p1)]) h [1, 2] rfl ?_
          exact hk5 _ hD
        · refine g_aload_n h 1 t_X12_behind_40 rfl ?_
          refine g_getI h 119 2 fl_12_17 rfl (by decide) rfl t_X12_behind_41 ?_
          refine g_iconst (v := 1) h t_X12_behind_44 (by decide) ?_
          refine g_iand h t_X12_behind_45 ?_
          refine g_if_eq (tgt := 54) h t_X12_behind_46 (by decide) hD (fun hD => ?_) (fun hD => ?_)
          · refine g_loc (L' := [(0, .ref (ρ 119)), (1, .int p1)]) h [1, 2] rfl ?_
            exact hk5 _ hD
          · refine g_bipush (v := 50) h t_X12_behind_49 (by decide) ?_
            refine g_goto (tgt := 62) h t_X12_behind_51 (by decide) ?_
            obtain rfl := Option.some.inj hD
            exact hR _ _ t_X12_behind_62 rfl
    · refine g_iload_n h 0 t_X12_behind_26 rfl ?_
      refine g_iconst (v := 1) h t_X12_behind_27 (by decide) ?_
      refine g_iadd h t_X12_behind_28 ?_
      refine g_aload_n h 1 t_X12_behind_29 rfl ?_
      refine g_callVI h 119 (As := []) (st := [.int (x1 + 1)]) my_X12_pits mi_X12_pits ml_12_214 rfl (by decide) rfl rfl rfl (Nat.le_of_ble_eq_true rfl) (by decide) t_X12_behind_30 hD (fun _ _ e => S_X12_pits hρ  e) (fun x9 w8 hD => ?_)
      refine g_irem h t_X12_behind_33 hD (fun hD => ?_)
      obtain rfl := Option.some.inj hD
      exact hR _ _ t_X12_behind_34 rfl
  · refine g_if_ne (tgt := 13) h t_X12_behind_1 (by decide) hD (fun hD => ?_) (fun hD => ?_)
    · refine g_aload_n h 0 t_X12_behind_13 rfl ?_
      refine g_callVI h 119 (As := []) (st := []) my_X12_pits mi_X12_pits ml_12_214 rfl (by decide) rfl rfl rfl (Nat.le_of_ble_eq_true rfl) (by decide) t_X12_behind_14 hD (fun _ _ e => S_X12_pits hρ  e) (fun x11 w10 hD => ?_)
      refine g_iconst (v := 1) h t_X12_behind_17 (by decide) ?_
      refine g_isub h t_X12_behind_18 ?_
      refine g_loc (L' := [(0, .ref (ρ 119)), (1, .int p1)]) h [0, 1] rfl ?_
      exact hk3 (x11 - 1) _ hD
    · refine g_aload_n h 0 t_X12_behind_4 rfl ?_
      refine g_getI h 119 1 fl_12_13 rfl (by decide) rfl t_X12_behind_5 ?_
      refine g_iconst (v := 1) h t_X12_behind_8 (by decide) ?_
      refine g_isub h t_X12_behind_9 ?_
      refine g_goto (tgt := 19) h t_X12_behind_10 (by decide) ?_
      refine g_loc (L' := [(0, .ref (ρ 119)), (1, .int p1)]) h [0, 1] rfl ?_
      exact hk3 ((w.1 119 1) - 1) _ hD
def J_X12_goLap_j90_1 (r19 : Int32 → Wd → Option Wd) (x10 : Int32) : Wd → Option Wd := fun w17 =>
  bd (x10 + (-1)) fun x19 => r19 x19 w17
def J_X12_goLap_j58_2 (r19 : Int32 → Wd → Option Wd) (x10 : Int32) (x7 : Int32) (q5 : Nat) : Wd → Option Wd := fun w15 =>
  bd (J_X12_goLap_j90_1 (r19) x10) fun k18 => if (w15.1 119 21) = 50 then (if ib (12 + x7) (ln q5) then (if ib (12 + x7) (ln q5) then bd (wI w15 q5 (12 + x7).toNatClampNeg ((w15.1 q5 (12 + x7).toNatClampNeg) + 1)) (fun w21 => k18 w21) else none) else none) else (if ib (w15.1 119 21) (ln q5) then (if ib (w15.1 119 21) (ln q5) then bd (wI w15 q5 (w15.1 119 21).toNatClampNeg ((w15.1 q5 (w15.1 119 21).toNatClampNeg) + 1)) (fun w20 => k18 w20) else none) else none)
def L_X12_goLap_19 (q5 : Nat) (x6 : Int32) (x7 : Int32) (k8 : Wd → Option Wd) : Nat → Int32 → Wd → Option Wd
  | 0, _, _ => none
  | n9 + 1, x10, w11 =>
    if x10 ≤ 0 then (k8 w11) else (bc (D_X12_behind (w11.1 119 21) x7 w11) fun x13 w12 => bd (wI w12 119 21 x13) fun w14 => bd (J_X12_goLap_j58_2 (L_X12_goLap_19 q5 x6 x7 k8 n9) x10 x7 q5) fun k16 => if (w14.1 119 21) = x6 then (if ((w14.1 119 2) &&& 8) = 0 then (k16 w14) else (L_X12_goLap_19 q5 x6 x7 k8 n9 x10 w14)) else (k16 w14))
def J_X12_goLap_x96_3  : Wd → Option Wd := fun w22 =>
  bd (wI w22 119 20 ((w22.1 119 20) + 1)) fun w23 => some w23
def D_X12_goLap (o1 : Nat) (p2 : Int32) : Wd → Option Wd := fun w =>
  if ib 14 (ln o1) then (bd (w.1 o1 (14 : Int32).toNatClampNeg) fun x1 => if ib p2 (ln o1) then (bd (w.1 o1 p2.toNatClampNeg) fun x2 => if ib p2 (ln o1) then bd (wI w o1 p2.toNatClampNeg 0) (fun w3 => bd (wI w3 119 21 p2) fun w4 => L_X12_goLap_19 o1 p2 x1 J_X12_goLap_x96_3 FU x2 w4) else none) else none) else none
set_option maxRecDepth 20000 in
theorem Q_X12_goLap_19 {l0 : Launch} {ρ : Nat → Nat} {cs : Nat → ClassId} {G : va_G} {X : Cx} (hρ : injN ρ) (hn : X.2.2.2.2.2.2.2.2.2.2.1 = 5) (h : Okx l0 ρ cs G X prog_14_method_35_code "SowingBoardsModel" 2) {rr : Wd} (hR : ∀ pc L, decode prog_14_method_35_code pc = .ok (.return_, 1) → gG ρ cs G X pc L [] rr) {q5 : Nat} (hq5 : isIA q5) {x6 : Int32} {x7 : Int32} {k8 : Wd → Option Wd} (hk8 : ∀ (w1 : Wd), k8 w1 = some rr → gG ρ cs G X 96 [(0, .ref (ρ 119))] [] w1) : ∀ (n : Nat) (x10 : Int32) (w : Wd), L_X12_goLap_19 q5 x6 x7 k8 n x10 w = some rr → gG ρ cs G X 19 [(0, .ref (ρ 119)), (1, .ref (ρ q5)), (2, .int x6), (3, .int x7), (4, .int x10)] [] w := by
  intro n
  induction n with
  | zero =>
    intro x10 w hD
    cases hD
  | succ n9 ih =>
    intro x10 w11 hD
    unfold L_X12_goLap_19 at hD
    refine g_iload h 4 t_X12_goLap_19 rfl ?_
    refine g_if_le (tgt := 96) h t_X12_goLap_21 (by decide) hD (fun hD => ?_) (fun hD => ?_)
    · refine g_loc (L' := [(0, .ref (ρ 119))]) h [0] rfl ?_
      exact hk8 _ hD
    · refine g_aload_n h 0 t_X12_goLap_24 rfl ?_
      refine g_aload_n h 0 t_X12_goLap_25 rfl ?_
      refine g_aload_n h 0 t_X12_goLap_26 rfl ?_
      refine g_getI h 119 21 fl_12_233 rfl (by decide) rfl t_X12_goLap_27 ?_
      refine g_iload_n h 3 t_X12_goLap_30 rfl ?_
      refine g_callVI h 119 (As := [.int (w11.1 119 21), .int x7]) (st := [.ref (ρ 119)]) my_X12_behind mi_X12_behind ml_12_236 rfl (by decide) rfl rfl rfl (Nat.le_of_ble_eq_true rfl) (by decide) t_X12_goLap_31 hD (fun _ _ e => S_X12_behind hρ  e) (fun x13 w12 hD => ?_)
      refine g_putI h 119 21 fl_12_233 fp_12_21 rfl (by decide) rfl t_X12_goLap_34 hD (fun w14 hD => ?_)
      refine g_aload_n h 0 t_X12_goLap_37 rfl ?_
      refine g_getI h 119 21 fl_12_233 rfl (by decide) rfl t_X12_goLap_38 ?_
      refine g_iload_n h 2 t_X12_goLap_41 rfl ?_
      refine g_join (P := fun k16 => ∀ (w15 : Wd), k16 w15 = some rr → gG ρ cs G X 58 [(0, .ref (ρ 119)), (1, .ref (ρ q5)), (2, .int x6), (3, .int x7), (4, .int x10)] [] w15) hD ?_ (fun k16 hk16 hD => ?_)
      · intro w15 hD
        unfold J_X12_goLap_j58_2 at hD
        refine g_aload_n h 0 t_X12_goLap_58 rfl ?_
        refine g_getI h 119 21 fl_12_233 rfl (by decide) rfl t_X12_goLap_59 ?_
        refine g_bipush (v := 50) h t_X12_goLap_62 (by decide) ?_
        refine g_join (P := fun k18 => ∀ (w17 : Wd), k18 w17 = some rr → gG ρ cs G X 90 [(0, .ref (ρ 119)), (1, .ref (ρ q5)), (2, .int x6), (3, .int x7), (4, .int x10)] [] w17) hD ?_ (fun k18 hk18 hD => ?_)
        · intro w17 hD
          unfold J_X12_goLap_j90_1 at hD
          obtain ⟨x19, ex19, hD⟩ := bd_ex hD
          refine g_iinc (v := x19) (L' := [(4, .int x19), (0, .ref (ρ 119)), (1, .ref (ρ q5)), (2, .int x6), (3, .int x7)]) h hn t_X12_goLap_90 (k := 4) rfl (by rw [ex19]; rfl) (by decide) rfl ?_
          refine g_goto (tgt := 19) h t_X12_goLap_93 (by decide) ?_
          refine g_loc (L' := [(0, .ref (ρ 119)), (1, .ref (ρ q5)), (2, .int x6), (3, .int x7), (4, .int x19)]) h [1, 2, 3, 4, 0] rfl ?_
          exact ih x19 _ hD
        · refine g_icmp_ne (tgt := 80) h t_X12_goLap_64 (by decide) hD (fun hD => ?_) (fun hD => ?_)
          · refine g_aload_n h 1 t_X12_goLap_80 rfl ?_
            refine g_aload_n h 0 t_X12_goLap_81 rfl ?_
            refine g_getI h 119 21 fl_12_233 rfl (by decide) rfl t_X12_goLap_82 ?_
            refine g_dup2 h t_X12_goLap_85 rfl rfl ?_
            refine g_iald h q5 (isIA_sh hq5) (isIA_lt hq5) t_X12_goLap_86 hD (fun hD => ?_)
            refine g_iconst (v := 1) h t_X12_goLap_87 (by decide) ?_
            refine g_iadd h t_X12_goLap_88 ?_
            refine g_iast h q5 (isIA_sh hq5) (isIA_lt hq5) t_X12_goLap_89 hD (fun w20 hD => ?_)
            refine g_loc (L' := [(0, .ref (ρ 119)), (1, .ref (ρ q5)), (2, .int x6), (3, .int x7), (4, .int x10)]) h [0, 1, 2, 3, 4] rfl ?_
            exact hk18 _ hD
          · refine g_aload_n h 1 t_X12_goLap_67 rfl ?_
            refine g_bipush (v := 12) h t_X12_goLap_68 (by decide) ?_
            refine g_iload_n h 3 t_X12_goLap_70 rfl ?_
            refine g_iadd h t_X12_goLap_71 ?_
            refine g_dup2 h t_X12_goLap_72 rfl rfl ?_
            refine g_iald h q5 (isIA_sh hq5) (isIA_lt hq5) t_X12_goLap_73 hD (fun hD => ?_)
            refine g_iconst (v := 1) h t_X12_goLap_74 (by decide) ?_
            refine g_iadd h t_X12_goLap_75 ?_
            refine g_iast h q5 (isIA_sh hq5) (isIA_lt hq5) t_X12_goLap_76 hD (fun w21 hD => ?_)
            refine g_goto (tgt := 90) h t_X12_goLap_77 (by decide) ?_
            refine g_loc (L' := [(0, .ref (ρ 119)), (1, .ref (ρ q5)), (2, .int x6), (3, .int x7), (4, .int x10)]) h [0, 1, 2, 3, 4] rfl ?_
            exact hk18 _ hD
      · refine g_icmp_ne (tgt := 58) h t_X12_goLap_42 (by decide) hD (fun hD => ?_) (fun hD => ?_)
        · refine g_loc (L' := [(0, .ref (ρ 119)), (1, .ref (ρ q5)), (2, .int x6), (3, .int x7), (4, .int x10)]) h [0, 1, 2, 3, 4] rfl ?_
          exact hk16 _ hD
        · refine g_aload_n h 0 t_X12_goLap_45 rfl ?_
          refine g_getI h 119 2 fl_12_17 rfl (by decide) rfl t_X12_goLap_46 ?_
          refine g_bipush (v := 8) h t_X12_goLap_49 (by decide) ?_
          refine g_iand h t_X12_goLap_51 ?_
          refine g_if_eq (tgt := 58) h t_X12_goLap_52 (by decide) hD (fun hD => ?_) (fun hD => ?_)
          · refine g_loc (L' := [(0, .ref (ρ 119)), (1, .ref (ρ q5)), (2, .int x6), (3, .int x7), (4, .int x10)]) h [0, 1, 2, 3, 4] rfl ?_
            exact hk16 _ hD
          · refine g_goto (tgt := 19) h t_X12_goLap_55 (by decide) ?_
            refine g_loc (L' := [(0, .ref (ρ 119)), (1, .ref (ρ q5)), (2, .int x6), (3, .int x7), (4, .int x10)]) h [0, 1, 2, 3, 4] rfl ?_
            exact ih x10 _ hD
set_option maxRecDepth 20000 in
theorem S_X12_goLap {l0 : Launch} {ρ : Nat → Nat} {cs : Nat → ClassId} {G : va_G} (hρ : injN ρ) {o1 : Nat} (ho1 : isIA o1) {p2 : Int32} {w : Wd} {rr : Wd} (hD : D_X12_goLap o1 p2 w = some rr) : CtV l0 ρ cs G y_X12_goLap prog_14_method_35_code 5 2 [.ref (ρ 119), .ref (ρ o1), .int p2] w rr := by
  refine ctV_of hρ (by decide) (Nat.le_of_ble_eq_true rfl) (fun X hn h hR => ?_)
  unfold D_X12_goLap at hD
  show gG ρ cs G X 0 [(0, .ref (ρ 119)), (1, .ref (ρ o1)), (2, .int p2)] [] w
  refine g_aload_n h 1 t_X12_goLap_0 rfl ?_
  refine g_bipush (v := 14) h t_X12_goLap_1 (by decide) ?_
  refine g_iald h o1 (isIA_sh ho1) (isIA_lt ho1) t_X12_goLap_3 hD (fun hD => ?_)
  refine g_bdI hD (fun x1 hD => ?_)
  refine g_istore_n (L' := [(3, .int x1), (0, .ref (ρ 119)), (1, .ref (ρ o1)), (2, .int p2)]) h hn t_X12_goLap_4 rfl (by decide) rfl ?_
  refine g_aload_n h 2 t_X12_goLap_5 rfl ?_
  refine g_iload_n h 3 t_X12_goLap_6 rfl ?_
  refine g_iald h o1 (isIA_sh ho1) (isIA_lt ho1) t_X12_goLap_7 hD (fun hD => ?_)
  refine g_bdI hD (fun x2 hD => ?_)
  refine g_istore (L' := [(4, .int x2), (3, .int x1), (0, .ref (ρ 119)), (1, .ref (ρ o1)), (2, .int p2)]) h hn t_X12_goLap_8 (by decide) rfl ?_
  refine g_aload_n h 3 t_X12_goLap_10 rfl ?_
  refine g_iload_n h 4 t_X12_goLap_11 rfl ?_
  refine g_iconst (v := 0) h t_X12_goLap_12 (by decide) ?_
  refine g_iast h o1 (isIA_sh ho1) (isIA_lt ho1) t_X12_goLap_13 hD (fun w3 hD => ?_)
  refine g_aload_n h 2 t_X12_goLap_14 rfl ?_
  refine g_iload_n h 4 t_X12_goLap_15 rfl ?_
  refine g_putI h 119 21 fl_12_233 fp_12_21 rfl (by decide) rfl t_X12_goLap_16 hD (fun w4 hD => ?_)
  refine g_loc (L' := [(0, .ref (ρ 119)), (1, .ref (ρ o1)), (2, .int p2), (3, .int x1), (4, .int x2)]) h [2, 3, 4, 1, 0] rfl ?_
  refine Q_X12_goLap_19 hρ hn h hR ho1 ?_ _ _ _ hD
  · intro w22 hD
    unfold J_X12_goLap_x96_3 at hD
    refine g_aload_n h 0 t_X12_goLap_96 rfl ?_
    refine g_dup h t_X12_goLap_97 rfl ?_
    refine g_getI h 119 20 fl_12_239 rfl (by decide) rfl t_X12_goLap_98 ?_
    refine g_iconst (v := 1) h t_X12_goLap_101 (by decide) ?_
    refine g_iadd h t_X12_goLap_102 ?_
    refine g_putI h 119 20 fl_12_239 fp_12_20 rfl (by decide) rfl t_X12_goLap_103 hD (fun w23 hD => ?_)
    obtain rfl := Option.some.inj hD
    exact hR _ _ t_X12_goLap_106
def D_X12_isOf (p1 : Int32) (p2 : Int32) : Wd → Option (Int32 × Wd) := fun w =>
  if ¬ (w.1 119 1) = 0 then (if (p1 / (w.1 119 1)) = p2 then (some (1, w)) else (some (0, w))) else none
set_option maxRecDepth 20000 in
theorem S_X12_isOf {l0 : Launch} {ρ : Nat → Nat} {cs : Nat → ClassId} {G : va_G} (hρ : injN ρ) {p1 : Int32} {p2 : Int32} {w : Wd} {rr : (Int32 × Wd)} (hD : D_X12_isOf p1 p2 w = some rr) : CtI l0 ρ cs G y_X12_isOf prog_14_method_36_code 3 .boolean 0 [.ref (ρ 119), .int p1, .int p2] w rr.1 rr.2 := by
  refine ctI_of hρ (by decide) (Nat.le_of_ble_eq_true rfl) (fun X hn h hR => ?_)
  unfold D_X12_isOf at hD
  show gG ρ cs G X 0 [(0, .ref (ρ 119)), (1, .int p1), (2, .int p2)] [] w
  refine g_iload_n h 1 t_X12_isOf_0 rfl ?_
  refine g_aload_n h 0 t_X12_isOf_1 rfl ?_
  refine g_getI h 119 1 fl_12_13 rfl (by decide) rfl t_X12_isOf_2 ?_
  refine g_idiv h t_X12_isOf_5 hD (fun hD => ?_)
  refine g_iload_n h 2 t_X12_isOf_6 rfl ?_
  refine g_icmp_ne (tgt := 14) h t_X12_isOf_7 (by decide) hD (fun hD => ?_) (fun hD => ?_)
  · refine g_iconst (v := 0) h t_X12_isOf_14 (by decide) ?_
    obtain rfl := Option.some.inj hD
    exact hR _ _ t_X12_isOf_15 (b01_n rfl)
  · refine g_iconst (v := 1) h t_X12_isOf_10 (by decide) ?_
    refine g_goto (tgt := 15) h t_X12_isOf_11 (by decide) ?_
    obtain rfl := Option.some.inj hD
    exact hR _ _ t_X12_isOf_15 (b01_n rfl)
def D_X12_take (o1 : Nat) (p2 : Int32) : Wd → Option Wd := fun w =>
  if ib 14 (ln o1) then (if ib (12 + (w.1 o1 (14 : Int32).toNatClampNeg)) (ln o1) then (if ib p2 (ln o1) then (if ib (12 + (w.1 o1 (14 : Int32).toNatClampNeg)) (ln o1) then bd (wI w o1 (12 + (w.1 o1 (14 : Int32).toNatClampNeg)).toNatClampNeg ((w.1 o1 (12 + (w.1 o1 (14 : Int32).toNatClampNeg)).toNatClampNeg) + (w.1 o1 p2.toNatClampNeg))) (fun w1 => if ib p2 (ln o1) then bd (wI w1 o1 p2.toNatClampNeg 0) (fun w2 => some w2) else none) else none) else none) else none) else none
set_option maxRecDepth 20000 in
theorem S_X12_take {l0 : Launch} {ρ : Nat → Nat} {cs : Nat → ClassId} {G : va_G} (hρ : injN ρ) {o1 : Nat} (ho1 : isIA o1) {p2 : Int32} {w : Wd} {rr : Wd} (hD : D_X12_take o1 p2 w = some rr) : CtV l0 ρ cs G y_X12_take prog_14_method_37_code 3 0 [.ref (ρ 119), .ref (ρ o1), .int p2] w rr := by
  refine ctV_of hρ (by decide) (Nat.le_of_ble_eq_true rfl) (fun X hn h hR => ?_)
  unfold D_X12_take at hD
  show gG ρ cs G X 0 [(0, .ref (ρ 119)), (1, .ref (ρ o1)), (2, .int p2)] [] w
  refine g_aload_n h 1 t_X12_take_0 rfl ?_
  refine g_bipush (v := 12) h t_X12_take_1 (by decide) ?_
  refine g_aload_n h 1 t_X12_take_3 rfl ?_
  refine g_bipush (v := 14) h t_X12_take_4 (by decide) ?_
  refine g_iald h o1 (isIA_sh ho1) (isIA_lt ho1) t_X12_take_6 hD (fun hD => ?_)
  refine g_iadd h t_X12_take_7 ?_
  refine g_dup2 h t_X12_take_8 rfl rfl ?_
  refine g_iald h o1 (isIA_sh ho1) (isIA_lt ho1) t_X12_take_9 hD (fun hD => ?_)
  refine g_aload_n h 1 t_X12_take_10 rfl ?_
  refine g_iload_n h 2 t_X12_take_11 rfl ?_
  refine g_iald h o1 (isIA_sh ho1) (isIA_lt ho1) t_X12_take_12 hD (fun hD => ?_)
  refine g_iadd h t_X12_take_13 ?_
  refine g_iast h o1 (isIA_sh ho1) (isIA_lt ho1) t_X12_take_14 hD (fun w1 hD => ?_)
  refine g_aload_n h 1 t_X12_take_15 rfl ?_
  refine g_iload_n h 2 t_X12_take_16 rfl ?_
  refine g_iconst (v := 0) h t_X12_take_17 (by decide) ?_
  refine g_iast h o1 (isIA_sh ho1) (isIA_lt ho1) t_X12_take_18 hD (fun w2 hD => ?_)
  obtain rfl := Option.some.inj hD
  exact hR _ _ t_X12_take_19
def L_X12_goMove_31 (q5 : Nat) (x6 : Int32) (x7 : Int32) (k8 : Wd → Option Wd) : Nat → Wd → Option Wd
  | 0, _ => none
  | n9 + 1, w10 =>
    if ((w10.1 119 2) &&& 2) = 0 then (k8 w10) else (if (w10.1 119 21) = 50 then (k8 w10) else (if ib (w10.1 119 21) (ln q5) then (if (w10.1 q5 (w10.1 119 21).toNatClampNeg) ≤ 1 then (k8 w10) else (if 50 ≤ (w10.1 119 20) then (k8 w10) else (bv (D_X12_goLap q5 (w10.1 119 21) w10) fun w11 => L_X12_goMove_31 q5 x6 x7 k8 n9 w11))) else none))
def J_X12_goMove_j262_1 (o1 : Nat) (x1 : Int32) (k22 : Wd → Option Wd) : Wd → Option Wd := fun w24 =>
  if ib 14 (ln o1) then bd (wI w24 o1 (14 : Int32).toNatClampNeg (1 - x1)) (fun w26 => k22 w26) else none
def J_X12_goMove_j269_2 (o1 : Nat) : Wd → Option Wd := fun w21 =>
  if ib 15 (ln o1) then (if ib 15 (ln o1) then bd (wI w21 o1 (15 : Int32).toNatClampNeg ((w21.1 o1 (15 : Int32).toNatClampNeg) + 1)) (fun w23 => some w23) else none) else none
def L_X12_goMove_194 (q28 : Nat) (x29 : Int32) (x30 : Int32) (x31 : Int32) (k32 : Wd → Option Wd) : Nat → Int32 → Wd → Option Wd
  | 0, _, _ => none
  | n33 + 1, x34, w35 =>
    if x34 < 0 then (k32 w35) else (bc (D_X12_isOf x34 x29 w35) fun x37 w36 => if x37 = 0 then (if ib x34 (ln q28) then (bc (D_X12_in (w36.1 q28 x34.toNatClampNeg) 2 3 w36) fun x39 w38 => if x39 = 0 then (k32 w38) else (bv (D_X12_take q28 x34 w38) fun w40 => bd (x34 + (-1)) fun x41 => L_X12_goMove_194 q28 x29 x30 x31 k32 n33 x41 w40)) else none) else (k32 w36))
def J_X12_goMove_x234_3 (k19 : Wd → Option Wd) : Wd → Option Wd := fun w42 =>
  k19 w42
def J_X12_goMove_j234_4 (x1 : Int32) (o1 : Nat) (x2 : Int32) (x13 : Int32) : Wd → Option Wd := fun w18 =>
  if ib (12 + x1) (ln o1) then (bd (wI w18 119 19 ((w18.1 o1 (12 + x1).toNatClampNeg) - x2)) fun w20 => bd (J_X12_goMove_j269_2 o1) fun k22 => bd (J_X12_goMove_j262_1 o1 x1 k22) fun k25 => if x13 = 0 then (k25 w20) else (if ((w20.1 119 2) &&& 16) = 0 then (k25 w20) else (k22 w20))) else none
def J_X12_goMove_j173_5 (x1 : Int32) (o1 : Nat) (x2 : Int32) (x13 : Int32) : Wd → Option Wd := fun w16 =>
  bd (J_X12_goMove_j234_4 x1 o1 x2 x13) fun k19 => if x13 = 0 then (if ((w16.1 119 2) &&& 32) = 0 then (k19 w16) else (bd (w16.1 119 21) fun x27 => L_X12_goMove_194 o1 x1 x2 x13 (J_X12_goMove_x234_3 k19) FU x27 w16)) else (k19 w16)
def J_X12_goMove_j94_6 (x1 : Int32) (o1 : Nat) (x2 : Int32) : Int32 → Wd → Option Wd := fun x13 w14 =>
  bd (J_X12_goMove_j173_5 x1 o1 x2 x13) fun k17 => if x13 = 0 then (if ((w14.1 119 2) &&& 4) = 0 then (k17 w14) else (bc (D_X12_isOf (w14.1 119 21) x1 w14) fun x44 w43 => if x44 = 0 then (k17 w43) else (if ib (w43.1 119 21) (ln o1) then (if (w43.1 o1 (w43.1 119 21).toNatClampNeg) = 1 then (bc (D_X12_pits w43) fun x46 w45 => if ib ((x46 - 1) - (w45.1 119 21)) (ln o1) then (if (w45.1 o1 ((x46 - 1) - (w45.1 119 21)).toNatClampNeg) ≤ 0 then (k17 w45) else (bv (D_X12_take o1 (w45.1 119 21) w45) fun w47 => bc (D_X12_pits w47) fun x49 w48 => bv (D_X12_take o1 ((x49 - 1) - (w48.1 119 21)) w48) fun w50 => k17 w50)) else none) else (k17 w43)) else none))) else (k17 w14)
def J_X12_goMove_x80_7 (x1 : Int32) (o1 : Nat) (x2 : Int32) : Wd → Option Wd := fun w12 =>
  bd (J_X12_goMove_j94_6 x1 o1 x2) fun k15 => if (w12.1 119 21) = 50 then (k15 1 w12) else (k15 0 w12)
def D_X12_goMove (o1 : Nat) (p2 : Int32) : Wd → Option Wd := fun w =>
  if ib 14 (ln o1) then (bd (w.1 o1 (14 : Int32).toNatClampNeg) fun x1 => if ib (12 + x1) (ln o1) then (bd (w.1 o1 (12 + x1).toNatClampNeg) fun x2 => bd (wI w 119 20 0) fun w3 => bv (D_X12_goLap o1 (((w3.1 119 1) * x1) + p2) w3) fun w4 => L_X12_goMove_31 o1 x1 x2 (J_X12_goMove_x80_7 x1 o1 x2) FU w4) else none) else none
set_option maxRecDepth 20000 in
theorem Q_X12_goMove_31 {l0 : Launch} {ρ : Nat → Nat} {cs : Nat → ClassId} {G : va_G} {X : Cx} (hρ : injN ρ) (hn : X.2.2.2.2.2.2.2.2.2.2.1 = 7) (h : Okx l0 ρ cs G X prog_14_method_38_code "SowingBoardsModel" 3) {rr : Wd} (hR : ∀ pc L, decode prog_14_method_38_code pc = .ok (.return_, 1) → gG ρ cs G X pc L [] rr) {q5 : Nat} (hq5 : isIA q5) {x6 : Int32} {x7 : Int32} {k8 : Wd → Option Wd} (hk8 : ∀ (w1 : Wd), k8 w1 = some rr → gG ρ cs G X 80 [(0, .ref (ρ 119)), (1, .ref (ρ q5)), (3, .int x6), (4, .int x7)] [] w1) : ∀ (n : Nat) (w : Wd), L_X12_goMove_31 q5 x6 x7 k8 n w = some rr → gG ρ cs G X 31 [(0, .ref (ρ 119)), (1, .ref (ρ q5)), (3, .int x6), (4, .int x7)] [] w := by
  intro n
  induction n with
  | zero =>
    intro w hD
    cases hD
  | succ n9 ih =>
    intro w10 hD
    unfold L_X12_goMove_31 at hD
    refine g_aload_n h 0 t_X12_goMove_31 rfl ?_
    refine g_getI h 119 2 fl_12_17 rfl (by decide) rfl t_X12_goMove_32 ?_
    refine g_iconst (v := 2) h t_X12_goMove_35 (by decide) ?_
    refine g_iand h t_X12_goMove_36 ?_
    refine g_if_eq (tgt := 80) h t_X12_goMove_37 (by decide) hD (fun hD => ?_) (fun hD => ?_)
    · refine g_loc (L' := [(0, .ref (ρ 119)), (1, .ref (ρ q5)), (3, .int x6), (4, .int x7)]) h [0, 1, 2, 3] rfl ?_
      exact hk8 _ hD
    · refine g_aload_n h 0 t_X12_goMove_40 rfl ?_
      refine g_getI h 119 21 fl_12_233 rfl (by decide) rfl t_X12_goMove_41 ?_
      refine g_bipush (v := 50) h t_X12_goMove_44 (by decide) ?_
      refine g_icmp_eq (tgt := 80) h t_X12_goMove_46 (by decide) hD (fun hD => ?_) (fun hD => ?_)
      · refine g_loc (L' := [(0, .ref (ρ 119)), (1, .ref (ρ q5)), (3, .int x6), (4, .int x7)]) h [0, 1, 2, 3] rfl ?_
        exact hk8 _ hD
      · refine g_aload_n h 1 t_X12_goMove_49 rfl ?_
        refine g_aload_n h 0 t_X12_goMove_50 rfl ?_
        refine g_getI h 119 21 fl_12_233 rfl (by decide) rfl t_X12_goMove_51 ?_
        refine g_iald h q5 (isIA_sh hq5) (isIA_lt hq5) t_X12_goMove_54 hD (fun hD => ?_)
        refine g_iconst (v := 1) h t_X12_goMove_55 (by decide) ?_
        refine g_icmp_le (tgt := 80) h t_X12_goMove_56 (by decide) hD (fun hD => ?_) (fun hD => ?_)
        · refine g_loc (L' := [(0, .ref (ρ 119)), (1, .ref (ρ q5)), (3, .int x6), (4, .int x7)]) h [0, 1, 2, 3] rfl ?_
          exact hk8 _ hD
        · refine g_aload_n h 0 t_X12_goMove_59 rfl ?_
          refine g_getI h 119 20 fl_12_239 rfl (by decide) rfl t_X12_goMove_60 ?_
          refine g_bipush (v := 50) h t_X12_goMove_63 (by decide) ?_
          refine g_icmp_ge (tgt := 80) h t_X12_goMove_65 (by decide) hD (fun hD => ?_) (fun hD => ?_)
          · refine g_loc (L' := [(0, .ref (ρ 119)), (1, .ref (ρ q5)), (3, .int x6), (4, .int x7)]) h [0, 1, 2, 3] rfl ?_
            exact hk8 _ hD
          · refine g_aload_n h 0 t_X12_goMove_68 rfl ?_
            refine g_aload_n h 1 t_X12_goMove_69 rfl ?_
            refine g_aload_n h 0 t_X12_goMove_70 rfl ?_
            refine g_getI h 119 21 fl_12_233 rfl (by decide) rfl t_X12_goMove_71 ?_
            refine g_callVV h 119 (As := [.ref (ρ q5), .int (w10.1 119 21)]) (st := []) my_X12_goLap mi_X12_goLap ml_12_242 rfl (by decide) rfl rfl rfl (Nat.le_of_ble_eq_true rfl) (by decide) t_X12_goMove_74 hD (fun _ e => S_X12_goLap hρ hq5 e) (fun w11 hD => ?_)
            refine g_goto (tgt := 31) h t_X12_goMove_77 (by decide) ?_
            refine g_loc (L' := [(0, .ref (ρ 119)), (1, .ref (ρ q5)), (3, .int x6), (4, .int x7)]) h [0, 1, 2, 3] rfl ?_
            exact ih _ hD
set_option maxRecDepth 20000 in
theorem Q_X12_goMove_194 {l0 : Launch} {ρ : Nat → Nat} {cs : Nat → ClassId} {G : va_G} {X : Cx} (hρ : injN ρ) (hn : X.2.2.2.2.2.2.2.2.2.2.1 = 7) (h : Okx l0 ρ cs G X prog_14_method_38_code "SowingBoardsModel" 3) {rr : Wd} (hR : ∀ pc L, decode prog_14_method_38_code pc = .ok (.return_, 1) → gG ρ cs G X pc L [] rr) {q28 : Nat} (hq28 : isIA q28) {x29 : Int32} {x30 : Int32} {x31 : Int32} {k32 : Wd → Option Wd} (hk32 : ∀ (w1 : Wd), k32 w1 = some rr → gG ρ cs G X 234 [(0, .ref (ρ 119)), (1, .ref (ρ q28)), (3, .int x29), (4, .int x30), (5, .int x31)] [] w1) : ∀ (n : Nat) (x34 : Int32) (w : Wd), L_X12_goMove_194 q28 x29 x30 x31 k32 n x34 w = some rr → gG ρ cs G X 194 [(0, .ref (ρ 119)), (1, .ref (ρ q28)), (3, .int x29), (4, .int x30), (5, .int x31), (6, .int x34)] [] w := by
  intro n
  induction n with
  | zero =>
    intro x34 w hD
    cases hD
  | succ n33 ih =>
    intro x34 w35 hD
    unfold L_X12_goMove_194 at hD
    refine g_iload h 5 t_X12_goMove_194 rfl ?_
    refine g_if_lt (tgt := 234) h t_X12_goMove_196 (by decide) hD (fun hD => ?_) (fun hD => ?_)
    · refine g_loc (L' := [(0, .ref (ρ 119)), (1, .ref (ρ q28)), (3, .int x29), (4, .int x30), (5, .int x31)]) h [0, 1, 2, 3, 4] rfl ?_
      exact hk32 _ hD
    · refine g_aload_n h 0 t_X12_goMove_199 rfl ?_
      refine g_iload h 5 t_X12_goMove_200 rfl ?_
      refine g_iload_n h 2 t_X12_goMove_202 rfl ?_
      refine g_callVI h 119 (As := [.int x34, .int x29]) (st := []) my_X12_isOf mi_X12_isOf ml_12_246 rfl (by decide) rfl rfl rfl (Nat.le_of_ble_eq_true rfl) (by decide) t_X12_goMove_203 hD (fun _ _ e => S_X12_isOf hρ  e) (fun x37 w36 hD => ?_)
      refine g_if_ne (tgt := 234) h t_X12_goMove_206 (by decide) hD (fun hD => ?_) (fun hD => ?_)
      · refine g_loc (L' := [(0, .ref (ρ 119)), (1, .ref (ρ q28)), (3, .int x29), (4, .int x30), (5, .int x31)]) h [0, 1, 2, 3, 4] rfl ?_
        exact hk32 _ hD
      · refine g_aload_n h 1 t_X12_goMove_209 rfl ?_
        refine g_iload h 5 t_X12_goMove_210 rfl ?_
        refine g_iald h q28 (isIA_sh hq28) (isIA_lt hq28) t_X12_goMove_212 hD (fun hD => ?_)
        refine g_iconst (v := 2) h t_X12_goMove_213 (by decide) ?_
        refine g_iconst (v := 3) h t_X12_goMove_214 (by decide) ?_
        refine g_callSI h (As := [.int (w36.1 q28 x34.toNatClampNeg), .int 2, .int 3]) (st := []) my_X12_in ms_X12_in ml_12_118 rfl rfl (Nat.le_of_ble_eq_true rfl) (by decide) t_X12_goMove_215 hD (fun _ _ e => S_X12_in hρ  e) (fun x39 w38 hD => ?_)
        refine g_if_eq (tgt := 234) h t_X12_goMove_218 (by decide) hD (fun hD => ?_) (fun hD => ?_)
        · refine g_loc (L' := [(0, .ref (ρ 119)), (1, .ref (ρ q28)), (3, .int x29), (4, .int x30), (5, .int x31)]) h [0, 1, 2, 3, 4] rfl ?_
          exact hk32 _ hD
        · refine g_aload_n h 0 t_X12_goMove_221 rfl ?_
          refine g_aload_n h 1 t_X12_goMove_222 rfl ?_
          refine g_iload h 5 t_X12_goMove_223 rfl ?_
          refine g_callVV h 119 (As := [.ref (ρ q28), .int x34]) (st := []) my_X12_take mi_X12_take ml_12_250 rfl (by decide) rfl rfl rfl (Nat.le_of_ble_eq_true rfl) (by decide) t_X12_goMove_225 hD (fun _ e => S_X12_take hρ hq28 e) (fun w40 hD => ?_)
          obtain ⟨x41, ex41, hD⟩ := bd_ex hD
          refine g_iinc (v := x41) (L' := [(6, .int x41), (0, .ref (ρ 119)), (1, .ref (ρ q28)), (3, .int x29), (4, .int x30), (5, .int x31)]) h hn t_X12_goMove_228 (k := 5) rfl (by rw [ex41]; rfl) (by decide) rfl ?_
          refine g_goto (tgt := 194) h t_X12_goMove_231 (by decide) ?_
          refine g_loc (L' := [(0, .ref (ρ 119)), (1, .ref (ρ q28)), (3, .int x29), (4, .int x30), (5, .int x31), (6, .int x41)]) h [1, 2, 3, 4, 5, 0] rfl ?_
          exact ih x41 _ hD
set_option maxRecDepth 20000 in
theorem S_X12_goMove {l0 : Launch} {ρ : Nat → Nat} {cs : Nat → ClassId} {G : va_G} (hρ : injN ρ) {o1 : Nat} (ho1 : isIA o1) {p2 : Int32} {w : Wd} {rr : Wd} (hD : D_X12_goMove o1 p2 w = some rr) : CtV l0 ρ cs G y_X12_goMove prog_14_method_38_code 7 3 [.ref (ρ 119), .ref (ρ o1), .int p2] w rr := by
  refine ctV_of hρ (by decide) (Nat.le_of_ble_eq_true rfl) (fun X hn h hR => ?_)
  unfold D_X12_goMove at hD
  show gG ρ cs G X 0 [(0, .ref (ρ 119)), (1, .ref (ρ o1)), (2, .int p2)] [] w
  refine g_aload_n h 1 t_X12_goMove_0 rfl ?_
  refine g_bipush (v := 14) h t_X12_goMove_1 (by decide) ?_
  refine g_iald h o1 (isIA_sh ho1) (isIA_lt ho1) t_X12_goMove_3 hD (fun hD => ?_)
  refine g_bdI hD (fun x1 hD => ?_)
  refine g_istore_n (L' := [(3, .int x1), (0, .ref (ρ 119)), (1, .ref (ρ o1)), (2, .int p2)]) h hn t_X12_goMove_4 rfl (by decide) rfl ?_
  refine g_aload_n h 2 t_X12_goMove_5 rfl ?_
  refine g_bipush (v := 12) h t_X12_goMove_6 (by decide) ?_
  refine g_iload_n h 0 t_X12_goMove_8 rfl ?_
  refine g_iadd h t_X12_goMove_9 ?_
  refine g_iald h o1 (isIA_sh ho1) (isIA_lt ho1) t_X12_goMove_10 hD (fun hD => ?_)
  refine g_bdI hD (fun x2 hD => ?_)
  refine g_istore (L' := [(4, .int x2), (3, .int x1), (0, .ref (ρ 119)), (1, .ref (ρ o1)), (2, .int p2)]) h hn t_X12_goMove_11 (by decide) rfl ?_
  refine g_aload_n h 2 t_X12_goMove_13 rfl ?_
  refine g_iconst (v := 0) h t_X12_goMove_14 (by decide) ?_
  refine g_putI h 119 20 fl_12_239 fp_12_20 rfl (by decide) rfl t_X12_goMove_15 hD (fun w3 hD => ?_)
  refine g_aload_n h 2 t_X12_goMove_18 rfl ?_
  refine g_aload_n h 3 t_X12_goMove_19 rfl ?_
  refine g_aload_n h 2 t_X12_goMove_20 rfl ?_
  refine g_getI h 119 1 fl_12_13 rfl (by decide) rfl t_X12_goMove_21 ?_
  refine g_iload_n h 1 t_X12_goMove_24 rfl ?_
  refine g_imul h t_X12_goMove_25 ?_
  refine g_iload_n h 4 t_X12_goMove_26 rfl ?_
  refine g_iadd h t_X12_goMove_27 ?_
  refine g_callVV h 119 (As := [.ref (ρ o1), .int (((w3.1 119 1) * x1) + p2)]) (st := []) my_X12_goLap mi_X12_goLap ml_12_242 rfl (by decide) rfl rfl rfl (Nat.le_of_ble_eq_true rfl) (by decide) t_X12_goMove_28 hD (fun _ e => S_X12_goLap hρ ho1 e) (fun w4 hD => ?_)
  refine g_loc (L' := [(0, .ref (ρ 119)), (1, .ref (ρ o1)), (3, .int x1), (4, .int x2)]) h [2, 3, 1, 0] rfl ?_
  refine Q_X12_goMove_31 hρ hn h hR ho1 ?_ _  _ hD
  · intro w12 hD
    unfold J_X12_goMove_x80_7 at hD
    refine g_aload_n h 0 t_X12_goMove_80 rfl ?_
    refine g_getI h 119 21 fl_12_233 rfl (by decide) rfl t_X12_goMove_81 ?_
    refine g_bipush (v := 50) h t_X12_goMove_84 (by decide) ?_
    refine g_join (P := fun k15 => ∀ (x13 : Int32) (w14 : Wd), k15 x13 w14 = some rr → gG ρ cs G X 94 [(0, .ref (ρ 119)), (1, .ref (ρ o1)), (3, .int x1), (4, .int x2)] [.int x13] w14) hD ?_ (fun k15 hk15 hD => ?_)
    · intro x13 w14 hD
      unfold J_X12_goMove_j94_6 at hD
      refine g_istore (L' := [(5, .int x13), (0, .ref (ρ 119)), (1, .ref (ρ o1)), (3, .int x1), (4, .int x2)]) h hn t_X12_goMove_94 (by decide) rfl ?_
      refine g_iload h 0 t_X12_goMove_96 rfl ?_
      refine g_join (P := fun k17 => ∀ (w16 : Wd), k17 w16 = some rr → gG ρ cs G X 173 [(0, .ref (ρ 119)), (1, .ref (ρ o1)), (3, .int x1), (4, .int x2), (5, .int x13)] [] w16) hD ?_ (fun k17 hk17 hD => ?_)
      · intro w16 hD
        unfold J_X12_goMove_j173_5 at hD
        refine g_iload h 4 t_X12_goMove_173 rfl ?_
        refine g_join (P := fun k19 => ∀ (w18 : Wd), k19 w18 = some rr → gG ρ cs G X 234 [(0, .ref (ρ 119)), (1, .ref (ρ o1)), (3, .int x1), (4, .int x2), (5, .int x13)] [] w18) hD ?_ (fun k19 hk19 hD => ?_)
        · intro w18 hD
          unfold J_X12_goMove_j234_4 at hD
          refine g_aload_n h 0 t_X12_goMove_234 rfl ?_
          refine g_aload_n h 1 t_X12_goMove_235 rfl ?_
          refine g_bipush (v := 12) h t_X12_goMove_236 (by decide) ?_
          refine g_iload_n h 2 t_X12_goMove_238 rfl ?_
          refine g_iadd h t_X12_goMove_239 ?_
          refine g_iald h o1 (isIA_sh ho1) (isIA_lt ho1) t_X12_goMove_240 hD (fun hD => ?_)
          refine g_iload h 3 t_X12_goMove_241 rfl ?_
          refine g_isub h t_X12_goMove_243 ?_
          refine g_putI h 119 19 fl_12_253 fp_12_19 rfl (by decide) rfl t_X12_goMove_244 hD (fun w20 hD => ?_)
          refine g_iload h 4 t_X12_goMove_247 rfl ?_
          refine g_join (P := fun k22 => ∀ (w21 : Wd), k22 w21 = some rr → gG ρ cs G X 269 [(1, .ref (ρ o1))] [] w21) hD ?_ (fun k22 hk22 hD => ?_)
          · intro w21 hD
            unfold J_X12_goMove_j269_2 at hD
            refine g_aload_n h 0 t_X12_goMove_269 rfl ?_
            refine g_bipush (v := 15) h t_X12_goMove_270 (by decide) ?_
            refine g_dup2 h t_X12_goMove_272 rfl rfl ?_
            refine g_iald h o1 (isIA_sh ho1) (isIA_lt ho1) t_X12_goMove_273 hD (fun hD => ?_)
            refine g_iconst (v := 1) h t_X12_goMove_274 (by decide) ?_
            refine g_iadd h t_X12_goMove_275 ?_
            refine g_iast h o1 (isIA_sh ho1) (isIA_lt ho1) t_X12_goMove_276 hD (fun w23 hD => ?_)
            obtain rfl := Option.some.inj hD
            exact hR _ _ t_X12_goMove_277
          · refine g_join (P := fun k25 => ∀ (w24 : Wd), k25 w24 = some rr → gG ρ cs G X 262 [(1, .ref (ρ o1)), (3, .int x1)] [] w24) hD ?_ (fun k25 hk25 hD => ?_)
            · intro w24 hD
              unfold J_X12_goMove_j262_1 at hD
              refine g_aload_n h 0 t_X12_goMove_262 rfl ?_
              refine g_bipush (v := 14) h t_X12_goMove_263 (by decide) ?_
              refine g_iconst (v := 1) h t_X12_goMove_265 (by decide) ?_
              refine g_iload_n h 1 t_X12_goMove_266 rfl ?_
              refine g_isub h t_X12_goMove_267 ?_
              refine g_iast h o1 (isIA_sh ho1) (isIA_lt ho1) t_X12_goMove_268 hD (fun w26 hD => ?_)
              refine g_loc (L' := [(1, .ref (ρ o1))]) h [0] rfl ?_
              exact hk22 _ hD
            · refine g_if_eq (tgt := 262) h t_X12_goMove_249 (by decide) hD (fun hD => ?_) (fun hD => ?_)
              · refine g_loc (L' := [(1, .ref (ρ o1)), (3, .int x1)]) h [1, 2] rfl ?_
                exact hk25 _ hD
              · refine g_aload_n h 0 t_X12_goMove_252 rfl ?_
                refine g_getI h 119 2 fl_12_17 rfl (by decide) rfl t_X12_goMove_253 ?_
                refine g_bipush (v := 16) h t_X12_goMove_256 (by decide) ?_
                refine g_iand h t_X12_goMove_258 ?_
                refine g_if_ne (tgt := 269) h t_X12_goMove_259 (by decide) hD (fun hD => ?_) (fun hD => ?_)
                · refine g_loc (L' := [(1, .ref (ρ o1))]) h [1] rfl ?_
                  exact hk22 _ hD
                · refine g_loc (L' := [(1, .ref (ρ o1)), (3, .int x1)]) h [1, 2] rfl ?_
                  exact hk25 _ hD
        · refine g_if_ne (tgt := 234) h t_X12_goMove_175 (by decide) hD (fun hD => ?_) (fun hD => ?_)
          · refine g_loc (L' := [(0, .ref (ρ 119)), (1, .ref (ρ o1)), (3, .int x1), (4, .int x2), (5, .int x13)]) h [0, 1, 2, 3, 4] rfl ?_
            exact hk19 _ hD
          · refine g_aload_n h 0 t_X12_goMove_178 rfl ?_
            refine g_getI h 119 2 fl_12_17 rfl (by decide) rfl t_X12_goMove_179 ?_
            refine g_bipush (v := 32) h t_X12_goMove_182 (by decide) ?_
            refine g_iand h t_X12_goMove_184 ?_
            refine g_if_eq (tgt := 234) h t_X12_goMove_185 (by decide) hD (fun hD => ?_) (fun hD => ?_)
            · refine g_loc (L' := [(0, .ref (ρ 119)), (1, .ref (ρ o1)), (3, .int x1), (4, .int x2), (5, .int x13)]) h [0, 1, 2, 3, 4] rfl ?_
              exact hk19 _ hD
            · refine g_aload_n h 0 t_X12_goMove_188 rfl ?_
              refine g_getI h 119 21 fl_12_233 rfl (by decide) rfl t_X12_goMove_189 ?_
              refine g_bdI hD (fun x27 hD => ?_)
              refine g_istore (L' := [(6, .int x27), (0, .ref (ρ 119)), (1, .ref (ρ o1)), (3, .int x1), (4, .int x2), (5, .int x13)]) h hn t_X12_goMove_192 (by decide) rfl ?_
              refine g_loc (L' := [(0, .ref (ρ 119)), (1, .ref (ρ o1)), (3, .int x1), (4, .int x2), (5, .int x13), (6, .int x27)]) h [1, 2, 3, 4, 5, 0] rfl ?_
              refine Q_X12_goMove_194 hρ hn h hR ho1 ?_ _ _ _ hD
              · intro w42 hD
                unfold J_X12_goMove_x234_3 at hD
                refine g_loc (L' := [(0, .ref (ρ 119)), (1, .ref (ρ o1)), (3, .int x1), (4, .int x2), (5, .int x13)]) h [0, 1, 2, 3, 4] rfl ?_
                exact hk19 _ hD
      · refine g_if_ne (tgt := 173) h t_X12_goMove_98 (by decide) hD (fun hD => ?_) (fun hD => ?_)
        · refine g_loc (L' := [(0, .ref (ρ 119)), (1, .ref (ρ o1)), (3, .int x1), (4, .int x2), (5, .int x13)]) h [1, 2, 3, 4, 0] rfl ?_
          exact hk17 _ hD
        · refine g_aload_n h 1 t_X12_goMove_101 rfl ?_
          refine g_getI h 119 2 fl_12_17 rfl (by decide) rfl t_X12_goMove_102 ?_
          refine g_iconst (v := 4) h t_X12_goMove_105 (by decide) ?_
          refine g_iand h t_X12_goMove_106 ?_
          refine g_if_eq (tgt := 173) h t_X12_goMove_107 (by decide) hD (fun hD => ?_) (fun hD => ?_)
          · refine g_loc (L' := [(0, .ref (ρ 119)), (1, .ref (ρ o1)), (3, .int x1), (4, .int x2), (5, .int x13)]) h [1, 2, 3, 4, 0] rfl ?_
            exact hk17 _ hD
          · refine g_aload_n h 1 t_X12_goMove_110 rfl ?_
            refine g_aload_n h 1 t_X12_goMove_111 rfl ?_
            refine g_getI h 119 21 fl_12_233 rfl (by decide) rfl t_X12_goMove_112 ?_
            refine g_iload_n h 3 t_X12_goMove_115 rfl ?_
            refine g_callVI h 119 (As := [.int (w14.1 119 21), .int x1]) (st := []) my_X12_isOf mi_X12_isOf ml_12_246 rfl (by decide) rfl rfl rfl (Nat.le_of_ble_eq_true rfl) (by decide) t_X12_goMove_116 hD (fun _ _ e => S_X12_isOf hρ  e) (fun x44 w43 hD => ?_)
            refine g_if_eq (tgt := 173) h t_X12_goMove_119 (by decide) hD (fun hD => ?_) (fun hD => ?_)
            · refine g_loc (L' := [(0, .ref (ρ 119)), (1, .ref (ρ o1)), (3, .int x1), (4, .int x2), (5, .int x13)]) h [1, 2, 3, 4, 0] rfl ?_
              exact hk17 _ hD
            · refine g_aload_n h 2 t_X12_goMove_122 rfl ?_
              refine g_aload_n h 1 t_X12_goMove_123 rfl ?_
              refine g_getI h 119 21 fl_12_233 rfl (by decide) rfl t_X12_goMove_124 ?_
              refine g_iald h o1 (isIA_sh ho1) (isIA_lt ho1) t_X12_goMove_127 hD (fun hD => ?_)
              refine g_iconst (v := 1) h t_X12_goMove_128 (by decide) ?_
              refine g_icmp_ne (tgt := 173) h t_X12_goMove_129 (by decide) hD (fun hD => ?_) (fun hD => ?_)
              · refine g_loc (L' := [(0, .ref (ρ 119)), (1, .ref (ρ o1)), (3, .int x1), (4, .int x2), (5, .int x13)]) h [1, 2, 3, 4, 0] rfl ?_
                exact hk17 _ hD
              · refine g_aload_n h 2 t_X12_goMove_132 rfl ?_
                refine g_aload_n h 1 t_X12_goMove_133 rfl ?_
                refine g_callVI h 119 (As := []) (st := [.ref (ρ o1)]) my_X12_pits mi_X12_pits ml_12_214 rfl (by decide) rfl rfl rfl (Nat.le_of_ble_eq_true rfl) (by decide) t_X12_goMove_134 hD (fun _ _ e => S_X12_pits hρ  e) (fun x46 w45 hD => ?_)
                refine g_iconst (v := 1) h t_X12_goMove_137 (by decide) ?_
                refine g_isub h t_X12_goMove_138 ?_
                refine g_aload_n h 1 t_X12_goMove_139 rfl ?_
                refine g_getI h 119 21 fl_12_233 rfl (by decide) rfl t_X12_goMove_140 ?_
                refine g_isub h t_X12_goMove_143 ?_
                refine g_iald h o1 (isIA_sh ho1) (isIA_lt ho1) t_X12_goMove_144 hD (fun hD => ?_)
                refine g_if_le (tgt := 173) h t_X12_goMove_145 (by decide) hD (fun hD => ?_) (fun hD => ?_)
                · refine g_loc (L' := [(0, .ref (ρ 119)), (1, .ref (ρ o1)), (3, .int x1), (4, .int x2), (5, .int x13)]) h [1, 2, 3, 4, 0] rfl ?_
                  exact hk17 _ hD
                · refine g_aload_n h 1 t_X12_goMove_148 rfl ?_
                  refine g_aload_n h 2 t_X12_goMove_149 rfl ?_
                  refine g_aload_n h 1 t_X12_goMove_150 rfl ?_
                  refine g_getI h 119 21 fl_12_233 rfl (by decide) rfl t_X12_goMove_151 ?_
                  refine g_callVV h 119 (As := [.ref (ρ o1), .int (w45.1 119 21)]) (st := []) my_X12_take mi_X12_take ml_12_250 rfl (by decide) rfl rfl rfl (Nat.le_of_ble_eq_true rfl) (by decide) t_X12_goMove_154 hD (fun _ e => S_X12_take hρ ho1 e) (fun w47 hD => ?_)
                  refine g_aload_n h 1 t_X12_goMove_157 rfl ?_
                  refine g_aload_n h 2 t_X12_goMove_158 rfl ?_
                  refine g_aload_n h 1 t_X12_goMove_159 rfl ?_
                  refine g_callVI h 119 (As := []) (st := [.ref (ρ o1), .ref (ρ 119)]) my_X12_pits mi_X12_pits ml_12_214 rfl (by decide) rfl rfl rfl (Nat.le_of_ble_eq_true rfl) (by decide) t_X12_goMove_160 hD (fun _ _ e => S_X12_pits hρ  e) (fun x49 w48 hD => ?_)
                  refine g_iconst (v := 1) h t_X12_goMove_163 (by decide) ?_
                  refine g_isub h t_X12_goMove_164 ?_
                  refine g_aload_n h 1 t_X12_goMove_165 rfl ?_
                  refine g_getI h 119 21 fl_12_233 rfl (by decide) rfl t_X12_goMove_166 ?_
                  refine g_isub h t_X12_goMove_169 ?_
                  refine g_callVV h 119 (As := [.ref (ρ o1), .int ((x49 - 1) - (w48.1 119 21))]) (st := []) my_X12_take mi_X12_take ml_12_250 rfl (by decide) rfl rfl rfl (Nat.le_of_ble_eq_true rfl) (by decide) t_X12_goMove_170 hD (fun _ e => S_X12_take hρ ho1 e) (fun w50 hD => ?_)
                  refine g_loc (L' := [(0, .ref (ρ 119)), (1, .ref (ρ o1)), (3, .int x1), (4, .int x2), (5, .int x13)]) h [1, 2, 3, 4, 0] rfl ?_
                  exact hk17 _ hD
    · refine g_icmp_ne (tgt := 93) h t_X12_goMove_86 (by decide) hD (fun hD => ?_) (fun hD => ?_)
      · refine g_iconst (v := 0) h t_X12_goMove_93 (by decide) ?_
        refine g_loc (L' := [(0, .ref (ρ 119)), (1, .ref (ρ o1)), (3, .int x1), (4, .int x2)]) h [0, 1, 2, 3] rfl ?_
        exact hk15 0 _ hD
      · refine g_iconst (v := 1) h t_X12_goMove_89 (by decide) ?_
        refine g_goto (tgt := 94) h t_X12_goMove_90 (by decide) ?_
        refine g_loc (L' := [(0, .ref (ρ 119)), (1, .ref (ρ o1)), (3, .int x1), (4, .int x2)]) h [0, 1, 2, 3] rfl ?_
        exact hk15 1 _ hD
def D_X12_isOver (o1 : Nat) : Wd → Option (Int32 × Wd) := fun w =>
  if ib 14 (ln o1) then (bc (D_X12_seeds o1 ((w.1 119 1) * (w.1 o1 (14 : Int32).toNatClampNeg)) (w.1 119 1) w) fun x2 w1 => if x2 = 0 then (some (1, w1)) else (some (0, w1))) else none
set_option maxRecDepth 20000 in
theorem S_X12_isOver {l0 : Launch} {ρ : Nat → Nat} {cs : Nat → ClassId} {G : va_G} (hρ : injN ρ) {o1 : Nat} (ho1 : isIA o1) {w : Wd} {rr : (Int32 × Wd)} (hD : D_X12_isOver o1 w = some rr) : CtI l0 ρ cs G y_X12_isOver prog_14_method_39_code 2 .boolean 1 [.ref (ρ 119), .ref (ρ o1)] w rr.1 rr.2 := by
  refine ctI_of hρ (by decide) (Nat.le_of_ble_eq_true rfl) (fun X hn h hR => ?_)
  unfold D_X12_isOver at hD
  show gG ρ cs G X 0 [(0, .ref (ρ 119)), (1, .ref (ρ o1))] [] w
  refine g_aload_n h 0 t_X12_isOver_0 rfl ?_
  refine g_aload_n h 1 t_X12_isOver_1 rfl ?_
  refine g_aload_n h 0 t_X12_isOver_2 rfl ?_
  refine g_getI h 119 1 fl_12_13 rfl (by decide) rfl t_X12_isOver_3 ?_
  refine g_aload_n h 1 t_X12_isOver_6 rfl ?_
  refine g_bipush (v := 14) h t_X12_isOver_7 (by decide) ?_
  refine g_iald h o1 (isIA_sh ho1) (isIA_lt ho1) t_X12_isOver_9 hD (fun hD => ?_)
  refine g_imul h t_X12_isOver_10 ?_
  refine g_aload_n h 0 t_X12_isOver_11 rfl ?_
  refine g_getI h 119 1 fl_12_13 rfl (by decide) rfl t_X12_isOver_12 ?_
  refine g_callVI h 119 (As := [.ref (ρ o1), .int ((w.1 119 1) * (w.1 o1 (14 : Int32).toNatClampNeg)), .int (w.1 119 1)]) (st := []) my_X12_seeds mi_X12_seeds ml_12_229 rfl (by decide) rfl rfl rfl (Nat.le_of_ble_eq_true rfl) (by decide) t_X12_isOver_15 hD (fun _ _ e => S_X12_seeds hρ ho1 e) (fun x2 w1 hD => ?_)
  refine g_if_ne (tgt := 25) h t_X12_isOver_18 (by decide) hD (fun hD => ?_) (fun hD => ?_)
  · refine g_iconst (v := 0) h t_X12_isOver_25 (by decide) ?_
    obtain rfl := Option.some.inj hD
    exact hR _ _ t_X12_isOver_26 (b01_n rfl)
  · refine g_iconst (v := 1) h t_X12_isOver_21 (by decide) ?_
    refine g_goto (tgt := 26) h t_X12_isOver_22 (by decide) ?_
    obtain rfl := Option.some.inj hD
    exact hR _ _ t_X12_isOver_26 (b01_n rfl)
def D_X12_refuses (o1 : Nat) (p2 : Int32) : Wd → Option (Int32 × Wd) := fun w =>
  bc (D_X12_in p2 0 ((w.1 119 1) - 1) w) fun x2 w1 => if x2 = 0 then (some ((-1), w1)) else (if ib 14 (ln o1) then (if ib (((w1.1 119 1) * (w1.1 o1 (14 : Int32).toNatClampNeg)) + p2) (ln o1) then (if (w1.1 o1 (((w1.1 119 1) * (w1.1 o1 (14 : Int32).toNatClampNeg)) + p2).toNatClampNeg) = 0 then (some ((-2), w1)) else (some (0, w1))) else none) else none)
set_option maxRecDepth 20000 in
theorem S_X12_refuses {l0 : Launch} {ρ : Nat → Nat} {cs : Nat → ClassId} {G : va_G} (hρ : injN ρ) {o1 : Nat} (ho1 : isIA o1) {p2 : Int32} {w : Wd} {rr : (Int32 × Wd)} (hD : D_X12_refuses o1 p2 w = some rr) : CtI l0 ρ cs G y_X12_refuses prog_14_method_40_code 3 .int 1 [.ref (ρ 119), .ref (ρ o1), .int p2] w rr.1 rr.2 := by
  refine ctI_of hρ (by decide) (Nat.le_of_ble_eq_true rfl) (fun X hn h hR => ?_)
  unfold D_X12_refuses at hD
  show gG ρ cs G X 0 [(0, .ref (ρ 119)), (1, .ref (ρ o1)), (2, .int p2)] [] w
  refine g_iload_n h 2 t_X12_refuses_0 rfl ?_
  refine g_iconst (v := 0) h t_X12_refuses_1 (by decide) ?_
  refine g_aload_n h 0 t_X12_refuses_2 rfl ?_
  refine g_getI h 119 1 fl_12_13 rfl (by decide) rfl t_X12_refuses_3 ?_
  refine g_iconst (v := 1) h t_X12_refuses_6 (by decide) ?_
  refine g_isub h t_X12_refuses_7 ?_
  refine g_callSI h (As := [.int p2, .int 0, .int ((w.1 119 1) - 1)]) (st := []) my_X12_in ms_X12_in ml_12_118 rfl rfl (Nat.le_of_ble_eq_true rfl) (by decide) t_X12_refuses_8 hD (fun _ _ e => S_X12_in hρ  e) (fun x2 w1 hD => ?_)
  refine g_if_ne (tgt := 16) h t_X12_refuses_11 (by decide) hD (fun hD => ?_) (fun hD => ?_)
  · refine g_aload_n h 1 t_X12_refuses_16 rfl ?_
    refine g_aload_n h 0 t_X12_refuses_17 rfl ?_
    refine g_getI h 119 1 fl_12_13 rfl (by decide) rfl t_X12_refuses_18 ?_
    refine g_aload_n h 1 t_X12_refuses_21 rfl ?_
    refine g_bipush (v := 14) h t_X12_refuses_22 (by decide) ?_
    refine g_iald h o1 (isIA_sh ho1) (isIA_lt ho1) t_X12_refuses_24 hD (fun hD => ?_)
    refine g_imul h t_X12_refuses_25 ?_
    refine g_iload_n h 2 t_X12_refuses_26 rfl ?_
    refine g_iadd h t_X12_refuses_27 ?_
    refine g_iald h o1 (isIA_sh ho1) (isIA_lt ho1) t_X12_refuses_28 hD (fun hD => ?_)
    refine g_if_ne (tgt := 37) h t_X12_refuses_29 (by decide) hD (fun hD => ?_) (fun hD => ?_)
    · refine g_iconst (v := 0) h t_X12_refuses_37 (by decide) ?_
      obtain rfl := Option.some.inj hD
      exact hR _ _ t_X12_refuses_38 rfl
    · refine g_bipush (v := (-2)) h t_X12_refuses_32 (by decide) ?_
      refine g_goto (tgt := 38) h t_X12_refuses_34 (by decide) ?_
      obtain rfl := Option.some.inj hD
      exact hR _ _ t_X12_refuses_38 rfl
  · refine g_iconst (v := (-1)) h t_X12_refuses_14 (by decide) ?_
    obtain rfl := Option.some.inj hD
    exact hR _ _ t_X12_refuses_15 rfl
def L_X12_lay_2 (q1 : Nat) (q2 : Nat) (x3 : Int32) (k4 : Wd → Option Wd) : Nat → Int32 → Wd → Option Wd
  | 0, _, _ => none
  | n5 + 1, x6, w7 =>
    if 16 ≤ x6 then (k4 w7) else (if ib x6 (ln q1) then (if ib (x3 + x6) (ln q2) then bd (wI w7 q2 (x3 + x6).toNatClampNeg (w7.1 q1 x6.toNatClampNeg)) (fun w8 => bd (x6 + 1) fun x9 => L_X12_lay_2 q1 q2 x3 k4 n5 x9 w8) else none) else none)
def J_X12_lay_x22_1  : Wd → Option Wd := fun w10 =>
  some w10
def D_X12_lay (o0 : Nat) (o1 : Nat) (p2 : Int32) : Wd → Option Wd := fun w =>
  L_X12_lay_2 o0 o1 p2 J_X12_lay_x22_1 FU 0 w
set_option maxRecDepth 20000 in
theorem Q_X12_lay_2 {l0 : Launch} {ρ : Nat → Nat} {cs : Nat → ClassId} {G : va_G} {X : Cx} (hρ : injN ρ) (hn : X.2.2.2.2.2.2.2.2.2.2.1 = 4) (h : Okx l0 ρ cs G X prog_14_method_41_code "SowingBoardsModel" 0) {rr : Wd} (hR : ∀ pc L, decode prog_14_method_41_code pc = .ok (.return_, 1) → gG ρ cs G X pc L [] rr) {q1 : Nat} (hq1 : isIA q1) {q2 : Nat} (hq2 : isIA q2) {x3 : Int32} {k4 : Wd → Option Wd} (hk4 : ∀ (w1 : Wd), k4 w1 = some rr → gG ρ cs G X 22 [] [] w1) : ∀ (n : Nat) (x6 : Int32) (w : Wd), L_X12_lay_2 q1 q2 x3 k4 n x6 w = some rr → gG ρ cs G X 2 [(0, .ref (ρ q1)), (1, .ref (ρ q2)), (2, .int x3), (3, .int x6)] [] w := by
  intro n
  induction n with
  | zero =>
    intro x6 w hD
    cases hD
  | succ n5 ih =>
    intro x6 w7 hD
    unfold L_X12_lay_2 at hD
    refine g_iload_n h 3 t_X12_lay_2 rfl ?_
    refine g_bipush (v := 16) h t_X12_lay_3 (by decide) ?_
    refine g_icmp_ge (tgt := 22) h t_X12_lay_5 (by decide) hD (fun hD => ?_) (fun hD => ?_)
    · refine g_loc (L' := []) h [] rfl ?_
      exact hk4 _ hD
    · refine g_aload_n h 1 t_X12_lay_8 rfl ?_
      refine g_iload_n h 2 t_X12_lay_9 rfl ?_
      refine g_iload_n h 3 t_X12_lay_10 rfl ?_
      refine g_iadd h t_X12_lay_11 ?_
      refine g_aload_n h 0 t_X12_lay_12 rfl ?_
      refine g_iload_n h 3 t_X12_lay_13 rfl ?_
      refine g_iald h q1 (isIA_sh hq1) (isIA_lt hq1) t_X12_lay_14 hD (fun hD => ?_)
      refine g_iast h q2 (isIA_sh hq2) (isIA_lt hq2) t_X12_lay_15 hD (fun w8 hD => ?_)
      obtain ⟨x9, ex9, hD⟩ := bd_ex hD
      refine g_iinc (v := x9) (L' := [(3, .int x9), (0, .ref (ρ q1)), (1, .ref (ρ q2)), (2, .int x3)]) h hn t_X12_lay_16 (k := 3) rfl (by rw [ex9]; rfl) (by decide) rfl ?_
      refine g_goto (tgt := 2) h t_X12_lay_19 (by decide) ?_
      refine g_loc (L' := [(0, .ref (ρ q1)), (1, .ref (ρ q2)), (2, .int x3), (3, .int x9)]) h [1, 2, 3, 0] rfl ?_
      exact ih x9 _ hD
set_option maxRecDepth 20000 in
theorem S_X12_lay {l0 : Launch} {ρ : Nat → Nat} {cs : Nat → ClassId} {G : va_G} (hρ : injN ρ) {o0 : Nat} (ho0 : isIA o0) {o1 : Nat} (ho1 : isIA o1) {p2 : Int32} {w : Wd} {rr : Wd} (hD : D_X12_lay o0 o1 p2 w = some rr) : CtV l0 ρ cs G y_X12_lay prog_14_method_41_code 4 0 [.ref (ρ o0), .ref (ρ o1), .int p2] w rr := by
  refine ctV_of hρ (by decide) (Nat.le_of_ble_eq_true rfl) (fun X hn h hR => ?_)
  unfold D_X12_lay at hD
  show gG ρ cs G X 0 [(0, .ref (ρ o0)), (1, .ref (ρ o1)), (2, .int p2)] [] w
  refine g_iconst (v := 0) h t_X12_lay_0 (by decide) ?_
  refine g_istore_n (L' := [(3, .int 0), (0, .ref (ρ o0)), (1, .ref (ρ o1)), (2, .int p2)]) h hn t_X12_lay_1 rfl (by decide) rfl ?_
  refine g_loc (L' := [(0, .ref (ρ o0)), (1, .ref (ρ o1)), (2, .int p2), (3, .int 0)]) h [1, 2, 3, 0] rfl ?_
  refine Q_X12_lay_2 hρ hn h hR ho0 ho1 ?_ _ _ _ hD
  · intro w10 hD
    unfold J_X12_lay_x22_1 at hD
    obtain rfl := Option.some.inj hD
    exact hR _ _ t_X12_lay_22
def L_X12_remember_11 (q5 : Nat) (k6 : Wd → Option Wd) : Nat → Int32 → Wd → Option Wd
  | 0, _, _ => none
  | n7 + 1, x8, w9 =>
    if 176 ≤ x8 then (k6 w9) else (if ib (x8 + 16) 192 then (if ib x8 192 then bd (wI w9 127 x8.toNatClampNeg (w9.1 127 (x8 + 16).toNatClampNeg)) (fun w10 => bd (x8 + 1) fun x11 => L_X12_remember_11 q5 k6 n7 x11 w10) else none) else none)
def J_X12_remember_x39_1 (k2 : Wd → Option Wd) : Wd → Option Wd := fun w12 =>
  bd (wI w12 119 23 ((w12.1 119 23) - 1)) fun w13 => k2 w13
def J_X12_remember_j49_2 (o1 : Nat) : Wd → Option Wd := fun w1 =>
  bv (D_X12_lay o1 127 (16 * (w1.1 119 23)) w1) fun w3 => bd (wI w3 119 23 ((w3.1 119 23) + 1)) fun w4 => some w4
def D_X12_remember (o1 : Nat) : Wd → Option Wd := fun w =>
  bd (J_X12_remember_j49_2 o1) fun k2 => if (w.1 119 23) = 12 then (L_X12_remember_11 o1 (J_X12_remember_x39_1 k2) FU 0 w) else (k2 w)
set_option maxRecDepth 20000 in
theorem Q_X12_remember_11 {l0 : Launch} {ρ : Nat → Nat} {cs : Nat → ClassId} {G : va_G} {X : Cx} (hρ : injN ρ) (hn : X.2.2.2.2.2.2.2.2.2.2.1 = 3) (h : Okx l0 ρ cs G X prog_14_method_42_code "SowingBoardsModel" 1) {rr : Wd} (hR : ∀ pc L, decode prog_14_method_42_code pc = .ok (.return_, 1) → gG ρ cs G X pc L [] rr) {q5 : Nat} (hq5 : isIA q5) {k6 : Wd → Option Wd} (hk6 : ∀ (w1 : Wd), k6 w1 = some rr → gG ρ cs G X 39 [(0, .ref (ρ 119)), (1, .ref (ρ q5))] [] w1) : ∀ (n : Nat) (x8 : Int32) (w : Wd), L_X12_remember_11 q5 k6 n x8 w = some rr → gG ρ cs G X 11 [(0, .ref (ρ 119)), (1, .ref (ρ q5)), (2, .int x8)] [] w := by
  intro n
  induction n with
  | zero =>
    intro x8 w hD
    cases hD
  | succ n7 ih =>
    intro x8 w9 hD
    unfold L_X12_remember_11 at hD
    refine g_iload_n h 2 t_X12_remember_11 rfl ?_
    refine g_sipush (v := 176) h t_X12_remember_12 (by decide) ?_
    refine g_icmp_ge (tgt := 39) h t_X12_remember_15 (by decide) hD (fun hD => ?_) (fun hD => ?_)
    · refine g_loc (L' := [(0, .ref (ρ 119)), (1, .ref (ρ q5))]) h [0, 1] rfl ?_
      exact hk6 _ hD
    · refine g_aload_n h 0 t_X12_remember_18 rfl ?_
      refine g_getR h 119 22 127 fl_12_40 rfl (by decide) rfl t_X12_remember_19 ?_
      refine g_iload_n h 2 t_X12_remember_22 rfl ?_
      refine g_aload_n h 0 t_X12_remember_23 rfl ?_
      refine g_getR h 119 22 127 fl_12_40 rfl (by decide) rfl t_X12_remember_24 ?_
      refine g_iload_n h 2 t_X12_remember_27 rfl ?_
      refine g_bipush (v := 16) h t_X12_remember_28 (by decide) ?_
      refine g_iadd h t_X12_remember_30 ?_
      refine g_iald h 127 rfl (by decide) t_X12_remember_31 hD (fun hD => ?_)
      refine g_iast h 127 rfl (by decide) t_X12_remember_32 hD (fun w10 hD => ?_)
      obtain ⟨x11, ex11, hD⟩ := bd_ex hD
      refine g_iinc (v := x11) (L' := [(2, .int x11), (0, .ref (ρ 119)), (1, .ref (ρ q5))]) h hn t_X12_remember_33 (k := 2) rfl (by rw [ex11]; rfl) (by decide) rfl ?_
      refine g_goto (tgt := 11) h t_X12_remember_36 (by decide) ?_
      refine g_loc (L' := [(0, .ref (ρ 119)), (1, .ref (ρ q5)), (2, .int x11)]) h [1, 2, 0] rfl ?_
      exact ih x11 _ hD
set_option maxRecDepth 20000 in
theorem S_X12_remember {l0 : Launch} {ρ : Nat → Nat} {cs : Nat → ClassId} {G : va_G} (hρ : injN ρ) {o1 : Nat} (ho1 : isIA o1) {w : Wd} {rr : Wd} (hD : D_X12_remember o1 w = some rr) : CtV l0 ρ cs G y_X12_remember prog_14_method_42_code 3 1 [.ref (ρ 119), .ref (ρ o1)] w rr := by
  refine ctV_of hρ (by decide) (Nat.le_of_ble_eq_true rfl) (fun X hn h hR => ?_)
  unfold D_X12_remember at hD
  show gG ρ cs G X 0 [(0, .ref (ρ 119)), (1, .ref (ρ o1))] [] w
  refine g_aload_n h 0 t_X12_remember_0 rfl ?_
  refine g_getI h 119 23 fl_12_167 rfl (by decide) rfl t_X12_remember_1 ?_
  refine g_bipush (v := 12) h t_X12_remember_4 (by decide) ?_
  refine g_join (P := fun k2 => ∀ (w1 : Wd), k2 w1 = some rr → gG ρ cs G X 49 [(0, .ref (ρ 119)), (1, .ref (ρ o1))] [] w1) hD ?_ (fun k2 hk2 hD => ?_)
  · intro w1 hD
    unfold J_X12_remember_j49_2 at hD
    refine g_aload_n h 1 t_X12_remember_49 rfl ?_
    refine g_aload_n h 0 t_X12_remember_50 rfl ?_
    refine g_getR h 119 22 127 fl_12_40 rfl (by decide) rfl t_X12_remember_51 ?_
    refine g_bipush (v := 16) h t_X12_remember_54 (by decide) ?_
    refine g_aload_n h 0 t_X12_remember_56 rfl ?_
    refine g_getI h 119 23 fl_12_167 rfl (by decide) rfl t_X12_remember_57 ?_
    refine g_imul h t_X12_remember_60 ?_
    refine g_callSV h (As := [.ref (ρ o1), .ref (ρ 127), .int (16 * (w1.1 119 23))]) (st := []) my_X12_lay ms_X12_lay ml_12_256 rfl rfl (Nat.le_of_ble_eq_true rfl) (by decide) t_X12_remember_61 hD (fun _ e => S_X12_lay hρ ho1 (by decide) e) (fun w3 hD => ?_)
    refine g_aload_n h 0 t_X12_remember_64 rfl ?_
    refine g_dup h t_X12_remember_65 rfl ?_
    refine g_getI h 119 23 fl_12_167 rfl (by decide) rfl t_X12_remember_66 ?_
    refine g_iconst (v := 1) h t_X12_remember_69 (by decide) ?_
    refine g_iadd h t_X12_remember_70 ?_
    refine g_putI h 119 23 fl_12_167 fp_12_23 rfl (by decide) rfl t_X12_remember_71 hD (fun w4 hD => ?_)
    obtain rfl := Option.some.inj hD
    exact hR _ _ t_X12_remember_74
  · refine g_icmp_ne (tgt := 49) h t_X12_remember_6 (by decide) hD (fun hD => ?_) (fun hD => ?_)
    · refine g_loc (L' := [(0, .ref (ρ 119)), (1, .ref (ρ o1))]) h [0, 1] rfl ?_
      exact hk2 _ hD
    · refine g_iconst (v := 0) h t_X12_remember_9 (by decide) ?_
      refine g_istore_n (L' := [(2, .int 0), (0, .ref (ρ 119)), (1, .ref (ρ o1))]) h hn t_X12_remember_10 rfl (by decide) rfl ?_
      refine g_loc (L' := [(0, .ref (ρ 119)), (1, .ref (ρ o1)), (2, .int 0)]) h [1, 2, 0] rfl ?_
      refine Q_X12_remember_11 hρ hn h hR ho1 ?_ _ _ _ hD
      · intro w12 hD
        unfold J_X12_remember_x39_1 at hD
        refine g_aload_n h 0 t_X12_remember_39 rfl ?_
        refine g_dup h t_X12_remember_40 rfl ?_
        refine g_getI h 119 23 fl_12_167 rfl (by decide) rfl t_X12_remember_41 ?_
        refine g_iconst (v := 1) h t_X12_remember_44 (by decide) ?_
        refine g_isub h t_X12_remember_45 ?_
        refine g_putI h 119 23 fl_12_167 fp_12_23 rfl (by decide) rfl t_X12_remember_46 hD (fun w13 hD => ?_)
        refine g_loc (L' := [(0, .ref (ρ 119)), (1, .ref (ρ o1))]) h [0, 1] rfl ?_
        exact hk2 _ hD
def D_X12_tellMove (o1 : Nat) : Wd → Option (Int32 × Wd) := fun w =>
  bd (wI w 119 6 0) fun w1 => bv (D_X12_tell ((w1.1 119 20).toInt64) w1) fun w2 => bv (D_X12_tell ((w2.1 119 21).toInt64) w2) fun w3 => if ib 14 (ln o1) then (bv (D_X12_tell ((w3.1 o1 (14 : Int32).toNatClampNeg).toInt64) w3) fun w4 => some (w4.1 119 19, w4)) else none
set_option maxRecDepth 20000 in
theorem S_X12_tellMove {l0 : Launch} {ρ : Nat → Nat} {cs : Nat → ClassId} {G : va_G} (hρ : injN ρ) {o1 : Nat} (ho1 : isIA o1) {w : Wd} {rr : (Int32 × Wd)} (hD : D_X12_tellMove o1 w = some rr) : CtI l0 ρ cs G y_X12_tellMove prog_14_method_43_code 2 .int 1 [.ref (ρ 119), .ref (ρ o1)] w rr.1 rr.2 := by
  refine ctI_of hρ (by decide) (Nat.le_of_ble_eq_true rfl) (fun X hn h hR => ?_)
  unfold D_X12_tellMove at hD
  show gG ρ cs G X 0 [(0, .ref (ρ 119)), (1, .ref (ρ o1))] [] w
  refine g_aload_n h 0 t_X12_tellMove_0 rfl ?_
  refine g_iconst (v := 0) h t_X12_tellMove_1 (by decide) ?_
  refine g_putI h 119 6 fl_12_112 fp_12_6 rfl (by decide) rfl t_X12_tellMove_2 hD (fun w1 hD => ?_)
  refine g_aload_n h 0 t_X12_tellMove_5 rfl ?_
  refine g_aload_n h 0 t_X12_tellMove_6 rfl ?_
  refine g_getI h 119 20 fl_12_239 rfl (by decide) rfl t_X12_tellMove_7 ?_
  refine g_i2l h t_X12_tellMove_10 ?_
  refine g_callVV h 119 (As := [.long ((w1.1 119 20).toInt64)]) (st := []) my_X12_tell mi_X12_tell ml_12_260 rfl (by decide) rfl rfl rfl (Nat.le_of_ble_eq_true rfl) (by decide) t_X12_tellMove_11 hD (fun _ e => S_X12_tell hρ  e) (fun w2 hD => ?_)
  refine g_aload_n h 0 t_X12_tellMove_14 rfl ?_
  refine g_aload_n h 0 t_X12_tellMove_15 rfl ?_
  refine g_getI h 119 21 fl_12_233 rfl (by decide) rfl t_X12_tellMove_16 ?_
  refine g_i2l h t_X12_tellMove_19 ?_
  refine g_callVV h 119 (As := [.long ((w2.1 119 21).toInt64)]) (st := []) my_X12_tell mi_X12_tell ml_12_260 rfl (by decide) rfl rfl rfl (Nat.le_of_ble_eq_true rfl) (by decide) t_X12_tellMove_20 hD (fun _ e => S_X12_tell hρ  e) (fun w3 hD => ?_)
  refine g_aload_n h 0 t_X12_tellMove_23 rfl ?_
  refine g_aload_n h 1 t_X12_tellMove_24 rfl ?_
  refine g_bipush (v := 14) h t_X12_tellMove_25 (by decide) ?_
  refine g_iald h o1 (isIA_sh ho1) (isIA_lt ho1) t_X12_tellMove_27 hD (fun hD => ?_)
  refine g_i2l h t_X12_tellMove_28 ?_
  refine g_callVV h 119 (As := [.long ((w3.1 o1 (14 : Int32).toNatClampNeg).toInt64)]) (st := []) my_X12_tell mi_X12_tell ml_12_260 rfl (by decide) rfl rfl rfl (Nat.le_of_ble_eq_true rfl) (by decide) t_X12_tellMove_29 hD (fun _ e => S_X12_tell hρ  e) (fun w4 hD => ?_)
  refine g_aload_n h 0 t_X12_tellMove_32 rfl ?_
  refine g_getI h 119 19 fl_12_253 rfl (by decide) rfl t_X12_tellMove_33 ?_
  obtain rfl := Option.some.inj hD
  exact hR _ _ t_X12_tellMove_36 rfl
def D_X12_moves (p1 : Int32) : Wd → Option (Int32 × Wd) := fun w =>
  bd (wI w 119 7 0) fun w1 => bc (D_X12_refuses 120 p1 w1) fun x3 w2 => if 0 ≤ x3 then (bv (D_X12_remember 120 w2) fun w4 => bv (D_X12_goMove 120 p1 w4) fun w5 => bc (D_X12_tellMove 120 w5) fun x7 w6 => some (x7, w6)) else (some (x3, w2))
set_option maxRecDepth 20000 in
theorem S_X12_moves {l0 : Launch} {ρ : Nat → Nat} {cs : Nat → ClassId} {G : va_G} (hρ : injN ρ) {p1 : Int32} {w : Wd} {rr : (Int32 × Wd)} (hD : D_X12_moves p1 w = some rr) : CtI l0 ρ cs G y_X12_moves prog_14_method_44_code 3 .int 4 [.ref (ρ 119), .int p1] w rr.1 rr.2 := by
  refine ctI_of hρ (by decide) (Nat.le_of_ble_eq_true rfl) (fun X hn h hR => ?_)
  unfold D_X12_moves at hD
  show gG ρ cs G X 0 [(0, .ref (ρ 119)), (1, .int p1)] [] w
  refine g_aload_n h 0 t_X12_moves_0 rfl ?_
  refine g_iconst (v := 0) h t_X12_moves_1 (by decide) ?_
  refine g_putI h 119 7 fl_12_109 fp_12_7 rfl (by decide) rfl t_X12_moves_2 hD (fun w1 hD => ?_)
  refine g_aload_n h 0 t_X12_moves_5 rfl ?_
  refine g_aload_n h 0 t_X12_moves_6 rfl ?_
  refine g_getR h 119 0 120 fl_12_9 rfl (by decide) rfl t_X12_moves_7 ?_
  refine g_iload_n h 1 t_X12_moves_10 rfl ?_
  refine g_callVI h 119 (As := [.ref (ρ 120), .int p1]) (st := []) my_X12_refuses mi_X12_refuses ml_12_264 rfl (by decide) rfl rfl rfl (Nat.le_of_ble_eq_true rfl) (by decide) t_X12_moves_11 hD (fun _ _ e => S_X12_refuses hρ (by decide) e) (fun x3 w2 hD => ?_)
  refine g_istore_n (L' := [(2, .int x3), (0, .ref (ρ 119)), (1, .int p1)]) h hn t_X12_moves_14 rfl (by decide) rfl ?_
  refine g_iload_n h 0 t_X12_moves_15 rfl ?_
  refine g_if_ge (tgt := 21) h t_X12_moves_16 (by decide) hD (fun hD => ?_) (fun hD => ?_)
  · refine g_aload_n h 1 t_X12_moves_21 rfl ?_
    refine g_aload_n h 1 t_X12_moves_22 rfl ?_
    refine g_getR h 119 0 120 fl_12_9 rfl (by decide) rfl t_X12_moves_23 ?_
    refine g_callVV h 119 (As := [.ref (ρ 120)]) (st := []) my_X12_remember mi_X12_remember ml_12_268 rfl (by decide) rfl rfl rfl (Nat.le_of_ble_eq_true rfl) (by decide) t_X12_moves_26 hD (fun _ e => S_X12_remember hρ (by decide) e) (fun w4 hD => ?_)
    refine g_aload_n h 1 t_X12_moves_29 rfl ?_
    refine g_aload_n h 1 t_X12_moves_30 rfl ?_
    refine g_getR h 119 0 120 fl_12_9 rfl (by decide) rfl t_X12_moves_31 ?_
    refine g_iload_n h 2 t_X12_moves_34 rfl ?_
    refine g_callVV h 119 (As := [.ref (ρ 120), .int p1]) (st := []) my_X12_goMove mi_X12_goMove ml_12_272 rfl (by decide) rfl rfl rfl (Nat.le_of_ble_eq_true rfl) (by decide) t_X12_moves_35 hD (fun _ e => S_X12_goMove hρ (by decide) e) (fun w5 hD => ?_)
    refine g_aload_n h 1 t_X12_moves_38 rfl ?_
    refine g_aload_n h 1 t_X12_moves_39 rfl ?_
    refine g_getR h 119 0 120 fl_12_9 rfl (by decide) rfl t_X12_moves_40 ?_
    refine g_callVI h 119 (As := [.ref (ρ 120)]) (st := []) my_X12_tellMove mi_X12_tellMove ml_12_275 rfl (by decide) rfl rfl rfl (Nat.le_of_ble_eq_true rfl) (by decide) t_X12_moves_43 hD (fun _ _ e => S_X12_tellMove hρ (by decide) e) (fun x7 w6 hD => ?_)
    obtain rfl := Option.some.inj hD
    exact hR _ _ t_X12_moves_46 rfl
  · refine g_iload_n h 0 t_X12_moves_19 rfl ?_
    obtain rfl := Option.some.inj hD
    exact hR _ _ t_X12_moves_20 rfl
def J_X12_worthOf_j99_1 (r66 : Int32 → Int32 → Wd → Option (Int32 × Wd)) (x13 : Int32) (x14 : Int32) : Int32 → Wd → Option (Int32 × Wd) := fun x16 w17 =>
  bd (x13 + x16) fun x19 => bd (x14 + 1) fun x20 => r66 x19 x20 w17
def L_X12_worthOf_66 (q7 : Nat) (x8 : Int32) (x9 : Int32) (x10 : Int32) (k11 : Int32 → Wd → Option (Int32 × Wd)) : Nat → Int32 → Int32 → Wd → Option (Int32 × Wd)
  | 0, _, _, _ => none
  | n12 + 1, x13, x14, w15 =>
    if (w15.1 119 1) ≤ x14 then (k11 x13 w15) else (if ib (((w15.1 119 1) * x9) + x14) 16 then (bd (J_X12_worthOf_j99_1 (L_X12_worthOf_66 q7 x8 x9 x10 k11 n12) x13 x14) fun k18 => if (w15.1 130 (((w15.1 119 1) * x9) + x14).toNatClampNeg) = 0 then (k18 1 w15) else (k18 0 w15)) else none)
def J_X12_worthOf_x108_2 (x4 : Int32) (p2 : Int32) (x1 : Int32) (o1 : Nat) : Int32 → Wd → Option (Int32 × Wd) := fun x21 w22 =>
  if ib 0 7 then bd (wI w22 126 (0 : Int32).toNatClampNeg (w22.1 119 19)) (fun w23 => if ib 1 7 then bd (wI w23 126 (1 : Int32).toNatClampNeg x4) (fun w24 => if ib 2 7 then bd (wI w24 126 (2 : Int32).toNatClampNeg p2) (fun w25 => if ib (((w25.1 119 1) * x1) + p2) (ln o1) then (if ib 3 7 then bd (wI w25 126 (3 : Int32).toNatClampNeg (w25.1 o1 (((w25.1 119 1) * x1) + p2).toNatClampNeg)) (fun w26 => if ib 4 7 then bd (wI w26 126 (4 : Int32).toNatClampNeg (w26.1 119 20)) (fun w27 => if ib 5 7 then bd (wI w27 126 (5 : Int32).toNatClampNeg x21) (fun w28 => bc (D_X12_seeds 130 ((w28.1 119 1) * (1 - x1)) (w28.1 119 1) w28) fun x30 w29 => if ib 6 7 then bd (wI w29 126 (6 : Int32).toNatClampNeg x30) (fun w31 => if bq (w31.2.2 1) then (bv (D_X12_begin (w31.2.2 1) (w31.1 119 16) 40 w31) fun w33 => if b01 1 then (bd (wI w33 119 17 1) fun w34 => bc (D_X12_held 0 w34) fun x36 w35 => if b01 0 then (bd (wI w35 119 17 0) fun w37 => some (x36, w37)) else none) else none) else none) else none) else none) else none) else none) else none) else none) else none) else none
def J_X12_worthOf_j39_3 (o1 : Nat) (p2 : Int32) (x1 : Int32) : Int32 → Wd → Option (Int32 × Wd) := fun x4 w5 =>
  if (w5.1 119 16) = 0 then (some (((w5.1 119 19) * 3) + (x4 * 2), w5)) else (L_X12_worthOf_66 o1 p2 x1 x4 (J_X12_worthOf_x108_2 x4 p2 x1 o1) FU 0 0 w5)
def D_X12_worthOf (o1 : Nat) (p2 : Int32) : Wd → Option (Int32 × Wd) := fun w =>
  if ib 14 (ln o1) then (bd (w.1 o1 (14 : Int32).toNatClampNeg) fun x1 => bv (D_X12_lay o1 130 0 w) fun w2 => bv (D_X12_goMove 130 p2 w2) fun w3 => if ib 14 16 then (bd (J_X12_worthOf_j39_3 o1 p2 x1) fun k6 => if (w3.1 130 (14 : Int32).toNatClampNeg) = x1 then (k6 1 w3) else (k6 0 w3)) else none) else none
set_option maxRecDepth 20000 in
theorem Q_X12_worthOf_66 {l0 : Launch} {ρ : Nat → Nat} {cs : Nat → ClassId} {G : va_G} {X : Cx} (hρ : injN ρ) (hn : X.2.2.2.2.2.2.2.2.2.2.1 = 7) (h : Okx l0 ρ cs G X prog_14_method_45_code "SowingBoardsModel" 85) {rr : (Int32 × Wd)} (hR : ∀ pc L, decode prog_14_method_45_code pc = .ok (.ireturn, 1) → narrow .int (.int rr.1) = .int rr.1 → gG ρ cs G X pc L [.int rr.1] rr.2) {q7 : Nat} (hq7 : isIA q7) {x8 : Int32} {x9 : Int32} {x10 : Int32} {k11 : Int32 → Wd → Option (Int32 × Wd)} (hk11 : ∀ (z5 : Int32) (w1 : Wd), k11 z5 w1 = some rr → gG ρ cs G X 108 [(0, .ref (ρ 119)), (1, .ref (ρ q7)), (2, .int x8), (3, .int x9), (4, .int x10), (5, .int z5)] [] w1) : ∀ (n : Nat) (x13 : Int32) (x14 : Int32) (w : Wd), L_X12_worthOf_66 q7 x8 x9 x10 k11 n x13 x14 w = some rr → gG ρ cs G X 66 [(0, .ref (ρ 119)), (1, .ref (ρ q7)), (2, .int x8), (3, .int x9), (4, .int x10), (5, .int x13), (6, .int x14)] [] w := by
  intro n
  induction n with
  | zero =>
    intro x13 x14 w hD
    cases hD
  | succ n12 ih =>
    intro x13 x14 w15 hD
    unfold L_X12_worthOf_66 at hD
    refine g_iload h 6 t_X12_worthOf_66 rfl ?_
    refine g_aload_n h 0 t_X12_worthOf_68 rfl ?_
    refine g_getI h 119 1 fl_12_13 rfl (by decide) rfl t_X12_worthOf_69 ?_
    refine g_icmp_ge (tgt := 108) h t_X12_worthOf_72 (by decide) hD (fun hD => ?_) (fun hD => ?_)
    · refine g_loc (L' := [(0, .ref (ρ 119)), (1, .ref (ρ q7)), (2, .int x8), (3, .int x9), (4, .int x10), (5, .int x13)]) h [0, 1, 2, 3, 4, 5] rfl ?_
      exact hk11 x13 _ hD
    · refine g_iload h 5 t_X12_worthOf_75 rfl ?_
      refine g_aload_n h 0 t_X12_worthOf_77 rfl ?_
      refine g_getR h 119 26 130 fl_12_49 rfl (by decide) rfl t_X12_worthOf_78 ?_
      refine g_aload_n h 0 t_X12_worthOf_81 rfl ?_
      refine g_getI h 119 1 fl_12_13 rfl (by decide) rfl t_X12_worthOf_82 ?_
      refine g_iload_n h 3 t_X12_worthOf_85 rfl ?_
      refine g_imul h t_X12_worthOf_86 ?_
      refine g_iload h 6 t_X12_worthOf_87 rfl ?_
      refine g_iadd h t_X12_worthOf_89 ?_
      refine g_iald h 130 rfl (by decide) t_X12_worthOf_90 hD (fun hD => ?_)
      refine g_join (P := fun k18 => ∀ (x16 : Int32) (w17 : Wd), k18 x16 w17 = some rr → gG ρ cs G X 99 [(0, .ref (ρ 119)), (1, .ref (ρ q7)), (2, .int x8), (3, .int x9), (4, .int x10), (6, .int x14)] [.int x16, .int x13] w17) hD ?_ (fun k18 hk18 hD => ?_)
      · intro x16 w17 hD
        unfold J_X12_worthOf_j99_1 at hD
        refine g_iadd h t_X12_worthOf_99 ?_
        refine g_bdI hD (fun x19 hD => ?_)
        refine g_istore (L' := [(5, .int x19), (0, .ref (ρ 119)), (1, .ref (ρ q7)), (2, .int x8), (3, .int x9), (4, .int x10), (6, .int x14)]) h hn t_X12_worthOf_100 (by decide) rfl ?_
        obtain ⟨x20, ex20, hD⟩ := bd_ex hD
        refine g_iinc (v := x20) (L' := [(6, .int x20), (5, .int x19), (0, .ref (ρ 119)), (1, .ref (ρ q7)), (2, .int x8), (3, .int x9), (4, .int x10)]) h hn t_X12_worthOf_102 (k := 6) rfl (by rw [ex20]; rfl) (by decide) rfl ?_
        refine g_goto (tgt := 66) h t_X12_worthOf_105 (by decide) ?_
        refine g_loc (L' := [(0, .ref (ρ 119)), (1, .ref (ρ q7)), (2, .int x8), (3, .int x9), (4, .int x10), (5, .int x19), (6, .int x20)]) h [2, 3, 4, 5, 6, 1, 0] rfl ?_
        exact ih x19 x20 _ hD
      · refine g_if_ne (tgt := 98) h t_X12_worthOf_91 (by decide) hD (fun hD => ?_) (fun hD => ?_)
        · refine g_iconst (v := 0) h t_X12_worthOf_98 (by decide) ?_
          refine g_loc (L' := [(0, .ref (ρ 119)), (1, .ref (ρ q7)), (2, .int x8), (3, .int x9), (4, .int x10), (6, .int x14)]) h [0, 1, 2, 3, 4, 6] rfl ?_
          exact hk18 0 _ hD
        · refine g_iconst (v := 1) h t_X12_worthOf_94 (by decide) ?_
          refine g_goto (tgt := 99) h t_X12_worthOf_95 (by decide) ?_
          refine g_loc (L' := [(0, .ref (ρ 119)), (1, .ref (ρ q7)), (2, .int x8), (3, .int x9), (4, .int x10), (6, .int x14)]) h [0, 1, 2, 3, 4, 6] rfl ?_
          exact hk18 1 _ hD
set_option maxRecDepth 20000 in
theorem S_X12_worthOf {l0 : Launch} {ρ : Nat → Nat} {cs : Nat → ClassId} {G : va_G} (hρ : injN ρ) {o1 : Nat} (ho1 : isIA o1) {p2 : Int32} {w : Wd} {rr : (Int32 × Wd)} (hD : D_X12_worthOf o1 p2 w = some rr) : CtI l0 ρ cs G y_X12_worthOf prog_14_method_45_code 7 .int 85 [.ref (ρ 119), .ref (ρ o1), .int p2] w rr.1 rr.2 := by
  refine ctI_of hρ (by decide) (Nat.le_of_ble_eq_true rfl) (fun X hn h hR => ?_)
  unfold D_X12_worthOf at hD
  show gG ρ cs G X 0 [(0, .ref (ρ 119)), (1, .ref (ρ o1)), (2, .int p2)] [] w
  refine g_aload_n h 1 t_X12_worthOf_0 rfl ?_
  refine g_bipush (v := 14) h t_X12_worthOf_1 (by decide) ?_
  refine g_iald h o1 (isIA_sh ho1) (isIA_lt ho1) t_X12_worthOf_3 hD (fun hD => ?_)
  refine g_bdI hD (fun x1 hD => ?_)
  refine g_istore_n (L' := [(3, .int x1), (0, .ref (ρ 119)), (1, .ref (ρ o1)), (2, .int p2)]) h hn t_X12_worthOf_4 rfl (by decide) rfl ?_
  refine g_aload_n h 2 t_X12_worthOf_5 rfl ?_
  refine g_aload_n h 1 t_X12_worthOf_6 rfl ?_
  refine g_getR h 119 26 130 fl_12_49 rfl (by decide) rfl t_X12_worthOf_7 ?_
  refine g_iconst (v := 0) h t_X12_worthOf_10 (by decide) ?_
  refine g_callSV h (As := [.ref (ρ o1), .ref (ρ 130), .int 0]) (st := []) my_X12_lay ms_X12_lay ml_12_256 rfl rfl (Nat.le_of_ble_eq_true rfl) (by decide) t_X12_worthOf_11 hD (fun _ e => S_X12_lay hρ ho1 (by decide) e) (fun w2 hD => ?_)
  refine g_aload_n h 1 t_X12_worthOf_14 rfl ?_
  refine g_aload_n h 1 t_X12_worthOf_15 rfl ?_
  refine g_getR h 119 26 130 fl_12_49 rfl (by decide) rfl t_X12_worthOf_16 ?_
  refine g_iload_n h 3 t_X12_worthOf_19 rfl ?_
  refine g_callVV h 119 (As := [.ref (ρ 130), .int p2]) (st := []) my_X12_goMove mi_X12_goMove ml_12_272 rfl (by decide) rfl rfl rfl (Nat.le_of_ble_eq_true rfl) (by decide) t_X12_worthOf_20 hD (fun _ e => S_X12_goMove hρ (by decide) e) (fun w3 hD => ?_)
  refine g_aload_n h 1 t_X12_worthOf_23 rfl ?_
  refine g_getR h 119 26 130 fl_12_49 rfl (by decide) rfl t_X12_worthOf_24 ?_
  refine g_bipush (v := 14) h t_X12_worthOf_27 (by decide) ?_
  refine g_iald h 130 rfl (by decide) t_X12_worthOf_29 hD (fun hD => ?_)
  refine g_iload_n h 0 t_X12_worthOf_30 rfl ?_
  refine g_join (P := fun k6 => ∀ (x4 : Int32) (w5 : Wd), k6 x4 w5 = some rr → gG ρ cs G X 39 [(0, .ref (ρ 119)), (1, .ref (ρ o1)), (2, .int p2), (3, .int x1)] [.int x4] w5) hD ?_ (fun k6 hk6 hD => ?_)
  · intro x4 w5 hD
    unfold J_X12_worthOf_j39_3 at hD
    refine g_istore (L' := [(4, .int x4), (0, .ref (ρ 119)), (1, .ref (ρ o1)), (2, .int p2), (3, .int x1)]) h hn t_X12_worthOf_39 (by decide) rfl ?_
    refine g_aload_n h 1 t_X12_worthOf_41 rfl ?_
    refine g_getI h 119 16 fl_12_211 rfl (by decide) rfl t_X12_worthOf_42 ?_
    refine g_if_ne (tgt := 60) h t_X12_worthOf_45 (by decide) hD (fun hD => ?_) (fun hD => ?_)
    · refine g_iconst (v := 0) h t_X12_worthOf_60 (by decide) ?_
      refine g_istore (L' := [(5, .int 0), (4, .int x4), (0, .ref (ρ 119)), (1, .ref (ρ o1)), (2, .int p2), (3, .int x1)]) h hn t_X12_worthOf_61 (by decide) rfl ?_
      refine g_iconst (v := 0) h t_X12_worthOf_63 (by decide) ?_
      refine g_istore (L' := [(6, .int 0), (5, .int 0), (4, .int x4), (0, .ref (ρ 119)), (1, .ref (ρ o1)), (2, .int p2), (3, .int x1)]) h hn t_X12_worthOf_64 (by decide) rfl ?_
      refine g_loc (L' := [(0, .ref (ρ 119)), (1, .ref (ρ o1)), (2, .int p2), (3, .int x1), (4, .int x4), (5, .int 0), (6, .int 0)]) h [3, 4, 5, 6, 2, 1, 0] rfl ?_
      refine Q_X12_worthOf_66 hρ hn h hR ho1 ?_ _ _ _ _ hD
      · intro x21 w22 hD
        unfold J_X12_worthOf_x108_2 at hD
        refine g_aload_n h 0 t_X12_worthOf_108 rfl ?_
        refine g_getR h 119 18 126 fl_12_37 rfl (by decide) rfl t_X12_worthOf_109 ?_
        refine g_iconst (v := 0) h t_X12_worthOf_112 (by decide) ?_
        refine g_aload_n h 0 t_X12_worthOf_113 rfl ?_
        refine g_getI h 119 19 fl_12_253 rfl (by decide) rfl t_X12_worthOf_114 ?_
        refine g_iast h 126 rfl (by decide) t_X12_worthOf_117 hD (fun w23 hD => ?_)
        refine g_aload_n h 0 t_X12_worthOf_118 rfl ?_
        refine g_getR h 119 18 126 fl_12_37 rfl (by decide) rfl t_X12_worthOf_119 ?_
        refine g_iconst (v := 1) h t_X12_worthOf_122 (by decide) ?_
        refine g_iload h 4 t_X12_worthOf_123 rfl ?_
        refine g_iast h 126 rfl (by decide) t_X12_worthOf_125 hD (fun w24 hD => ?_)
        refine g_aload_n h 0 t_X12_worthOf_126 rfl ?_
        refine g_getR h 119 18 126 fl_12_37 rfl (by decide) rfl t_X12_worthOf_127 ?_
        refine g_iconst (v := 2) h t_X12_worthOf_130 (by decide) ?_
        refine g_iload_n h 2 t_X12_worthOf_131 rfl ?_
        refine g_iast h 126 rfl (by decide) t_X12_worthOf_132 hD (fun w25 hD => ?_)
        refine g_aload_n h 0 t_X12_worthOf_133 rfl ?_
        refine g_getR h 119 18 126 fl_12_37 rfl (by decide) rfl t_X12_worthOf_134 ?_
        refine g_iconst (v := 3) h t_X12_worthOf_137 (by decide) ?_
        refine g_aload_n h 1 t_X12_worthOf_138 rfl ?_
        refine g_aload_n h 0 t_X12_worthOf_139 rfl ?_
        refine g_getI h 119 1 fl_12_13 rfl (by decide) rfl t_X12_worthOf_140 ?_
        refine g_iload_n h 3 t_X12_worthOf_143 rfl ?_
        refine g_imul h t_X12_worthOf_144 ?_
        refine g_iload_n h 2 t_X12_worthOf_145 rfl ?_
        refine g_iadd h t_X12_worthOf_146 ?_
        refine g_iald h o1 (isIA_sh ho1) (isIA_lt ho1) t_X12_worthOf_147 hD (fun hD => ?_)
        refine g_iast h 126 rfl (by decide) t_X12_worthOf_148 hD (fun w26 hD => ?_)
        refine g_aload_n h 0 t_X12_worthOf_149 rfl ?_
        refine g_getR h 119 18 126 fl_12_37 rfl (by decide) rfl t_X12_worthOf_150 ?_
        refine g_iconst (v := 4) h t_X12_worthOf_153 (by decide) ?_
        refine g_aload_n h 0 t_X12_worthOf_154 rfl ?_
        refine g_getI h 119 20 fl_12_239 rfl (by decide) rfl t_X12_worthOf_155 ?_
        refine g_iast h 126 rfl (by decide) t_X12_worthOf_158 hD (fun w27 hD => ?_)
        refine g_aload_n h 0 t_X12_worthOf_159 rfl ?_
        refine g_getR h 119 18 126 fl_12_37 rfl (by decide) rfl t_X12_worthOf_160 ?_
        refine g_iconst (v := 5) h t_X12_worthOf_163 (by decide) ?_
        refine g_iload h 5 t_X12_worthOf_164 rfl ?_
        refine g_iast h 126 rfl (by decide) t_X12_worthOf_166 hD (fun w28 hD => ?_)
        refine g_aload_n h 0 t_X12_worthOf_167 rfl ?_
        refine g_getR h 119 18 126 fl_12_37 rfl (by decide) rfl t_X12_worthOf_168 ?_
        refine g_bipush (v := 6) h t_X12_worthOf_171 (by decide) ?_
        refine g_aload_n h 0 t_X12_worthOf_173 rfl ?_
        refine g_aload_n h 0 t_X12_worthOf_174 rfl ?_
        refine g_getR h 119 26 130 fl_12_49 rfl (by decide) rfl t_X12_worthOf_175 ?_
        refine g_aload_n h 0 t_X12_worthOf_178 rfl ?_
        refine g_getI h 119 1 fl_12_13 rfl (by decide) rfl t_X12_worthOf_179 ?_
        refine g_iconst (v := 1) h t_X12_worthOf_182 (by decide) ?_
        refine g_iload_n h 3 t_X12_worthOf_183 rfl ?_
        refine g_isub h t_X12_worthOf_184 ?_
        refine g_imul h t_X12_worthOf_185 ?_
        refine g_aload_n h 0 t_X12_worthOf_186 rfl ?_
        refine g_getI h 119 1 fl_12_13 rfl (by decide) rfl t_X12_worthOf_187 ?_
        refine g_callVI h 119 (As := [.ref (ρ 130), .int ((w28.1 119 1) * (1 - x1)), .int (w28.1 119 1)]) (st := [.int 6, .ref (ρ 126)]) my_X12_seeds mi_X12_seeds ml_12_229 rfl (by decide) rfl rfl rfl (Nat.le_of_ble_eq_true rfl) (by decide) t_X12_worthOf_190 hD (fun _ _ e => S_X12_seeds hρ (by decide) e) (fun x30 w29 hD => ?_)
        refine g_iast h 126 rfl (by decide) t_X12_worthOf_193 hD (fun w31 hD => ?_)
        refine g_aload_n h 0 t_X12_worthOf_194 rfl ?_
        refine g_aload_n h 0 t_X12_worthOf_195 rfl ?_
        obtain ⟨hb32, hD⟩ := of_ite hD
        refine g_getZ h 119 14 1 (by decide) hb32 fl_12_31 rfl (by decide) rfl t_X12_worthOf_196 ?_
        refine g_aload_n h 0 t_X12_worthOf_199 rfl ?_
        refine g_getI h 119 16 fl_12_211 rfl (by decide) rfl t_X12_worthOf_200 ?_
        refine g_bipush (v := 40) h t_X12_worthOf_203 (by decide) ?_
        refine g_callVV h 119 (As := [.ref (ρ (w31.2.2 1)), .int (w31.1 119 16), .int 40]) (st := []) my_X12_begin mi_X12_begin ml_12_137 rfl (by decide) rfl rfl rfl (Nat.le_of_ble_eq_true rfl) (by decide) t_X12_worthOf_205 hD (fun _ e => S_X12_begin hρ hb32 e) (fun w33 hD => ?_)
        refine g_aload_n h 0 t_X12_worthOf_208 rfl ?_
        refine g_iconst (v := 1) h t_X12_worthOf_209 (by decide) ?_
        refine g_putZ h 119 17 fl_12_204 fp_12_17 rfl (by decide) rfl t_X12_worthOf_210 hD (fun w34 hD => ?_)
        refine g_aload_n h 0 t_X12_worthOf_213 rfl ?_
        refine g_iconst (v := 0) h t_X12_worthOf_214 (by decide) ?_
        refine g_callVI h 119 (As := [.int 0]) (st := []) my_X12_held mi_X12_held ml_12_191 rfl (by decide) rfl rfl rfl (Nat.le_of_ble_eq_true rfl) (by decide) t_X12_worthOf_215 hD (fun _ _ e => S_X12_held hρ  e) (fun x36 w35 hD => ?_)
        refine g_istore (L' := [(6, .int x36), (0, .ref (ρ 119)), (1, .ref (ρ o1)), (2, .int p2), (3, .int x1), (4, .int x4), (5, .int x21)]) h hn t_X12_worthOf_218 (by decide) rfl ?_
        refine g_aload_n h 1 t_X12_worthOf_220 rfl ?_
        refine g_iconst (v := 0) h t_X12_worthOf_221 (by decide) ?_
        refine g_putZ h 119 17 fl_12_204 fp_12_17 rfl (by decide) rfl t_X12_worthOf_222 hD (fun w37 hD => ?_)
        refine g_iload h 0 t_X12_worthOf_225 rfl ?_
        obtain rfl := Option.some.inj hD
        exact hR _ _ t_X12_worthOf_227 rfl
    · refine g_aload_n h 1 t_X12_worthOf_48 rfl ?_
      refine g_getI h 119 19 fl_12_253 rfl (by decide) rfl t_X12_worthOf_49 ?_
      refine g_iconst (v := 3) h t_X12_worthOf_52 (by decide) ?_
      refine g_imul h t_X12_worthOf_53 ?_
      refine g_iload h 0 t_X12_worthOf_54 rfl ?_
      refine g_iconst (v := 2) h t_X12_worthOf_56 (by decide) ?_
      refine g_imul h t_X12_worthOf_57 ?_
      refine g_iadd h t_X12_worthOf_58 ?_
      obtain rfl := Option.some.inj hD
      exact hR _ _ t_X12_worthOf_59 rfl
  · refine g_icmp_ne (tgt := 38) h t_X12_worthOf_31 (by decide) hD (fun hD => ?_) (fun hD => ?_)
    · refine g_iconst (v := 0) h t_X12_worthOf_38 (by decide) ?_
      refine g_loc (L' := [(0, .ref (ρ 119)), (1, .ref (ρ o1)), (2, .int p2), (3, .int x1)]) h [1, 2, 3, 0] rfl ?_
      exact hk6 0 _ hD
    · refine g_iconst (v := 1) h t_X12_worthOf_34 (by decide) ?_
      refine g_goto (tgt := 39) h t_X12_worthOf_35 (by decide) ?_
      refine g_loc (L' := [(0, .ref (ρ 119)), (1, .ref (ρ o1)), (2, .int p2), (3, .int x1)]) h [1, 2, 3, 0] rfl ?_
      exact hk6 1 _ hD
def J_X12_bestOf_j52_1 (k13 : Int32 → Int32 → Wd → Option (Int32 × Wd)) (x6 : Int32) (x16 : Int32) : Wd → Option (Int32 × Wd) := fun w17 =>
  k13 x6 x16 w17
def J_X12_bestOf_j58_2 (r7 : Int32 → Int32 → Int32 → Wd → Option (Int32 × Wd)) (x6 : Int32) : Int32 → Int32 → Wd → Option (Int32 × Wd) := fun x10 x11 w12 =>
  bd (x6 + 1) fun x14 => r7 x10 x11 x14 w12
def L_X12_bestOf_7 (q1 : Nat) (k2 : Int32 → Wd → Option (Int32 × Wd)) : Nat → Int32 → Int32 → Int32 → Wd → Option (Int32 × Wd)
  | 0, _, _, _, _ => none
  | n3 + 1, x4, x5, x6, w7 =>
    if (w7.1 119 1) ≤ x6 then (k2 x4 w7) else (bc (D_X12_refuses q1 x6 w7) fun x9 w8 => bd (J_X12_bestOf_j58_2 (L_X12_bestOf_7 q1 k2 n3) x6) fun k13 => if 0 ≤ x9 then (bc (D_X12_worthOf q1 x6 w8) fun x16 w15 => bd (J_X12_bestOf_j52_1 k13 x6 x16) fun k18 => if x4 = (-1) then (k18 w15) else (if x5 < x16 then (k18 w15) else (k13 x4 x5 w15))) else (k13 x4 x5 w8))
def J_X12_bestOf_x64_3  : Int32 → Wd → Option (Int32 × Wd) := fun x19 w20 =>
  some (x19, w20)
def D_X12_bestOf (o1 : Nat) : Wd → Option (Int32 × Wd) := fun w =>
  L_X12_bestOf_7 o1 J_X12_bestOf_x64_3 FU (-1) 0 0 w
set_option maxRecDepth 20000 in
theorem Q_X12_bestOf_7 {l0 : Launch} {ρ : Nat → Nat} {cs : Nat → ClassId} {G : va_G} {X : Cx} (hρ : injN ρ) (hn : X.2.2.2.2.2.2.2.2.2.2.1 = 6) (h : Okx l0 ρ cs G X prog_14_method_46_code "SowingBoardsModel" 86) {rr : (Int32 × Wd)} (hR : ∀ pc L, decode prog_14_method_46_code pc = .ok (.ireturn, 1) → narrow .int (.int rr.1) = .int rr.1 → gG ρ cs G X pc L [.int rr.1] rr.2) {q1 : Nat} (hq1 : isIA q1) {k2 : Int32 → Wd → Option (Int32 × Wd)} (hk2 : ∀ (z2 : Int32) (w1 : Wd), k2 z2 w1 = some rr → gG ρ cs G X 64 [(2, .int z2)] [] w1) : ∀ (n : Nat) (x4 : Int32) (x5 : Int32) (x6 : Int32) (w : Wd), L_X12_bestOf_7 q1 k2 n x4 x5 x6 w = some rr → gG ρ cs G X 7 [(0, .ref (ρ 119)), (1, .ref (ρ q1)), (2, .int x4), (3, .int x5), (4, .int x6)] [] w := by
  intro n
  induction n with
  | zero =>
    intro x4 x5 x6 w hD
    cases hD
  | succ n3 ih =>
    intro x4 x5 x6 w7 hD
    unfold L_X12_bestOf_7 at hD
    refine g_iload h 4 t_X12_bestOf_7 rfl ?_
    refine g_aload_n h 0 t_X12_bestOf_9 rfl ?_
    refine g_getI h 119 1 fl_12_13 rfl (by decide) rfl t_X12_bestOf_10 ?_
    refine g_icmp_ge (tgt := 64) h t_X12_bestOf_13 (by decide) hD (fun hD => ?_) (fun hD => ?_)
    · refine g_loc (L' := [(2, .int x4)]) h [2] rfl ?_
      exact hk2 x4 _ hD
    · refine g_aload_n h 0 t_X12_bestOf_16 rfl ?_
      refine g_aload_n h 1 t_X12_bestOf_17 rfl ?_
      refine g_iload h 4 t_X12_bestOf_18 rfl ?_
      refine g_callVI h 119 (As := [.ref (ρ q1), .int x6]) (st := []) my_X12_refuses mi_X12_refuses ml_12_264 rfl (by decide) rfl rfl rfl (Nat.le_of_ble_eq_true rfl) (by decide) t_X12_bestOf_20 hD (fun _ _ e => S_X12_refuses hρ hq1 e) (fun x9 w8 hD => ?_)
      refine g_join (P := fun k13 => ∀ (x10 : Int32) (x11 : Int32) (w12 : Wd), k13 x10 x11 w12 = some rr → gG ρ cs G X 58 [(0, .ref (ρ 119)), (1, .ref (ρ q1)), (2, .int x10), (3, .int x11), (4, .int x6)] [] w12) hD ?_ (fun k13 hk13 hD => ?_)
      · intro x10 x11 w12 hD
        unfold J_X12_bestOf_j58_2 at hD
        obtain ⟨x14, ex14, hD⟩ := bd_ex hD
        refine g_iinc (v := x14) (L' := [(4, .int x14), (0, .ref (ρ 119)), (1, .ref (ρ q1)), (2, .int x10), (3, .int x11)]) h hn t_X12_bestOf_58 (k := 4) rfl (by rw [ex14]; rfl) (by decide) rfl ?_
        refine g_goto (tgt := 7) h t_X12_bestOf_61 (by decide) ?_
        refine g_loc (L' := [(0, .ref (ρ 119)), (1, .ref (ρ q1)), (2, .int x10), (3, .int x11), (4, .int x14)]) h [1, 2, 3, 4, 0] rfl ?_
        exact ih x10 x11 x14 _ hD
      · refine g_if_ge (tgt := 29) h t_X12_bestOf_23 (by decide) hD (fun hD => ?_) (fun hD => ?_)
        · refine g_aload_n h 0 t_X12_bestOf_29 rfl ?_
          refine g_aload_n h 1 t_X12_bestOf_30 rfl ?_
          refine g_iload h 4 t_X12_bestOf_31 rfl ?_
          refine g_callVI h 119 (As := [.ref (ρ q1), .int x6]) (st := []) my_X12_worthOf mi_X12_worthOf ml_12_279 rfl (by decide) rfl rfl rfl (Nat.le_of_ble_eq_true rfl) (by decide) t_X12_bestOf_33 hD (fun _ _ e => S_X12_worthOf hρ hq1 e) (fun x16 w15 hD => ?_)
          refine g_istore (L' := [(5, .int x16), (0, .ref (ρ 119)), (1, .ref (ρ q1)), (2, .int x4), (3, .int x5), (4, .int x6)]) h hn t_X12_bestOf_36 (by decide) rfl ?_
          refine g_iload_n h 3 t_X12_bestOf_38 rfl ?_
          refine g_iconst (v := (-1)) h t_X12_bestOf_39 (by decide) ?_
          refine g_join (P := fun k18 => ∀ (w17 : Wd), k18 w17 = some rr → gG ρ cs G X 52 [(0, .ref (ρ 119)), (1, .ref (ρ q1)), (4, .int x6), (5, .int x16)] [] w17) hD ?_ (fun k18 hk18 hD => ?_)
          · intro w17 hD
            unfold J_X12_bestOf_j52_1 at hD
            refine g_iload h 2 t_X12_bestOf_52 rfl ?_
            refine g_istore_n (L' := [(2, .int x6), (0, .ref (ρ 119)), (1, .ref (ρ q1)), (4, .int x6), (5, .int x16)]) h hn t_X12_bestOf_54 rfl (by decide) rfl ?_
            refine g_iload h 4 t_X12_bestOf_55 rfl ?_
            refine g_istore_n (L' := [(3, .int x16), (2, .int x6), (0, .ref (ρ 119)), (1, .ref (ρ q1)), (4, .int x6), (5, .int x16)]) h hn t_X12_bestOf_57 rfl (by decide) rfl ?_
            refine g_loc (L' := [(0, .ref (ρ 119)), (1, .ref (ρ q1)), (2, .int x6), (3, .int x16), (4, .int x6)]) h [2, 3, 1, 0, 4] rfl ?_
            exact hk13 x6 x16 _ hD
          · refine g_icmp_eq (tgt := 52) h t_X12_bestOf_40 (by decide) hD (fun hD => ?_) (fun hD => ?_)
            · refine g_loc (L' := [(0, .ref (ρ 119)), (1, .ref (ρ q1)), (4, .int x6), (5, .int x16)]) h [1, 2, 5, 0] rfl ?_
              exact hk18 _ hD
            · refine g_iload h 0 t_X12_bestOf_43 rfl ?_
              refine g_iload_n h 4 t_X12_bestOf_45 rfl ?_
              refine g_icmp_gt (tgt := 52) h t_X12_bestOf_46 (by decide) hD (fun hD => ?_) (fun hD => ?_)
              · refine g_loc (L' := [(0, .ref (ρ 119)), (1, .ref (ρ q1)), (4, .int x6), (5, .int x16)]) h [1, 2, 5, 0] rfl ?_
                exact hk18 _ hD
              · refine g_goto (tgt := 58) h t_X12_bestOf_49 (by decide) ?_
                refine g_loc (L' := [(0, .ref (ρ 119)), (1, .ref (ρ q1)), (2, .int x4), (3, .int x5), (4, .int x6)]) h [1, 2, 3, 4, 5] rfl ?_
                exact hk13 x4 x5 _ hD
        · refine g_goto (tgt := 58) h t_X12_bestOf_26 (by decide) ?_
          refine g_loc (L' := [(0, .ref (ρ 119)), (1, .ref (ρ q1)), (2, .int x4), (3, .int x5), (4, .int x6)]) h [0, 1, 2, 3, 4] rfl ?_
          exact hk13 x4 x5 _ hD
set_option maxRecDepth 20000 in
theorem S_X12_bestOf {l0 : Launch} {ρ : Nat → Nat} {cs : Nat → ClassId} {G : va_G} (hρ : injN ρ) {o1 : Nat} (ho1 : isIA o1) {w : Wd} {rr : (Int32 × Wd)} (hD : D_X12_bestOf o1 w = some rr) : CtI l0 ρ cs G y_X12_bestOf prog_14_method_46_code 6 .int 86 [.ref (ρ 119), .ref (ρ o1)] w rr.1 rr.2 := by
  refine ctI_of hρ (by decide) (Nat.le_of_ble_eq_true rfl) (fun X hn h hR => ?_)
  unfold D_X12_bestOf at hD
  show gG ρ cs G X 0 [(0, .ref (ρ 119)), (1, .ref (ρ o1))] [] w
  refine g_iconst (v := (-1)) h t_X12_bestOf_0 (by decide) ?_
  refine g_istore_n (L' := [(2, .int (-1)), (0, .ref (ρ 119)), (1, .ref (ρ o1))]) h hn t_X12_bestOf_1 rfl (by decide) rfl ?_
  refine g_iconst (v := 0) h t_X12_bestOf_2 (by decide) ?_
  refine g_istore_n (L' := [(3, .int 0), (2, .int (-1)), (0, .ref (ρ 119)), (1, .ref (ρ o1))]) h hn t_X12_bestOf_3 rfl (by decide) rfl ?_
  refine g_iconst (v := 0) h t_X12_bestOf_4 (by decide) ?_
  refine g_istore (L' := [(4, .int 0), (3, .int 0), (2, .int (-1)), (0, .ref (ρ 119)), (1, .ref (ρ o1))]) h hn t_X12_bestOf_5 (by decide) rfl ?_
  refine g_loc (L' := [(0, .ref (ρ 119)), (1, .ref (ρ o1)), (2, .int (-1)), (3, .int 0), (4, .int 0)]) h [3, 4, 2, 1, 0] rfl ?_
  refine Q_X12_bestOf_7 hρ hn h hR ho1 ?_ _ _ _ _ _ hD
  · intro x19 w20 hD
    unfold J_X12_bestOf_x64_3 at hD
    refine g_iload_n h 0 t_X12_bestOf_64 rfl ?_
    obtain rfl := Option.some.inj hD
    exact hR _ _ t_X12_bestOf_65 rfl
def D_X12_goRule (o1 : Nat) : Wd → Option (Int32 × Wd) := fun w =>
  bc (D_X12_isOver o1 w) fun x2 w1 => if x2 = 0 then (bc (D_X12_bestOf o1 w1) fun x4 w3 => bv (D_X12_goMove o1 x4 w3) fun w5 => some (1, w5)) else (some (0, w1))
set_option maxRecDepth 20000 in
theorem S_X12_goRule {l0 : Launch} {ρ : Nat → Nat} {cs : Nat → ClassId} {G : va_G} (hρ : injN ρ) {o1 : Nat} (ho1 : isIA o1) {w : Wd} {rr : (Int32 × Wd)} (hD : D_X12_goRule o1 w = some rr) : CtI l0 ρ cs G y_X12_goRule prog_14_method_47_code 2 .boolean 87 [.ref (ρ 119), .ref (ρ o1)] w rr.1 rr.2 := by
  refine ctI_of hρ (by decide) (Nat.le_of_ble_eq_true rfl) (fun X hn h hR => ?_)
  unfold D_X12_goRule at hD
  show gG ρ cs G X 0 [(0, .ref (ρ 119)), (1, .ref (ρ o1))] [] w
  refine g_aload_n h 0 t_X12_goRule_0 rfl ?_
  refine g_aload_n h 1 t_X12_goRule_1 rfl ?_
  refine g_callVI h 119 (As := [.ref (ρ o1)]) (st := []) my_X12_isOver mi_X12_isOver ml_12_282 rfl (by decide) rfl rfl rfl (Nat.le_of_ble_eq_true rfl) (by decide) t_X12_goRule_2 hD (fun _ _ e => S_X12_isOver hρ ho1 e) (fun x2 w1 hD => ?_)
  refine g_if_eq (tgt := 10) h t_X12_goRule_5 (by decide) hD (fun hD => ?_) (fun hD => ?_)
  · refine g_aload_n h 0 t_X12_goRule_10 rfl ?_
    refine g_aload_n h 1 t_X12_goRule_11 rfl ?_
    refine g_aload_n h 0 t_X12_goRule_12 rfl ?_
    refine g_aload_n h 1 t_X12_goRule_13 rfl ?_
    refine g_callVI h 119 (As := [.ref (ρ o1)]) (st := [.ref (ρ o1), .ref (ρ 119)]) my_X12_bestOf mi_X12_bestOf ml_12_286 rfl (by decide) rfl rfl rfl (Nat.le_of_ble_eq_true rfl) (by decide) t_X12_goRule_14 hD (fun _ _ e => S_X12_bestOf hρ ho1 e) (fun x4 w3 hD => ?_)
    refine g_callVV h 119 (As := [.ref (ρ o1), .int x4]) (st := []) my_X12_goMove mi_X12_goMove ml_12_272 rfl (by decide) rfl rfl rfl (Nat.le_of_ble_eq_true rfl) (by decide) t_X12_goRule_17 hD (fun _ e => S_X12_goMove hρ ho1 e) (fun w5 hD => ?_)
    refine g_iconst (v := 1) h t_X12_goRule_20 (by decide) ?_
    obtain rfl := Option.some.inj hD
    exact hR _ _ t_X12_goRule_21 (b01_n rfl)
  · refine g_iconst (v := 0) h t_X12_goRule_8 (by decide) ?_
    obtain rfl := Option.some.inj hD
    exact hR _ _ t_X12_goRule_9 (b01_n rfl)
def L_X12_plays_41 (x7 : Int32) (k8 : Int32 → Wd → Option (Int32 × Wd)) : Nat → Int32 → Wd → Option (Int32 × Wd)
  | 0, _, _ => none
  | n9 + 1, x10, w11 =>
    if x7 ≤ x10 then (k8 x10 w11) else (bc (D_X12_goRule 120 w11) fun x13 w12 => if x13 = 0 then (k8 x10 w12) else (bd (x10 + 1) fun x14 => L_X12_plays_41 x7 k8 n9 x14 w12))
def J_X12_plays_x63_1  : Int32 → Wd → Option (Int32 × Wd) := fun x15 w16 =>
  bd (wI w16 119 6 0) fun w17 => if ib 12 16 then (bv (D_X12_tell ((w17.1 120 (12 : Int32).toNatClampNeg).toInt64) w17) fun w18 => if ib 13 16 then (bv (D_X12_tell ((w18.1 120 (13 : Int32).toNatClampNeg).toInt64) w18) fun w19 => some (x15, w19)) else none) else none
def D_X12_plays (p1 : Int32) : Wd → Option (Int32 × Wd) := fun w =>
  bd (wI w 119 7 0) fun w1 => bc (D_X12_in p1 1 60 w1) fun x3 w2 => if x3 = 0 then (some ((-1), w2)) else (bc (D_X12_isOver 120 w2) fun x5 w4 => if x5 = 0 then (bv (D_X12_remember 120 w4) fun w6 => L_X12_plays_41 p1 J_X12_plays_x63_1 FU 0 w6) else (some ((-2), w4)))
set_option maxRecDepth 20000 in
theorem Q_X12_plays_41 {l0 : Launch} {ρ : Nat → Nat} {cs : Nat → ClassId} {G : va_G} {X : Cx} (hρ : injN ρ) (hn : X.2.2.2.2.2.2.2.2.2.2.1 = 3) (h : Okx l0 ρ cs G X prog_14_method_48_code "SowingBoardsModel" 88) {rr : (Int32 × Wd)} (hR : ∀ pc L, decode prog_14_method_48_code pc = .ok (.ireturn, 1) → narrow .int (.int rr.1) = .int rr.1 → gG ρ cs G X pc L [.int rr.1] rr.2) {x7 : Int32} {k8 : Int32 → Wd → Option (Int32 × Wd)} (hk8 : ∀ (z2 : Int32) (w1 : Wd), k8 z2 w1 = some rr → gG ρ cs G X 63 [(0, .ref (ρ 119)), (2, .int z2)] [] w1) : ∀ (n : Nat) (x10 : Int32) (w : Wd), L_X12_plays_41 x7 k8 n x10 w = some rr → gG ρ cs G X 41 [(0, .ref (ρ 119)), (1, .int x7), (2, .int x10)] [] w := by
  intro n
  induction n with
  | zero =>
    intro x10 w hD
    cases hD
  | succ n9 ih =>
    intro x10 w11 hD
    unfold L_X12_plays_41 at hD
    refine g_iload_n h 2 t_X12_plays_41 rfl ?_
    refine g_iload_n h 1 t_X12_plays_42 rfl ?_
    refine g_icmp_ge (tgt := 63) h t_X12_plays_43 (by decide) hD (fun hD => ?_) (fun hD => ?_)
    · refine g_loc (L' := [(0, .ref (ρ 119)), (2, .int x10)]) h [0, 2] rfl ?_
      exact hk8 x10 _ hD
    · refine g_aload_n h 0 t_X12_plays_46 rfl ?_
      refine g_aload_n h 0 t_X12_plays_47 rfl ?_
      refine g_getR h 119 0 120 fl_12_9 rfl (by decide) rfl t_X12_plays_48 ?_
      refine g_callVI h 119 (As := [.ref (ρ 120)]) (st := []) my_X12_goRule mi_X12_goRule ml_12_289 rfl (by decide) rfl rfl rfl (Nat.le_of_ble_eq_true rfl) (by decide) t_X12_plays_51 hD (fun _ _ e => S_X12_goRule hρ (by decide) e) (fun x13 w12 hD => ?_)
      refine g_if_eq (tgt := 63) h t_X12_plays_54 (by decide) hD (fun hD => ?_) (fun hD => ?_)
      · refine g_loc (L' := [(0, .ref (ρ 119)), (2, .int x10)]) h [0, 2] rfl ?_
        exact hk8 x10 _ hD
      · obtain ⟨x14, ex14, hD⟩ := bd_ex hD
        refine g_iinc (v := x14) (L' := [(2, .int x14), (0, .ref (ρ 119)), (1, .int x7)]) h hn t_X12_plays_57 (k := 2) rfl (by rw [ex14]; rfl) (by decide) rfl ?_
        refine g_goto (tgt := 41) h t_X12_plays_60 (by decide) ?_
        refine g_loc (L' := [(0, .ref (ρ 119)), (1, .int x7), (2, .int x14)]) h [1, 2, 0] rfl ?_
        exact ih x14 _ hD
set_option maxRecDepth 20000 in
theorem S_X12_plays {l0 : Launch} {ρ : Nat → Nat} {cs : Nat → ClassId} {G : va_G} (hρ : injN ρ) {p1 : Int32} {w : Wd} {rr : (Int32 × Wd)} (hD : D_X12_plays p1 w = some rr) : CtI l0 ρ cs G y_X12_plays prog_14_method_48_code 3 .int 88 [.ref (ρ 119), .int p1] w rr.1 rr.2 := by
  refine ctI_of hρ (by decide) (Nat.le_of_ble_eq_true rfl) (fun X hn h hR => ?_)
  unfold D_X12_plays at hD
  show gG ρ cs G X 0 [(0, .ref (ρ 119)), (1, .int p1)] [] w
  refine g_aload_n h 0 t_X12_plays_0 rfl ?_
  refine g_iconst (v := 0) h t_X12_plays_1 (by decide) ?_
  refine g_putI h 119 7 fl_12_109 fp_12_7 rfl (by decide) rfl t_X12_plays_2 hD (fun w1 hD => ?_)
  refine g_iload_n h 1 t_X12_plays_5 rfl ?_
  refine g_iconst (v := 1) h t_X12_plays_6 (by decide) ?_
  refine g_bipush (v := 60) h t_X12_plays_7 (by decide) ?_
  refine g_callSI h (As := [.int p1, .int 1, .int 60]) (st := []) my_X12_in ms_X12_in ml_12_118 rfl rfl (Nat.le_of_ble_eq_true rfl) (by decide) t_X12_plays_9 hD (fun _ _ e => S_X12_in hρ  e) (fun x3 w2 hD => ?_)
  refine g_if_ne (tgt := 17) h t_X12_plays_12 (by decide) hD (fun hD => ?_) (fun hD => ?_)
  · refine g_aload_n h 0 t_X12_plays_17 rfl ?_
    refine g_aload_n h 0 t_X12_plays_18 rfl ?_
    refine g_getR h 119 0 120 fl_12_9 rfl (by decide) rfl t_X12_plays_19 ?_
    refine g_callVI h 119 (As := [.ref (ρ 120)]) (st := []) my_X12_isOver mi_X12_isOver ml_12_282 rfl (by decide) rfl rfl rfl (Nat.le_of_ble_eq_true rfl) (by decide) t_X12_plays_22 hD (fun _ _ e => S_X12_isOver hρ (by decide) e) (fun x5 w4 hD => ?_)
    refine g_if_eq (tgt := 31) h t_X12_plays_25 (by decide) hD (fun hD => ?_) (fun hD => ?_)
    · refine g_aload_n h 0 t_X12_plays_31 rfl ?_
      refine g_aload_n h 0 t_X12_plays_32 rfl ?_
      refine g_getR h 119 0 120 fl_12_9 rfl (by decide) rfl t_X12_plays_33 ?_
      refine g_callVV h 119 (As := [.ref (ρ 120)]) (st := []) my_X12_remember mi_X12_remember ml_12_268 rfl (by decide) rfl rfl rfl (Nat.le_of_ble_eq_true rfl) (by decide) t_X12_plays_36 hD (fun _ e => S_X12_remember hρ (by decide) e) (fun w6 hD => ?_)
      refine g_iconst (v := 0) h t_X12_plays_39 (by decide) ?_
      refine g_istore_n (L' := [(2, .int 0), (0, .ref (ρ 119)), (1, .int p1)]) h hn t_X12_plays_40 rfl (by decide) rfl ?_
      refine g_loc (L' := [(0, .ref (ρ 119)), (1, .int p1), (2, .int 0)]) h [1, 2, 0] rfl ?_
      refine Q_X12_plays_41 hρ hn h hR  ?_ _ _ _ hD
      · intro x15 w16 hD
        unfold J_X12_plays_x63_1 at hD
        refine g_aload_n h 0 t_X12_plays_63 rfl ?_
        refine g_iconst (v := 0) h t_X12_plays_64 (by decide) ?_
        refine g_putI h 119 6 fl_12_112 fp_12_6 rfl (by decide) rfl t_X12_plays_65 hD (fun w17 hD => ?_)
        refine g_aload_n h 0 t_X12_plays_68 rfl ?_
        refine g_aload_n h 0 t_X12_plays_69 rfl ?_
        refine g_getR h 119 0 120 fl_12_9 rfl (by decide) rfl t_X12_plays_70 ?_
        refine g_bipush (v := 12) h t_X12_plays_73 (by decide) ?_
        refine g_iald h 120 rfl (by decide) t_X12_plays_75 hD (fun hD => ?_)
        refine g_i2l h t_X12_plays_76 ?_
        refine g_callVV h 119 (As := [.long ((w17.1 120 (12 : Int32).toNatClampNeg).toInt64)]) (st := []) my_X12_tell mi_X12_tell ml_12_260 rfl (by decide) rfl rfl rfl (Nat.le_of_ble_eq_true rfl) (by decide) t_X12_plays_77 hD (fun _ e => S_X12_tell hρ  e) (fun w18 hD => ?_)
        refine g_aload_n h 0 t_X12_plays_80 rfl ?_
        refine g_aload_n h 0 t_X12_plays_81 rfl ?_
        refine g_getR h 119 0 120 fl_12_9 rfl (by decide) rfl t_X12_plays_82 ?_
        refine g_bipush (v := 13) h t_X12_plays_85 (by decide) ?_
        refine g_iald h 120 rfl (by decide) t_X12_plays_87 hD (fun hD => ?_)
        refine g_i2l h t_X12_plays_88 ?_
        refine g_callVV h 119 (As := [.long ((w18.1 120 (13 : Int32).toNatClampNeg).toInt64)]) (st := []) my_X12_tell mi_X12_tell ml_12_260 rfl (by decide) rfl rfl rfl (Nat.le_of_ble_eq_true rfl) (by decide) t_X12_plays_89 hD (fun _ e => S_X12_tell hρ  e) (fun w19 hD => ?_)
        refine g_iload_n h 1 t_X12_plays_92 rfl ?_
        obtain rfl := Option.some.inj hD
        exact hR _ _ t_X12_plays_93 rfl
    · refine g_bipush (v := (-2)) h t_X12_plays_28 (by decide) ?_
      obtain rfl := Option.some.inj hD
      exact hR _ _ t_X12_plays_30 rfl
  · refine g_iconst (v := (-1)) h t_X12_plays_15 (by decide) ?_
    obtain rfl := Option.some.inj hD
    exact hR _ _ t_X12_plays_16 rfl
def D_X12_passes_  : Wd → Option (Int32 × Wd) := fun w =>
  bd (wI w 119 7 0) fun w1 => bv (D_X12_remember 120 w1) fun w2 => if ib 14 16 then (if ib 14 16 then bd (wI w2 120 (14 : Int32).toNatClampNeg (1 - (w2.1 120 (14 : Int32).toNatClampNeg))) (fun w3 => if ib 14 16 then (some (w3.1 120 (14 : Int32).toNatClampNeg, w3)) else none) else none) else none
set_option maxRecDepth 20000 in
theorem S_X12_passes_ {l0 : Launch} {ρ : Nat → Nat} {cs : Nat → ClassId} {G : va_G} (hρ : injN ρ)  {w : Wd} {rr : (Int32 × Wd)} (hD : D_X12_passes_ w = some rr) : CtI l0 ρ cs G y_X12_passes_ prog_14_method_49_code 1 .int 2 [.ref (ρ 119)] w rr.1 rr.2 := by
  refine ctI_of hρ (by decide) (Nat.le_of_ble_eq_true rfl) (fun X hn h hR => ?_)
  unfold D_X12_passes_ at hD
  show gG ρ cs G X 0 [(0, .ref (ρ 119))] [] w
  refine g_aload_n h 0 t_X12_passes__0 rfl ?_
  refine g_iconst (v := 0) h t_X12_passes__1 (by decide) ?_
  refine g_putI h 119 7 fl_12_109 fp_12_7 rfl (by decide) rfl t_X12_passes__2 hD (fun w1 hD => ?_)
  refine g_aload_n h 0 t_X12_passes__5 rfl ?_
  refine g_aload_n h 0 t_X12_passes__6 rfl ?_
  refine g_getR h 119 0 120 fl_12_9 rfl (by decide) rfl t_X12_passes__7 ?_
  refine g_callVV h 119 (As := [.ref (ρ 120)]) (st := []) my_X12_remember mi_X12_remember ml_12_268 rfl (by decide) rfl rfl rfl (Nat.le_of_ble_eq_true rfl) (by decide) t_X12_passes__10 hD (fun _ e => S_X12_remember hρ (by decide) e) (fun w2 hD => ?_)
  refine g_aload_n h 0 t_X12_passes__13 rfl ?_
  refine g_getR h 119 0 120 fl_12_9 rfl (by decide) rfl t_X12_passes__14 ?_
  refine g_bipush (v := 14) h t_X12_passes__17 (by decide) ?_
  refine g_iconst (v := 1) h t_X12_passes__19 (by decide) ?_
  refine g_aload_n h 0 t_X12_passes__20 rfl ?_
  refine g_getR h 119 0 120 fl_12_9 rfl (by decide) rfl t_X12_passes__21 ?_
  refine g_bipush (v := 14) h t_X12_passes__24 (by decide) ?_
  refine g_iald h 120 rfl (by decide) t_X12_passes__26 hD (fun hD => ?_)
  refine g_isub h t_X12_passes__27 ?_
  refine g_iast h 120 rfl (by decide) t_X12_passes__28 hD (fun w3 hD => ?_)
  refine g_aload_n h 0 t_X12_passes__29 rfl ?_
  refine g_getR h 119 0 120 fl_12_9 rfl (by decide) rfl t_X12_passes__30 ?_
  refine g_bipush (v := 14) h t_X12_passes__33 (by decide) ?_
  refine g_iald h 120 rfl (by decide) t_X12_passes__35 hD (fun hD => ?_)
  obtain rfl := Option.some.inj hD
  exact hR _ _ t_X12_passes__36 rfl
def D_X12_adds (p1 : Int32) (p2 : Int32) : Wd → Option (Int32 × Wd) := fun w =>
  bd (wI w 119 7 0) fun w1 => bc (D_X12_pits w1) fun x3 w2 => bc (D_X12_in p1 0 (x3 - 1) w2) fun x5 w4 => if x5 = 0 then (some ((-1), w4)) else (bc (D_X12_in p2 1 9 w4) fun x7 w6 => if x7 = 0 then (some ((-1), w6)) else (bc (D_X12_pits w6) fun x9 w8 => bc (D_X12_seeds 120 0 x9 w8) fun x11 w10 => bc (D_X12_seeds 120 12 2 w10) fun x13 w12 => if ((x11 + x13) + p2) ≤ 200 then (bv (D_X12_remember 120 w12) fun w14 => if ib p1 16 then (if ib p1 16 then bd (wI w14 120 p1.toNatClampNeg ((w14.1 120 p1.toNatClampNeg) + p2)) (fun w15 => if ib p1 16 then (some (w15.1 120 p1.toNatClampNeg, w15)) else none) else none) else none) else (some ((-2), w12))))
set_option maxRecDepth 20000 in
theorem S_X12_adds {l0 : Launch} {ρ : Nat → Nat} {cs : Nat → ClassId} {G : va_G} (hρ : injN ρ) {p1 : Int32} {p2 : Int32} {w : Wd} {rr : (Int32 × Wd)} (hD : D_X12_adds p1 p2 w = some rr) : CtI l0 ρ cs G y_X12_adds prog_14_method_50_code 3 .int 2 [.ref (ρ 119), .int p1, .int p2] w rr.1 rr.2 := by
  refine ctI_of hρ (by decide) (Nat.le_of_ble_eq_true rfl) (fun X hn h hR => ?_)
  unfold D_X12_adds at hD
  show gG ρ cs G X 0 [(0, .ref (ρ 119)), (1, .int p1), (2, .int p2)] [] w
  refine g_aload_n h 0 t_X12_adds_0 rfl ?_
  refine g_iconst (v := 0) h t_X12_adds_1 (by decide) ?_
  refine g_putI h 119 7 fl_12_109 fp_12_7 rfl (by decide) rfl t_X12_adds_2 hD (fun w1 hD => ?_)
  refine g_iload_n h 1 t_X12_adds_5 rfl ?_
  refine g_iconst (v := 0) h t_X12_adds_6 (by decide) ?_
  refine g_aload_n h 0 t_X12_adds_7 rfl ?_
  refine g_callVI h 119 (As := []) (st := [.int 0, .int p1]) my_X12_pits mi_X12_pits ml_12_214 rfl (by decide) rfl rfl rfl (Nat.le_of_ble_eq_true rfl) (by decide) t_X12_adds_8 hD (fun _ _ e => S_X12_pits hρ  e) (fun x3 w2 hD => ?_)
  refine g_iconst (v := 1) h t_X12_adds_11 (by decide) ?_
  refine g_isub h t_X12_adds_12 ?_
  refine g_callSI h (As := [.int p1, .int 0, .int (x3 - 1)]) (st := []) my_X12_in ms_X12_in ml_12_118 rfl rfl (Nat.le_of_ble_eq_true rfl) (by decide) t_X12_adds_13 hD (fun _ _ e => S_X12_in hρ  e) (fun x5 w4 hD => ?_)
  refine g_if_eq (tgt := 29) h t_X12_adds_16 (by decide) hD (fun hD => ?_) (fun hD => ?_)
  · refine g_iconst (v := (-1)) h t_X12_adds_29 (by decide) ?_
    obtain rfl := Option.some.inj hD
    exact hR _ _ t_X12_adds_30 rfl
  · refine g_iload_n h 2 t_X12_adds_19 rfl ?_
    refine g_iconst (v := 1) h t_X12_adds_20 (by decide) ?_
    refine g_bipush (v := 9) h t_X12_adds_21 (by decide) ?_
    refine g_callSI h (As := [.int p2, .int 1, .int 9]) (st := []) my_X12_in ms_X12_in ml_12_118 rfl rfl (Nat.le_of_ble_eq_true rfl) (by decide) t_X12_adds_23 hD (fun _ _ e => S_X12_in hρ  e) (fun x7 w6 hD => ?_)
    refine g_if_ne (tgt := 31) h t_X12_adds_26 (by decide) hD (fun hD => ?_) (fun hD => ?_)
    · refine g_aload_n h 0 t_X12_adds_31 rfl ?_
      refine g_aload_n h 0 t_X12_adds_32 rfl ?_
      refine g_getR h 119 0 120 fl_12_9 rfl (by decide) rfl t_X12_adds_33 ?_
      refine g_iconst (v := 0) h t_X12_adds_36 (by decide) ?_
      refine g_aload_n h 0 t_X12_adds_37 rfl ?_
      refine g_callVI h 119 (As := []) (st := [.int 0, .ref (ρ 120), .ref (ρ 119)]) my_X12_pits mi_X12_pits ml_12_214 rfl (by decide) rfl rfl rfl (Nat.le_of_ble_eq_true rfl) (by decide) t_X12_adds_38 hD (fun _ _ e => S_X12_pits hρ  e) (fun x9 w8 hD => ?_)
      refine g_callVI h 119 (As := [.ref (ρ 120), .int 0, .int x9]) (st := []) my_X12_seeds mi_X12_seeds ml_12_229 rfl (by decide) rfl rfl rfl (Nat.le_of_ble_eq_true rfl) (by decide) t_X12_adds_41 hD (fun _ _ e => S_X12_seeds hρ (by decide) e) (fun x11 w10 hD => ?_)
      refine g_aload_n h 0 t_X12_adds_44 rfl ?_
      refine g_aload_n h 0 t_X12_adds_45 rfl ?_
      refine g_getR h 119 0 120 fl_12_9 rfl (by decide) rfl t_X12_adds_46 ?_
      refine g_bipush (v := 12) h t_X12_adds_49 (by decide) ?_
      refine g_iconst (v := 2) h t_X12_adds_51 (by decide) ?_
      refine g_callVI h 119 (As := [.ref (ρ 120), .int 12, .int 2]) (st := [.int x11]) my_X12_seeds mi_X12_seeds ml_12_229 rfl (by decide) rfl rfl rfl (Nat.le_of_ble_eq_true rfl) (by decide) t_X12_adds_52 hD (fun _ _ e => S_X12_seeds hρ (by decide) e) (fun x13 w12 hD => ?_)
      refine g_iadd h t_X12_adds_55 ?_
      refine g_iload_n h 2 t_X12_adds_56 rfl ?_
      refine g_iadd h t_X12_adds_57 ?_
      refine g_sipush (v := 200) h t_X12_adds_58 (by decide) ?_
      refine g_icmp_le (tgt := 67) h t_X12_adds_61 (by decide) hD (fun hD => ?_) (fun hD => ?_)
      · refine g_aload_n h 0 t_X12_adds_67 rfl ?_
        refine g_aload_n h 0 t_X12_adds_68 rfl ?_
        refine g_getR h 119 0 120 fl_12_9 rfl (by decide) rfl t_X12_adds_69 ?_
        refine g_callVV h 119 (As := [.ref (ρ 120)]) (st := []) my_X12_remember mi_X12_remember ml_12_268 rfl (by decide) rfl rfl rfl (Nat.le_of_ble_eq_true rfl) (by decide) t_X12_adds_72 hD (fun _ e => S_X12_remember hρ (by decide) e) (fun w14 hD => ?_)
        refine g_aload_n h 0 t_X12_adds_75 rfl ?_
        refine g_getR h 119 0 120 fl_12_9 rfl (by decide) rfl t_X12_adds_76 ?_
        refine g_iload_n h 1 t_X12_adds_79 rfl ?_
        refine g_dup2 h t_X12_adds_80 rfl rfl ?_
        refine g_iald h 120 rfl (by decide) t_X12_adds_81 hD (fun hD => ?_)
        refine g_iload_n h 2 t_X12_adds_82 rfl ?_
        refine g_iadd h t_X12_adds_83 ?_
        refine g_iast h 120 rfl (by decide) t_X12_adds_84 hD (fun w15 hD => ?_)
        refine g_aload_n h 0 t_X12_adds_85 rfl ?_
        refine g_getR h 119 0 120 fl_12_9 rfl (by decide) rfl t_X12_adds_86 ?_
        refine g_iload_n h 1 t_X12_adds_89 rfl ?_
        refine g_iald h 120 rfl (by decide) t_X12_adds_90 hD (fun hD => ?_)
        obtain rfl := Option.some.inj hD
        exact hR _ _ t_X12_adds_91 rfl
      · refine g_bipush (v := (-2)) h t_X12_adds_64 (by decide) ?_
        obtain rfl := Option.some.inj hD
        exact hR _ _ t_X12_adds_66 rfl
    · refine g_iconst (v := (-1)) h t_X12_adds_29 (by decide) ?_
      obtain rfl := Option.some.inj hD
      exact hR _ _ t_X12_adds_30 rfl
def D_X12_act (p1 : Int32) : Wd → Option (Int32 × Wd) := fun w =>
  if p1 = 47 then (if ib 14 16 then (if ib 14 16 then bd (wI w 120 (14 : Int32).toNatClampNeg (1 - (w.1 120 (14 : Int32).toNatClampNeg))) (fun w6 => some (1, w6)) else none) else none) else (if p1 = 42 then (bc (D_X12_goRule 120 w) fun x5 w4 => if b01 x5 then some (x5, w4) else none) else (bc (D_X12_refuses 120 p1 w) fun x2 w1 => if 0 ≤ x2 then (bv (D_X12_goMove 120 p1 w1) fun w3 => some (1, w3)) else (some (0, w1))))
set_option maxRecDepth 20000 in
theorem S_X12_act {l0 : Launch} {ρ : Nat → Nat} {cs : Nat → ClassId} {G : va_G} (hρ : injN ρ) {p1 : Int32} {w : Wd} {rr : (Int32 × Wd)} (hD : D_X12_act p1 w = some rr) : CtI l0 ρ cs G y_X12_act prog_14_method_52_code 2 .boolean 88 [.ref (ρ 119), .int p1] w rr.1 rr.2 := by
  refine ctI_of hρ (by decide) (Nat.le_of_ble_eq_true rfl) (fun X hn h hR => ?_)
  unfold D_X12_act at hD
  show gG ρ cs G X 0 [(0, .ref (ρ 119)), (1, .int p1)] [] w
  refine g_iload_n h 1 t_X12_act_0 rfl ?_
  refine g_bipush (v := 47) h t_X12_act_1 (by decide) ?_
  refine g_icmp_ne (tgt := 24) h t_X12_act_3 (by decide) hD (fun hD => ?_) (fun hD => ?_)
  · refine g_iload_n h 1 t_X12_act_24 rfl ?_
    refine g_bipush (v := 42) h t_X12_act_25 (by decide) ?_
    refine g_icmp_ne (tgt := 39) h t_X12_act_27 (by decide) hD (fun hD => ?_) (fun hD => ?_)
    · refine g_aload_n h 0 t_X12_act_39 rfl ?_
      refine g_aload_n h 0 t_X12_act_40 rfl ?_
      refine g_getR h 119 0 120 fl_12_9 rfl (by decide) rfl t_X12_act_41 ?_
      refine g_iload_n h 1 t_X12_act_44 rfl ?_
      refine g_callVI h 119 (As := [.ref (ρ 120), .int p1]) (st := []) my_X12_refuses mi_X12_refuses ml_12_264 rfl (by decide) rfl rfl rfl (Nat.le_of_ble_eq_true rfl) (by decide) t_X12_act_45 hD (fun _ _ e => S_X12_refuses hρ (by decide) e) (fun x2 w1 hD => ?_)
      refine g_if_ge (tgt := 53) h t_X12_act_48 (by decide) hD (fun hD => ?_) (fun hD => ?_)
      · refine g_aload_n h 0 t_X12_act_53 rfl ?_
        refine g_aload_n h 0 t_X12_act_54 rfl ?_
        refine g_getR h 119 0 120 fl_12_9 rfl (by decide) rfl t_X12_act_55 ?_
        refine g_iload_n h 1 t_X12_act_58 rfl ?_
        refine g_callVV h 119 (As := [.ref (ρ 120), .int p1]) (st := []) my_X12_goMove mi_X12_goMove ml_12_272 rfl (by decide) rfl rfl rfl (Nat.le_of_ble_eq_true rfl) (by decide) t_X12_act_59 hD (fun _ e => S_X12_goMove hρ (by decide) e) (fun w3 hD => ?_)
        refine g_iconst (v := 1) h t_X12_act_62 (by decide) ?_
        obtain rfl := Option.some.inj hD
        exact hR _ _ t_X12_act_63 (b01_n rfl)
      · refine g_iconst (v := 0) h t_X12_act_51 (by decide) ?_
        obtain rfl := Option.some.inj hD
        exact hR _ _ t_X12_act_52 (b01_n rfl)
    · refine g_aload_n h 0 t_X12_act_30 rfl ?_
      refine g_aload_n h 0 t_X12_act_31 rfl ?_
      refine g_getR h 119 0 120 fl_12_9 rfl (by decide) rfl t_X12_act_32 ?_
      refine g_callVI h 119 (As := [.ref (ρ 120)]) (st := []) my_X12_goRule mi_X12_goRule ml_12_289 rfl (by decide) rfl rfl rfl (Nat.le_of_ble_eq_true rfl) (by decide) t_X12_act_35 hD (fun _ _ e => S_X12_goRule hρ (by decide) e) (fun x5 w4 hD => ?_)
      obtain ⟨hb, hD⟩ := of_ite hD
      obtain rfl := Option.some.inj hD
      exact hR _ _ t_X12_act_38 (b01_n hb)
  · refine g_aload_n h 0 t_X12_act_6 rfl ?_
    refine g_getR h 119 0 120 fl_12_9 rfl (by decide) rfl t_X12_act_7 ?_
    refine g_bipush (v := 14) h t_X12_act_10 (by decide) ?_
    refine g_iconst (v := 1) h t_X12_act_12 (by decide) ?_
    refine g_aload_n h 0 t_X12_act_13 rfl ?_
    refine g_getR h 119 0 120 fl_12_9 rfl (by decide) rfl t_X12_act_14 ?_
    refine g_bipush (v := 14) h t_X12_act_17 (by decide) ?_
    refine g_iald h 120 rfl (by decide) t_X12_act_19 hD (fun hD => ?_)
    refine g_isub h t_X12_act_20 ?_
    refine g_iast h 120 rfl (by decide) t_X12_act_21 hD (fun w6 hD => ?_)
    refine g_iconst (v := 1) h t_X12_act_22 (by decide) ?_
    obtain rfl := Option.some.inj hD
    exact hR _ _ t_X12_act_23 (b01_n rfl)
def J_X12_game_j46_1 (x5 : Int32) (k14 : Wd → Option (Int32 × Wd)) : Wd → Option (Int32 × Wd) := fun w16 =>
  bc (D_X12_here w16) fun x19 w18 => if ib x5 81 then bd (wI w18 131 x5.toNatClampNeg x19) (fun w20 => bd (wI w20 119 11 ((w20.1 119 11) + 1)) fun w21 => k14 w21) else none
def J_X12_game_j83_2 (r13 : Int32 → Wd → Option (Int32 × Wd)) (x5 : Int32) : Wd → Option (Int32 × Wd) := fun w13 =>
  bd (x5 + 1) fun x15 => r13 x15 w13
def L_X12_game_13 (k3 : Int32 → Wd → Option (Int32 × Wd)) : Nat → Int32 → Wd → Option (Int32 × Wd)
  | 0, _, _ => none
  | n4 + 1, x5, w6 =>
    bc (D_X12_fine w6) fun x8 w7 => if x8 = 0 then (k3 x5 w7) else (bc (D_X12_here w7) fun x10 w9 => if x10 = (-1) then (k3 x5 w9) else (bc (D_X12_here w9) fun x12 w11 => bd (J_X12_game_j83_2 (L_X12_game_13 k3 n4) x5) fun k14 => bd (J_X12_game_j46_1 x5 k14) fun k17 => if x12 = 42 then (k17 w11) else (bc (D_X12_here w11) fun x23 w22 => if x23 = 47 then (k17 w22) else (bc (D_X12_oneOf 48 6 w22) fun x25 w24 => if ib x5 81 then bd (wI w24 131 x5.toNatClampNeg x25) (fun w26 => k14 w26) else none))))
def L_X12_game_117 (x32 : Int32) (k33 : Int32 → Wd → Option (Int32 × Wd)) : Nat → Int32 → Wd → Option (Int32 × Wd)
  | 0, _, _ => none
  | n34 + 1, x35, w36 =>
    if x32 ≤ x35 then (k33 x35 w36) else (if ib x35 81 then (bc (D_X12_act (w36.1 131 x35.toNatClampNeg) w36) fun x38 w37 => if x38 = 0 then (k33 x35 w37) else (bd (x35 + 1) fun x39 => L_X12_game_117 x32 k33 n34 x39 w37)) else none)
def J_X12_game_j169_3 (x40 : Int32) : Int64 → Wd → Option (Int32 × Wd) := fun x45 w46 =>
  bv (D_X12_tell x45 w46) fun w48 => if ib 14 16 then (bv (D_X12_tell ((w48.1 120 (14 : Int32).toNatClampNeg).toInt64) w48) fun w49 => some (x40, w49)) else none
def J_X12_game_j153_4 (x40 : Int32) (x27 : Int32) : Wd → Option (Int32 × Wd) := fun w42 =>
  bd (wI w42 119 6 0) fun w44 => bd (J_X12_game_j169_3 x40) fun k47 => if x27 ≤ x40 then (k47 (0 : Int64) w44) else (k47 (1 : Int64) w44)
def J_X12_game_x141_5 (x27 : Int32) : Int32 → Wd → Option (Int32 × Wd) := fun x40 w41 =>
  bd (J_X12_game_j153_4 x40 x27) fun k43 => if x40 ≤ 0 then (k43 w41) else (bv (D_X12_remember 128 w41) fun w50 => k43 w50)
def J_X12_game_x89_6  : Int32 → Wd → Option (Int32 × Wd) := fun x27 w28 =>
  bc (D_X12_wasRight w28) fun x30 w29 => if x30 = 0 then (some ((-1) - (w29.1 119 12), w29)) else (bv (D_X12_lay 120 128 0 w29) fun w31 => L_X12_game_117 x27 (J_X12_game_x141_5 x27) FU 0 w31)
def D_X12_game  : Wd → Option (Int32 × Wd) := fun w =>
  bd (wI w 119 7 0) fun w1 => bv (D_X12_beginText 60 w1) fun w2 => L_X12_game_13 J_X12_game_x89_6 FU 0 w2
set_option maxRecDepth 20000 in
theorem Q_X12_game_13 {l0 : Launch} {ρ : Nat → Nat} {cs : Nat → ClassId} {G : va_G} {X : Cx} (hρ : injN ρ) (hn : X.2.2.2.2.2.2.2.2.2.2.1 = 3) (h : Okx l0 ρ cs G X prog_14_method_51_code "SowingBoardsModel" 89) {rr : (Int32 × Wd)} (hR : ∀ pc L, decode prog_14_method_51_code pc = .ok (.ireturn, 1) → narrow .int (.int rr.1) = .int rr.1 → gG ρ cs G X pc L [.int rr.1] rr.2)  {k3 : Int32 → Wd → Option (Int32 × Wd)} (hk3 : ∀ (z1 : Int32) (w1 : Wd), k3 z1 w1 = some rr → gG ρ cs G X 89 [(0, .ref (ρ 119)), (1, .int z1)] [] w1) : ∀ (n : Nat) (x5 : Int32) (w : Wd), L_X12_game_13 k3 n x5 w = some rr → gG ρ cs G X 13 [(0, .ref (ρ 119)), (1, .int x5)] [] w := by
  intro n
  induction n with
  | zero =>
    intro x5 w hD
    cases hD
  | succ n4 ih =>
    intro x5 w6 hD
    unfold L_X12_game_13 at hD
    refine g_aload_n h 0 t_X12_game_13 rfl ?_
    refine g_callVI h 119 (As := []) (st := []) my_X12_fine mi_X12_fine ml_12_141 rfl (by decide) rfl rfl rfl (Nat.le_of_ble_eq_true rfl) (by decide) t_X12_game_14 hD (fun _ _ e => S_X12_fine hρ  e) (fun x8 w7 hD => ?_)
    refine g_if_eq (tgt := 89) h t_X12_game_17 (by decide) hD (fun hD => ?_) (fun hD => ?_)
    · refine g_loc (L' := [(0, .ref (ρ 119)), (1, .int x5)]) h [0, 1] rfl ?_
      exact hk3 x5 _ hD
    · refine g_aload_n h 0 t_X12_game_20 rfl ?_
      refine g_callVI h 119 (As := []) (st := []) my_X12_here mi_X12_here ml_12_145 rfl (by decide) rfl rfl rfl (Nat.le_of_ble_eq_true rfl) (by decide) t_X12_game_21 hD (fun _ _ e => S_X12_here hρ  e) (fun x10 w9 hD => ?_)
      refine g_iconst (v := (-1)) h t_X12_game_24 (by decide) ?_
      refine g_icmp_eq (tgt := 89) h t_X12_game_25 (by decide) hD (fun hD => ?_) (fun hD => ?_)
      · refine g_loc (L' := [(0, .ref (ρ 119)), (1, .int x5)]) h [0, 1] rfl ?_
        exact hk3 x5 _ hD
      · refine g_aload_n h 0 t_X12_game_28 rfl ?_
        refine g_callVI h 119 (As := []) (st := []) my_X12_here mi_X12_here ml_12_145 rfl (by decide) rfl rfl rfl (Nat.le_of_ble_eq_true rfl) (by decide) t_X12_game_29 hD (fun _ _ e => S_X12_here hρ  e) (fun x12 w11 hD => ?_)
        refine g_bipush (v := 42) h t_X12_game_32 (by decide) ?_
        refine g_join (P := fun k14 => ∀ (w13 : Wd), k14 w13 = some rr → gG ρ cs G X 83 [(0, .ref (ρ 119)), (1, .int x5)] [] w13) hD ?_ (fun k14 hk14 hD => ?_)
        · intro w13 hD
          unfold J_X12_game_j83_2 at hD
          obtain ⟨x15, ex15, hD⟩ := bd_ex hD
          refine g_iinc (v := x15) (L' := [(1, .int x15), (0, .ref (ρ 119))]) h hn t_X12_game_83 (k := 1) rfl (by rw [ex15]; rfl) (by decide) rfl ?_
          refine g_goto (tgt := 13) h t_X12_game_86 (by decide) ?_
          refine g_loc (L' := [(0, .ref (ρ 119)), (1, .int x15)]) h [1, 0] rfl ?_
          exact ih x15 _ hD
        · refine g_join (P := fun k17 => ∀ (w16 : Wd), k17 w16 = some rr → gG ρ cs G X 46 [(0, .ref (ρ 119)), (1, .int x5)] [] w16) hD ?_ (fun k17 hk17 hD => ?_)
          · intro w16 hD
            unfold J_X12_game_j46_1 at hD
            refine g_aload_n h 0 t_X12_game_46 rfl ?_
            refine g_getR h 119 27 131 fl_12_52 rfl (by decide) rfl t_X12_game_47 ?_
            refine g_iload_n h 1 t_X12_game_50 rfl ?_
            refine g_aload_n h 0 t_X12_game_51 rfl ?_
            refine g_callVI h 119 (As := []) (st := [.int x5, .ref (ρ 131)]) my_X12_here mi_X12_here ml_12_145 rfl (by decide) rfl rfl rfl (Nat.le_of_ble_eq_true rfl) (by decide) t_X12_game_52 hD (fun _ _ e => S_X12_here hρ  e) (fun x19 w18 hD => ?_)
            refine g_iast h 131 rfl (by decide) t_X12_game_55 hD (fun w20 hD => ?_)
            refine g_aload_n h 0 t_X12_game_56 rfl ?_
            refine g_dup h t_X12_game_57 rfl ?_
            refine g_getI h 119 11 fl_12_131 rfl (by decide) rfl t_X12_game_58 ?_
            refine g_iconst (v := 1) h t_X12_game_61 (by decide) ?_
            refine g_iadd h t_X12_game_62 ?_
            refine g_putI h 119 11 fl_12_131 fp_12_11 rfl (by decide) rfl t_X12_game_63 hD (fun w21 hD => ?_)
            refine g_goto (tgt := 83) h t_X12_game_66 (by decide) ?_
            refine g_loc (L' := [(0, .ref (ρ 119)), (1, .int x5)]) h [0, 1] rfl ?_
            exact hk14 _ hD
          · refine g_icmp_eq (tgt := 46) h t_X12_game_34 (by decide) hD (fun hD => ?_) (fun hD => ?_)
            · refine g_loc (L' := [(0, .ref (ρ 119)), (1, .int x5)]) h [0, 1] rfl ?_
              exact hk17 _ hD
            · refine g_aload_n h 0 t_X12_game_37 rfl ?_
              refine g_callVI h 119 (As := []) (st := []) my_X12_here mi_X12_here ml_12_145 rfl (by decide) rfl rfl rfl (Nat.le_of_ble_eq_true rfl) (by decide) t_X12_game_38 hD (fun _ _ e => S_X12_here hρ  e) (fun x23 w22 hD => ?_)
              refine g_bipush (v := 47) h t_X12_game_41 (by decide) ?_
              refine g_icmp_ne (tgt := 69) h t_X12_game_43 (by decide) hD (fun hD => ?_) (fun hD => ?_)
              · refine g_aload_n h 0 t_X12_game_69 rfl ?_
                refine g_getR h 119 27 131 fl_12_52 rfl (by decide) rfl t_X12_game_70 ?_
                refine g_iload_n h 1 t_X12_game_73 rfl ?_
                refine g_aload_n h 0 t_X12_game_74 rfl ?_
                refine g_bipush (v := 48) h t_X12_game_75 (by decide) ?_
                refine g_bipush (v := 6) h t_X12_game_77 (by decide) ?_
                refine g_callVI h 119 (As := [.int 48, .int 6]) (st := [.int x5, .ref (ρ 131)]) my_X12_oneOf mi_X12_oneOf ml_12_157 rfl (by decide) rfl rfl rfl (Nat.le_of_ble_eq_true rfl) (by decide) t_X12_game_79 hD (fun _ _ e => S_X12_oneOf hρ  e) (fun x25 w24 hD => ?_)
                refine g_iast h 131 rfl (by decide) t_X12_game_82 hD (fun w26 hD => ?_)
                refine g_loc (L' := [(0, .ref (ρ 119)), (1, .int x5)]) h [0, 1] rfl ?_
                exact hk14 _ hD
              · refine g_loc (L' := [(0, .ref (ρ 119)), (1, .int x5)]) h [0, 1] rfl ?_
                exact hk17 _ hD
set_option maxRecDepth 20000 in
theorem Q_X12_game_117 {l0 : Launch} {ρ : Nat → Nat} {cs : Nat → ClassId} {G : va_G} {X : Cx} (hρ : injN ρ) (hn : X.2.2.2.2.2.2.2.2.2.2.1 = 3) (h : Okx l0 ρ cs G X prog_14_method_51_code "SowingBoardsModel" 89) {rr : (Int32 × Wd)} (hR : ∀ pc L, decode prog_14_method_51_code pc = .ok (.ireturn, 1) → narrow .int (.int rr.1) = .int rr.1 → gG ρ cs G X pc L [.int rr.1] rr.2) {x32 : Int32} {k33 : Int32 → Wd → Option (Int32 × Wd)} (hk33 : ∀ (z2 : Int32) (w1 : Wd), k33 z2 w1 = some rr → gG ρ cs G X 141 [(0, .ref (ρ 119)), (1, .int x32), (2, .int z2)] [] w1) : ∀ (n : Nat) (x35 : Int32) (w : Wd), L_X12_game_117 x32 k33 n x35 w = some rr → gG ρ cs G X 117 [(0, .ref (ρ 119)), (1, .int x32), (2, .int x35)] [] w := by
  intro n
  induction n with
  | zero =>
    intro x35 w hD
    cases hD
  | succ n34 ih =>
    intro x35 w36 hD
    unfold L_X12_game_117 at hD
    refine g_iload_n h 2 t_X12_game_117 rfl ?_
    refine g_iload_n h 1 t_X12_game_118 rfl ?_
    refine g_icmp_ge (tgt := 141) h t_X12_game_119 (by decide) hD (fun hD => ?_) (fun hD => ?_)
    · refine g_loc (L' := [(0, .ref (ρ 119)), (1, .int x32), (2, .int x35)]) h [0, 1, 2] rfl ?_
      exact hk33 x35 _ hD
    · refine g_aload_n h 0 t_X12_game_122 rfl ?_
      refine g_aload_n h 0 t_X12_game_123 rfl ?_
      refine g_getR h 119 27 131 fl_12_52 rfl (by decide) rfl t_X12_game_124 ?_
      refine g_iload_n h 2 t_X12_game_127 rfl ?_
      refine g_iald h 131 rfl (by decide) t_X12_game_128 hD (fun hD => ?_)
      refine g_callVI h 119 (As := [.int (w36.1 131 x35.toNatClampNeg)]) (st := []) my_X12_act mi_X12_act ml_12_292 rfl (by decide) rfl rfl rfl (Nat.le_of_ble_eq_true rfl) (by decide) t_X12_game_129 hD (fun _ _ e => S_X12_act hρ  e) (fun x38 w37 hD => ?_)
      refine g_if_eq (tgt := 141) h t_X12_game_132 (by decide) hD (fun hD => ?_) (fun hD => ?_)
      · refine g_loc (L' := [(0, .ref (ρ 119)), (1, .int x32), (2, .int x35)]) h [0, 1, 2] rfl ?_
        exact hk33 x35 _ hD
      · obtain ⟨x39, ex39, hD⟩ := bd_ex hD
        refine g_iinc (v := x39) (L' := [(2, .int x39), (0, .ref (ρ 119)), (1, .int x32)]) h hn t_X12_game_135 (k := 2) rfl (by rw [ex39]; rfl) (by decide) rfl ?_
        refine g_goto (tgt := 117) h t_X12_game_138 (by decide) ?_
        refine g_loc (L' := [(0, .ref (ρ 119)), (1, .int x32), (2, .int x39)]) h [1, 2, 0] rfl ?_
        exact ih x39 _ hD
set_option maxRecDepth 20000 in
theorem S_X12_game {l0 : Launch} {ρ : Nat → Nat} {cs : Nat → ClassId} {G : va_G} (hρ : injN ρ)  {w : Wd} {rr : (Int32 × Wd)} (hD : D_X12_game w = some rr) : CtI l0 ρ cs G y_X12_game prog_14_method_51_code 3 .int 89 [.ref (ρ 119)] w rr.1 rr.2 := by
  refine ctI_of hρ (by decide) (Nat.le_of_ble_eq_true rfl) (fun X hn h hR => ?_)
  unfold D_X12_game at hD
  show gG ρ cs G X 0 [(0, .ref (ρ 119))] [] w
  refine g_aload_n h 0 t_X12_game_0 rfl ?_
  refine g_iconst (v := 0) h t_X12_game_1 (by decide) ?_
  refine g_putI h 119 7 fl_12_109 fp_12_7 rfl (by decide) rfl t_X12_game_2 hD (fun w1 hD => ?_)
  refine g_aload_n h 0 t_X12_game_5 rfl ?_
  refine g_bipush (v := 60) h t_X12_game_6 (by decide) ?_
  refine g_callVV h 119 (As := [.int 60]) (st := []) my_X12_beginText mi_X12_beginText ml_12_161 rfl (by decide) rfl rfl rfl (Nat.le_of_ble_eq_true rfl) (by decide) t_X12_game_8 hD (fun _ e => S_X12_beginText hρ  e) (fun w2 hD => ?_)
  refine g_iconst (v := 0) h t_X12_game_11 (by decide) ?_
  refine g_istore_n (L' := [(1, .int 0), (0, .ref (ρ 119))]) h hn t_X12_game_12 rfl (by decide) rfl ?_
  refine g_loc (L' := [(0, .ref (ρ 119)), (1, .int 0)]) h [1, 0] rfl ?_
  refine Q_X12_game_13 hρ hn h hR  ?_ _ _ _ hD
  · intro x27 w28 hD
    unfold J_X12_game_x89_6 at hD
    refine g_aload_n h 0 t_X12_game_89 rfl ?_
    refine g_callVI h 119 (As := []) (st := []) my_X12_wasRight mi_X12_wasRight ml_12_164 rfl (by decide) rfl rfl rfl (Nat.le_of_ble_eq_true rfl) (by decide) t_X12_game_90 hD (fun _ _ e => S_X12_wasRight hρ  e) (fun x30 w29 hD => ?_)
    refine g_if_ne (tgt := 103) h t_X12_game_93 (by decide) hD (fun hD => ?_) (fun hD => ?_)
    · refine g_aload_n h 0 t_X12_game_103 rfl ?_
      refine g_getR h 119 0 120 fl_12_9 rfl (by decide) rfl t_X12_game_104 ?_
      refine g_aload_n h 0 t_X12_game_107 rfl ?_
      refine g_getR h 119 24 128 fl_12_43 rfl (by decide) rfl t_X12_game_108 ?_
      refine g_iconst (v := 0) h t_X12_game_111 (by decide) ?_
      refine g_callSV h (As := [.ref (ρ 120), .ref (ρ 128), .int 0]) (st := []) my_X12_lay ms_X12_lay ml_12_256 rfl rfl (Nat.le_of_ble_eq_true rfl) (by decide) t_X12_game_112 hD (fun _ e => S_X12_lay hρ (by decide) (by decide) e) (fun w31 hD => ?_)
      refine g_iconst (v := 0) h t_X12_game_115 (by decide) ?_
      refine g_istore_n (L' := [(2, .int 0), (0, .ref (ρ 119)), (1, .int x27)]) h hn t_X12_game_116 rfl (by decide) rfl ?_
      refine g_loc (L' := [(0, .ref (ρ 119)), (1, .int x27), (2, .int 0)]) h [1, 2, 0] rfl ?_
      refine Q_X12_game_117 hρ hn h hR  ?_ _ _ _ hD
      · intro x40 w41 hD
        unfold J_X12_game_x141_5 at hD
        refine g_iload_n h 2 t_X12_game_141 rfl ?_
        refine g_join (P := fun k43 => ∀ (w42 : Wd), k43 w42 = some rr → gG ρ cs G X 153 [(0, .ref (ρ 119)), (1, .int x27), (2, .int x40)] [] w42) hD ?_ (fun k43 hk43 hD => ?_)
        · intro w42 hD
          unfold J_X12_game_j153_4 at hD
          refine g_aload_n h 0 t_X12_game_153 rfl ?_
          refine g_iconst (v := 0) h t_X12_game_154 (by decide) ?_
          refine g_putI h 119 6 fl_12_112 fp_12_6 rfl (by decide) rfl t_X12_game_155 hD (fun w44 hD => ?_)
          refine g_aload_n h 0 t_X12_game_158 rfl ?_
          refine g_iload_n h 2 t_X12_game_159 rfl ?_
          refine g_iload_n h 1 t_X12_game_160 rfl ?_
          refine g_join (P := fun k47 => ∀ (x45 : Int64) (w46 : Wd), k47 x45 w46 = some rr → gG ρ cs G X 169 [(0, .ref (ρ 119)), (2, .int x40)] [.long x45, .ref (ρ 119)] w46) hD ?_ (fun k47 hk47 hD => ?_)
          · intro x45 w46 hD
            unfold J_X12_game_j169_3 at hD
            refine g_callVV h 119 (As := [.long x45]) (st := []) my_X12_tell mi_X12_tell ml_12_260 rfl (by decide) rfl rfl rfl (Nat.le_of_ble_eq_true rfl) (by decide) t_X12_game_169 hD (fun _ e => S_X12_tell hρ  e) (fun w48 hD => ?_)
            refine g_aload_n h 0 t_X12_game_172 rfl ?_
            refine g_aload_n h 0 t_X12_game_173 rfl ?_
            refine g_getR h 119 0 120 fl_12_9 rfl (by decide) rfl t_X12_game_174 ?_
            refine g_bipush (v := 14) h t_X12_game_177 (by decide) ?_
            refine g_iald h 120 rfl (by decide) t_X12_game_179 hD (fun hD => ?_)
            refine g_i2l h t_X12_game_180 ?_
            refine g_callVV h 119 (As := [.long ((w48.1 120 (14 : Int32).toNatClampNeg).toInt64)]) (st := []) my_X12_tell mi_X12_tell ml_12_260 rfl (by decide) rfl rfl rfl (Nat.le_of_ble_eq_true rfl) (by decide) t_X12_game_181 hD (fun _ e => S_X12_tell hρ  e) (fun w49 hD => ?_)
            refine g_iload_n h 1 t_X12_game_184 rfl ?_
            obtain rfl := Option.some.inj hD
            exact hR _ _ t_X12_game_185 rfl
          · refine g_icmp_ge (tgt := 168) h t_X12_game_161 (by decide) hD (fun hD => ?_) (fun hD => ?_)
            · refine g_lconst (v := 0) h t_X12_game_168 (by decide) ?_
              refine g_loc (L' := [(0, .ref (ρ 119)), (2, .int x40)]) h [0, 2] rfl ?_
              exact hk47 (0 : Int64) _ hD
            · refine g_lconst (v := 1) h t_X12_game_164 (by decide) ?_
              refine g_goto (tgt := 169) h t_X12_game_165 (by decide) ?_
              refine g_loc (L' := [(0, .ref (ρ 119)), (2, .int x40)]) h [0, 2] rfl ?_
              exact hk47 (1 : Int64) _ hD
        · refine g_if_le (tgt := 153) h t_X12_game_142 (by decide) hD (fun hD => ?_) (fun hD => ?_)
          · refine g_loc (L' := [(0, .ref (ρ 119)), (1, .int x27), (2, .int x40)]) h [0, 1, 2] rfl ?_
            exact hk43 _ hD
          · refine g_aload_n h 0 t_X12_game_145 rfl ?_
            refine g_aload_n h 0 t_X12_game_146 rfl ?_
            refine g_getR h 119 24 128 fl_12_43 rfl (by decide) rfl t_X12_game_147 ?_
            refine g_callVV h 119 (As := [.ref (ρ 128)]) (st := []) my_X12_remember mi_X12_remember ml_12_268 rfl (by decide) rfl rfl rfl (Nat.le_of_ble_eq_true rfl) (by decide) t_X12_game_150 hD (fun _ e => S_X12_remember hρ (by decide) e) (fun w50 hD => ?_)
            refine g_loc (L' := [(0, .ref (ρ 119)), (1, .int x27), (2, .int x40)]) h [0, 1, 2] rfl ?_
            exact hk43 _ hD
    · refine g_iconst (v := (-1)) h t_X12_game_96 (by decide) ?_
      refine g_aload_n h 0 t_X12_game_97 rfl ?_
      refine g_getI h 119 12 fl_12_134 rfl (by decide) rfl t_X12_game_98 ?_
      refine g_isub h t_X12_game_101 ?_
      obtain rfl := Option.some.inj hD
      exact hR _ _ t_X12_game_102 rfl
