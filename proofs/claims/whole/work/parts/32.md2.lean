def y_X12_undo : MethodName := ⟨"SowingBoardsModel", "undo", "()I"⟩
theorem t_X12_undo_0 : decode prog_14_method_53_code 0 = .ok (.aload_n 0, 1) := by decide +kernel
theorem t_X12_undo_1 : decode prog_14_method_53_code 1 = .ok (.iconst 0, 1) := by decide +kernel
theorem t_X12_undo_2 : decode prog_14_method_53_code 2 = .ok (.putfield 109, 3) := by decide +kernel
theorem t_X12_undo_5 : decode prog_14_method_53_code 5 = .ok (.aload_n 0, 1) := by decide +kernel
theorem t_X12_undo_6 : decode prog_14_method_53_code 6 = .ok (.getfield 167, 3) := by decide +kernel
theorem t_X12_undo_9 : decode prog_14_method_53_code 9 = .ok (.ifCond .ne 5, 3) := by decide +kernel
theorem t_X12_undo_12 : decode prog_14_method_53_code 12 = .ok (.iconst (-1), 1) := by decide +kernel
theorem t_X12_undo_13 : decode prog_14_method_53_code 13 = .ok (.ireturn, 1) := by decide +kernel
theorem t_X12_undo_14 : decode prog_14_method_53_code 14 = .ok (.aload_n 0, 1) := by decide +kernel
theorem t_X12_undo_15 : decode prog_14_method_53_code 15 = .ok (.dup, 1) := by decide +kernel
theorem t_X12_undo_16 : decode prog_14_method_53_code 16 = .ok (.getfield 167, 3) := by decide +kernel
theorem t_X12_undo_19 : decode prog_14_method_53_code 19 = .ok (.iconst 1, 1) := by decide +kernel
theorem t_X12_undo_20 : decode prog_14_method_53_code 20 = .ok (.isub, 1) := by decide +kernel
theorem t_X12_undo_21 : decode prog_14_method_53_code 21 = .ok (.putfield 167, 3) := by decide +kernel
theorem t_X12_undo_24 : decode prog_14_method_53_code 24 = .ok (.iconst 0, 1) := by decide +kernel
theorem t_X12_undo_25 : decode prog_14_method_53_code 25 = .ok (.istore_n 1, 1) := by decide +kernel
theorem t_X12_undo_26 : decode prog_14_method_53_code 26 = .ok (.iload_n 1, 1) := by decide +kernel
theorem t_X12_undo_27 : decode prog_14_method_53_code 27 = .ok (.bipush 16, 2) := by decide +kernel
theorem t_X12_undo_29 : decode prog_14_method_53_code 29 = .ok (.if_icmp .ge 29, 3) := by decide +kernel
theorem t_X12_undo_32 : decode prog_14_method_53_code 32 = .ok (.aload_n 0, 1) := by decide +kernel
theorem t_X12_undo_33 : decode prog_14_method_53_code 33 = .ok (.getfield 9, 3) := by decide +kernel
theorem t_X12_undo_36 : decode prog_14_method_53_code 36 = .ok (.iload_n 1, 1) := by decide +kernel
theorem t_X12_undo_37 : decode prog_14_method_53_code 37 = .ok (.aload_n 0, 1) := by decide +kernel
theorem t_X12_undo_38 : decode prog_14_method_53_code 38 = .ok (.getfield 40, 3) := by decide +kernel
theorem t_X12_undo_41 : decode prog_14_method_53_code 41 = .ok (.bipush 16, 2) := by decide +kernel
theorem t_X12_undo_43 : decode prog_14_method_53_code 43 = .ok (.aload_n 0, 1) := by decide +kernel
theorem t_X12_undo_44 : decode prog_14_method_53_code 44 = .ok (.getfield 167, 3) := by decide +kernel
theorem t_X12_undo_47 : decode prog_14_method_53_code 47 = .ok (.imul, 1) := by decide +kernel
theorem t_X12_undo_48 : decode prog_14_method_53_code 48 = .ok (.iload_n 1, 1) := by decide +kernel
theorem t_X12_undo_49 : decode prog_14_method_53_code 49 = .ok (.iadd, 1) := by decide +kernel
theorem t_X12_undo_50 : decode prog_14_method_53_code 50 = .ok (.iaload, 1) := by decide +kernel
theorem t_X12_undo_51 : decode prog_14_method_53_code 51 = .ok (.iastore, 1) := by decide +kernel
theorem t_X12_undo_52 : decode prog_14_method_53_code 52 = .ok (.iinc 1 1, 3) := by decide +kernel
theorem t_X12_undo_55 : decode prog_14_method_53_code 55 = .ok (.goto (-29), 3) := by decide +kernel
theorem t_X12_undo_58 : decode prog_14_method_53_code 58 = .ok (.aload_n 0, 1) := by decide +kernel
theorem t_X12_undo_59 : decode prog_14_method_53_code 59 = .ok (.getfield 167, 3) := by decide +kernel
theorem t_X12_undo_62 : decode prog_14_method_53_code 62 = .ok (.ireturn, 1) := by decide +kernel
def y_X12_would : MethodName := ⟨"SowingBoardsModel", "would", "(I)I"⟩
theorem t_X12_would_0 : decode prog_14_method_54_code 0 = .ok (.aload_n 0, 1) := by decide +kernel
theorem t_X12_would_1 : decode prog_14_method_54_code 1 = .ok (.iconst 0, 1) := by decide +kernel
theorem t_X12_would_2 : decode prog_14_method_54_code 2 = .ok (.putfield 109, 3) := by decide +kernel
theorem t_X12_would_5 : decode prog_14_method_54_code 5 = .ok (.aload_n 0, 1) := by decide +kernel
theorem t_X12_would_6 : decode prog_14_method_54_code 6 = .ok (.aload_n 0, 1) := by decide +kernel
theorem t_X12_would_7 : decode prog_14_method_54_code 7 = .ok (.getfield 9, 3) := by decide +kernel
theorem t_X12_would_10 : decode prog_14_method_54_code 10 = .ok (.iload_n 1, 1) := by decide +kernel
theorem t_X12_would_11 : decode prog_14_method_54_code 11 = .ok (.invokevirtual 264, 3) := by decide +kernel
theorem t_X12_would_14 : decode prog_14_method_54_code 14 = .ok (.istore_n 2, 1) := by decide +kernel
theorem t_X12_would_15 : decode prog_14_method_54_code 15 = .ok (.iload_n 2, 1) := by decide +kernel
theorem t_X12_would_16 : decode prog_14_method_54_code 16 = .ok (.ifCond .ge 5, 3) := by decide +kernel
theorem t_X12_would_19 : decode prog_14_method_54_code 19 = .ok (.iload_n 2, 1) := by decide +kernel
theorem t_X12_would_20 : decode prog_14_method_54_code 20 = .ok (.ireturn, 1) := by decide +kernel
theorem t_X12_would_21 : decode prog_14_method_54_code 21 = .ok (.aload_n 0, 1) := by decide +kernel
theorem t_X12_would_22 : decode prog_14_method_54_code 22 = .ok (.getfield 9, 3) := by decide +kernel
theorem t_X12_would_25 : decode prog_14_method_54_code 25 = .ok (.aload_n 0, 1) := by decide +kernel
theorem t_X12_would_26 : decode prog_14_method_54_code 26 = .ok (.getfield 46, 3) := by decide +kernel
theorem t_X12_would_29 : decode prog_14_method_54_code 29 = .ok (.iconst 0, 1) := by decide +kernel
theorem t_X12_would_30 : decode prog_14_method_54_code 30 = .ok (.invokestatic 256, 3) := by decide +kernel
theorem t_X12_would_33 : decode prog_14_method_54_code 33 = .ok (.aload_n 0, 1) := by decide +kernel
theorem t_X12_would_34 : decode prog_14_method_54_code 34 = .ok (.aload_n 0, 1) := by decide +kernel
theorem t_X12_would_35 : decode prog_14_method_54_code 35 = .ok (.getfield 46, 3) := by decide +kernel
theorem t_X12_would_38 : decode prog_14_method_54_code 38 = .ok (.iload_n 1, 1) := by decide +kernel
theorem t_X12_would_39 : decode prog_14_method_54_code 39 = .ok (.invokevirtual 272, 3) := by decide +kernel
theorem t_X12_would_42 : decode prog_14_method_54_code 42 = .ok (.aload_n 0, 1) := by decide +kernel
theorem t_X12_would_43 : decode prog_14_method_54_code 43 = .ok (.aload_n 0, 1) := by decide +kernel
theorem t_X12_would_44 : decode prog_14_method_54_code 44 = .ok (.getfield 46, 3) := by decide +kernel
theorem t_X12_would_47 : decode prog_14_method_54_code 47 = .ok (.invokevirtual 275, 3) := by decide +kernel
theorem t_X12_would_50 : decode prog_14_method_54_code 50 = .ok (.ireturn, 1) := by decide +kernel
def y_X12_worth : MethodName := ⟨"SowingBoardsModel", "worth", "(I)I"⟩
theorem t_X12_worth_0 : decode prog_14_method_55_code 0 = .ok (.aload_n 0, 1) := by decide +kernel
theorem t_X12_worth_1 : decode prog_14_method_55_code 1 = .ok (.iconst 0, 1) := by decide +kernel
theorem t_X12_worth_2 : decode prog_14_method_55_code 2 = .ok (.putfield 109, 3) := by decide +kernel
theorem t_X12_worth_5 : decode prog_14_method_55_code 5 = .ok (.aload_n 0, 1) := by decide +kernel
theorem t_X12_worth_6 : decode prog_14_method_55_code 6 = .ok (.aload_n 0, 1) := by decide +kernel
theorem t_X12_worth_7 : decode prog_14_method_55_code 7 = .ok (.getfield 9, 3) := by decide +kernel
theorem t_X12_worth_10 : decode prog_14_method_55_code 10 = .ok (.iload_n 1, 1) := by decide +kernel
theorem t_X12_worth_11 : decode prog_14_method_55_code 11 = .ok (.invokevirtual 264, 3) := by decide +kernel
theorem t_X12_worth_14 : decode prog_14_method_55_code 14 = .ok (.istore_n 2, 1) := by decide +kernel
theorem t_X12_worth_15 : decode prog_14_method_55_code 15 = .ok (.iload_n 2, 1) := by decide +kernel
theorem t_X12_worth_16 : decode prog_14_method_55_code 16 = .ok (.ifCond .ge 5, 3) := by decide +kernel
theorem t_X12_worth_19 : decode prog_14_method_55_code 19 = .ok (.iload_n 2, 1) := by decide +kernel
theorem t_X12_worth_20 : decode prog_14_method_55_code 20 = .ok (.ireturn, 1) := by decide +kernel
theorem t_X12_worth_21 : decode prog_14_method_55_code 21 = .ok (.aload_n 0, 1) := by decide +kernel
theorem t_X12_worth_22 : decode prog_14_method_55_code 22 = .ok (.aload_n 0, 1) := by decide +kernel
theorem t_X12_worth_23 : decode prog_14_method_55_code 23 = .ok (.getfield 9, 3) := by decide +kernel
theorem t_X12_worth_26 : decode prog_14_method_55_code 26 = .ok (.iload_n 1, 1) := by decide +kernel
theorem t_X12_worth_27 : decode prog_14_method_55_code 27 = .ok (.invokevirtual 279, 3) := by decide +kernel
theorem t_X12_worth_30 : decode prog_14_method_55_code 30 = .ok (.istore_n 3, 1) := by decide +kernel
theorem t_X12_worth_31 : decode prog_14_method_55_code 31 = .ok (.aload_n 0, 1) := by decide +kernel
theorem t_X12_worth_32 : decode prog_14_method_55_code 32 = .ok (.iconst 0, 1) := by decide +kernel
theorem t_X12_worth_33 : decode prog_14_method_55_code 33 = .ok (.putfield 112, 3) := by decide +kernel
theorem t_X12_worth_36 : decode prog_14_method_55_code 36 = .ok (.aload_n 0, 1) := by decide +kernel
theorem t_X12_worth_37 : decode prog_14_method_55_code 37 = .ok (.iload_n 3, 1) := by decide +kernel
theorem t_X12_worth_38 : decode prog_14_method_55_code 38 = .ok (.i2l, 1) := by decide +kernel
theorem t_X12_worth_39 : decode prog_14_method_55_code 39 = .ok (.invokevirtual 260, 3) := by decide +kernel
theorem t_X12_worth_42 : decode prog_14_method_55_code 42 = .ok (.iconst 0, 1) := by decide +kernel
theorem t_X12_worth_43 : decode prog_14_method_55_code 43 = .ok (.ireturn, 1) := by decide +kernel
def y_X12_best : MethodName := ⟨"SowingBoardsModel", "best", "()I"⟩
theorem t_X12_best_0 : decode prog_14_method_56_code 0 = .ok (.aload_n 0, 1) := by decide +kernel
theorem t_X12_best_1 : decode prog_14_method_56_code 1 = .ok (.iconst 0, 1) := by decide +kernel
theorem t_X12_best_2 : decode prog_14_method_56_code 2 = .ok (.putfield 109, 3) := by decide +kernel
theorem t_X12_best_5 : decode prog_14_method_56_code 5 = .ok (.aload_n 0, 1) := by decide +kernel
theorem t_X12_best_6 : decode prog_14_method_56_code 6 = .ok (.aload_n 0, 1) := by decide +kernel
theorem t_X12_best_7 : decode prog_14_method_56_code 7 = .ok (.getfield 9, 3) := by decide +kernel
theorem t_X12_best_10 : decode prog_14_method_56_code 10 = .ok (.invokevirtual 282, 3) := by decide +kernel
theorem t_X12_best_13 : decode prog_14_method_56_code 13 = .ok (.ifCond .eq 6, 3) := by decide +kernel
theorem t_X12_best_16 : decode prog_14_method_56_code 16 = .ok (.bipush (-2), 2) := by decide +kernel
theorem t_X12_best_18 : decode prog_14_method_56_code 18 = .ok (.ireturn, 1) := by decide +kernel
theorem t_X12_best_19 : decode prog_14_method_56_code 19 = .ok (.aload_n 0, 1) := by decide +kernel
theorem t_X12_best_20 : decode prog_14_method_56_code 20 = .ok (.aload_n 0, 1) := by decide +kernel
theorem t_X12_best_21 : decode prog_14_method_56_code 21 = .ok (.getfield 9, 3) := by decide +kernel
theorem t_X12_best_24 : decode prog_14_method_56_code 24 = .ok (.invokevirtual 286, 3) := by decide +kernel
theorem t_X12_best_27 : decode prog_14_method_56_code 27 = .ok (.istore_n 1, 1) := by decide +kernel
theorem t_X12_best_28 : decode prog_14_method_56_code 28 = .ok (.aload_n 0, 1) := by decide +kernel
theorem t_X12_best_29 : decode prog_14_method_56_code 29 = .ok (.iconst 0, 1) := by decide +kernel
theorem t_X12_best_30 : decode prog_14_method_56_code 30 = .ok (.putfield 112, 3) := by decide +kernel
theorem t_X12_best_33 : decode prog_14_method_56_code 33 = .ok (.aload_n 0, 1) := by decide +kernel
theorem t_X12_best_34 : decode prog_14_method_56_code 34 = .ok (.aload_n 0, 1) := by decide +kernel
theorem t_X12_best_35 : decode prog_14_method_56_code 35 = .ok (.aload_n 0, 1) := by decide +kernel
theorem t_X12_best_36 : decode prog_14_method_56_code 36 = .ok (.getfield 9, 3) := by decide +kernel
theorem t_X12_best_39 : decode prog_14_method_56_code 39 = .ok (.iload_n 1, 1) := by decide +kernel
theorem t_X12_best_40 : decode prog_14_method_56_code 40 = .ok (.invokevirtual 279, 3) := by decide +kernel
theorem t_X12_best_43 : decode prog_14_method_56_code 43 = .ok (.i2l, 1) := by decide +kernel
theorem t_X12_best_44 : decode prog_14_method_56_code 44 = .ok (.invokevirtual 260, 3) := by decide +kernel
theorem t_X12_best_47 : decode prog_14_method_56_code 47 = .ok (.iload_n 1, 1) := by decide +kernel
theorem t_X12_best_48 : decode prog_14_method_56_code 48 = .ok (.ireturn, 1) := by decide +kernel
def y_X12_mostOf : MethodName := ⟨"SowingBoardsModel", "mostOf", "([I)I"⟩
theorem t_X12_mostOf_0 : decode prog_14_method_57_code 0 = .ok (.iconst (-1), 1) := by decide +kernel
theorem t_X12_mostOf_1 : decode prog_14_method_57_code 1 = .ok (.istore_n 2, 1) := by decide +kernel
theorem t_X12_mostOf_2 : decode prog_14_method_57_code 2 = .ok (.aload_n 0, 1) := by decide +kernel
theorem t_X12_mostOf_3 : decode prog_14_method_57_code 3 = .ok (.iconst (-1), 1) := by decide +kernel
theorem t_X12_mostOf_4 : decode prog_14_method_57_code 4 = .ok (.putfield 296, 3) := by decide +kernel
theorem t_X12_mostOf_7 : decode prog_14_method_57_code 7 = .ok (.iconst 0, 1) := by decide +kernel
theorem t_X12_mostOf_8 : decode prog_14_method_57_code 8 = .ok (.istore_n 3, 1) := by decide +kernel
theorem t_X12_mostOf_9 : decode prog_14_method_57_code 9 = .ok (.iload_n 3, 1) := by decide +kernel
theorem t_X12_mostOf_10 : decode prog_14_method_57_code 10 = .ok (.aload_n 0, 1) := by decide +kernel
theorem t_X12_mostOf_11 : decode prog_14_method_57_code 11 = .ok (.getfield 13, 3) := by decide +kernel
theorem t_X12_mostOf_14 : decode prog_14_method_57_code 14 = .ok (.if_icmp .ge 60, 3) := by decide +kernel
theorem t_X12_mostOf_17 : decode prog_14_method_57_code 17 = .ok (.aload_n 0, 1) := by decide +kernel
theorem t_X12_mostOf_18 : decode prog_14_method_57_code 18 = .ok (.aload_n 1, 1) := by decide +kernel
theorem t_X12_mostOf_19 : decode prog_14_method_57_code 19 = .ok (.iload_n 3, 1) := by decide +kernel
theorem t_X12_mostOf_20 : decode prog_14_method_57_code 20 = .ok (.invokevirtual 264, 3) := by decide +kernel
theorem t_X12_mostOf_23 : decode prog_14_method_57_code 23 = .ok (.ifCond .ge 6, 3) := by decide +kernel
theorem t_X12_mostOf_26 : decode prog_14_method_57_code 26 = .ok (.goto 42, 3) := by decide +kernel
theorem t_X12_mostOf_29 : decode prog_14_method_57_code 29 = .ok (.aload_n 1, 1) := by decide +kernel
theorem t_X12_mostOf_30 : decode prog_14_method_57_code 30 = .ok (.aload_n 0, 1) := by decide +kernel
theorem t_X12_mostOf_31 : decode prog_14_method_57_code 31 = .ok (.getfield 49, 3) := by decide +kernel
theorem t_X12_mostOf_34 : decode prog_14_method_57_code 34 = .ok (.iconst 0, 1) := by decide +kernel
theorem t_X12_mostOf_35 : decode prog_14_method_57_code 35 = .ok (.invokestatic 256, 3) := by decide +kernel
theorem t_X12_mostOf_38 : decode prog_14_method_57_code 38 = .ok (.aload_n 0, 1) := by decide +kernel
theorem t_X12_mostOf_39 : decode prog_14_method_57_code 39 = .ok (.aload_n 0, 1) := by decide +kernel
theorem t_X12_mostOf_40 : decode prog_14_method_57_code 40 = .ok (.getfield 49, 3) := by decide +kernel
theorem t_X12_mostOf_43 : decode prog_14_method_57_code 43 = .ok (.iload_n 3, 1) := by decide +kernel
theorem t_X12_mostOf_44 : decode prog_14_method_57_code 44 = .ok (.invokevirtual 272, 3) := by decide +kernel
theorem t_X12_mostOf_47 : decode prog_14_method_57_code 47 = .ok (.aload_n 0, 1) := by decide +kernel
theorem t_X12_mostOf_48 : decode prog_14_method_57_code 48 = .ok (.getfield 253, 3) := by decide +kernel
theorem t_X12_mostOf_51 : decode prog_14_method_57_code 51 = .ok (.iload_n 2, 1) := by decide +kernel
theorem t_X12_mostOf_52 : decode prog_14_method_57_code 52 = .ok (.if_icmp .gt 6, 3) := by decide +kernel
theorem t_X12_mostOf_55 : decode prog_14_method_57_code 55 = .ok (.goto 13, 3) := by decide +kernel
theorem t_X12_mostOf_58 : decode prog_14_method_57_code 58 = .ok (.aload_n 0, 1) := by decide +kernel
theorem t_X12_mostOf_59 : decode prog_14_method_57_code 59 = .ok (.getfield 253, 3) := by decide +kernel
theorem t_X12_mostOf_62 : decode prog_14_method_57_code 62 = .ok (.istore_n 2, 1) := by decide +kernel
theorem t_X12_mostOf_63 : decode prog_14_method_57_code 63 = .ok (.aload_n 0, 1) := by decide +kernel
theorem t_X12_mostOf_64 : decode prog_14_method_57_code 64 = .ok (.iload_n 3, 1) := by decide +kernel
theorem t_X12_mostOf_65 : decode prog_14_method_57_code 65 = .ok (.putfield 296, 3) := by decide +kernel
theorem t_X12_mostOf_68 : decode prog_14_method_57_code 68 = .ok (.iinc 3 1, 3) := by decide +kernel
theorem t_X12_mostOf_71 : decode prog_14_method_57_code 71 = .ok (.goto (-62), 3) := by decide +kernel
theorem t_X12_mostOf_74 : decode prog_14_method_57_code 74 = .ok (.iconst 0, 1) := by decide +kernel
theorem t_X12_mostOf_75 : decode prog_14_method_57_code 75 = .ok (.iload_n 2, 1) := by decide +kernel
theorem t_X12_mostOf_76 : decode prog_14_method_57_code 76 = .ok (.invokestatic 226, 3) := by decide +kernel
theorem t_X12_mostOf_79 : decode prog_14_method_57_code 79 = .ok (.ireturn, 1) := by decide +kernel
def y_X12_most : MethodName := ⟨"SowingBoardsModel", "most", "()I"⟩
theorem t_X12_most_0 : decode prog_14_method_58_code 0 = .ok (.aload_n 0, 1) := by decide +kernel
theorem t_X12_most_1 : decode prog_14_method_58_code 1 = .ok (.iconst 0, 1) := by decide +kernel
theorem t_X12_most_2 : decode prog_14_method_58_code 2 = .ok (.putfield 109, 3) := by decide +kernel
theorem t_X12_most_5 : decode prog_14_method_58_code 5 = .ok (.aload_n 0, 1) := by decide +kernel
theorem t_X12_most_6 : decode prog_14_method_58_code 6 = .ok (.aload_n 0, 1) := by decide +kernel
theorem t_X12_most_7 : decode prog_14_method_58_code 7 = .ok (.getfield 9, 3) := by decide +kernel
theorem t_X12_most_10 : decode prog_14_method_58_code 10 = .ok (.invokevirtual 282, 3) := by decide +kernel
theorem t_X12_most_13 : decode prog_14_method_58_code 13 = .ok (.ifCond .eq 6, 3) := by decide +kernel
theorem t_X12_most_16 : decode prog_14_method_58_code 16 = .ok (.bipush (-2), 2) := by decide +kernel
theorem t_X12_most_18 : decode prog_14_method_58_code 18 = .ok (.ireturn, 1) := by decide +kernel
theorem t_X12_most_19 : decode prog_14_method_58_code 19 = .ok (.aload_n 0, 1) := by decide +kernel
theorem t_X12_most_20 : decode prog_14_method_58_code 20 = .ok (.aload_n 0, 1) := by decide +kernel
theorem t_X12_most_21 : decode prog_14_method_58_code 21 = .ok (.getfield 9, 3) := by decide +kernel
theorem t_X12_most_24 : decode prog_14_method_58_code 24 = .ok (.invokevirtual 299, 3) := by decide +kernel
theorem t_X12_most_27 : decode prog_14_method_58_code 27 = .ok (.istore_n 1, 1) := by decide +kernel
theorem t_X12_most_28 : decode prog_14_method_58_code 28 = .ok (.aload_n 0, 1) := by decide +kernel
theorem t_X12_most_29 : decode prog_14_method_58_code 29 = .ok (.iconst 0, 1) := by decide +kernel
theorem t_X12_most_30 : decode prog_14_method_58_code 30 = .ok (.putfield 112, 3) := by decide +kernel
theorem t_X12_most_33 : decode prog_14_method_58_code 33 = .ok (.aload_n 0, 1) := by decide +kernel
theorem t_X12_most_34 : decode prog_14_method_58_code 34 = .ok (.aload_n 0, 1) := by decide +kernel
theorem t_X12_most_35 : decode prog_14_method_58_code 35 = .ok (.getfield 296, 3) := by decide +kernel
theorem t_X12_most_38 : decode prog_14_method_58_code 38 = .ok (.i2l, 1) := by decide +kernel
theorem t_X12_most_39 : decode prog_14_method_58_code 39 = .ok (.invokevirtual 260, 3) := by decide +kernel
theorem t_X12_most_42 : decode prog_14_method_58_code 42 = .ok (.iload_n 1, 1) := by decide +kernel
theorem t_X12_most_43 : decode prog_14_method_58_code 43 = .ok (.ireturn, 1) := by decide +kernel
def y_X12_goChain : MethodName := ⟨"SowingBoardsModel", "goChain", "(IIIZ)V"⟩
theorem t_X12_goChain_0 : decode prog_14_method_59_code 0 = .ok (.iload_n 2, 1) := by decide +kernel
theorem t_X12_goChain_1 : decode prog_14_method_59_code 1 = .ok (.ifCond .le 66, 3) := by decide +kernel
theorem t_X12_goChain_4 : decode prog_14_method_59_code 4 = .ok (.iload 4, 2) := by decide +kernel
theorem t_X12_goChain_6 : decode prog_14_method_59_code 6 = .ok (.ifCond .eq 14, 3) := by decide +kernel
theorem t_X12_goChain_9 : decode prog_14_method_59_code 9 = .ok (.iload_n 2, 1) := by decide +kernel
theorem t_X12_goChain_10 : decode prog_14_method_59_code 10 = .ok (.aload_n 0, 1) := by decide +kernel
theorem t_X12_goChain_11 : decode prog_14_method_59_code 11 = .ok (.getfield 302, 3) := by decide +kernel
theorem t_X12_goChain_14 : decode prog_14_method_59_code 14 = .ok (.if_icmp .le 53, 3) := by decide +kernel
theorem t_X12_goChain_17 : decode prog_14_method_59_code 17 = .ok (.goto 11, 3) := by decide +kernel
theorem t_X12_goChain_20 : decode prog_14_method_59_code 20 = .ok (.iload_n 3, 1) := by decide +kernel
theorem t_X12_goChain_21 : decode prog_14_method_59_code 21 = .ok (.aload_n 0, 1) := by decide +kernel
theorem t_X12_goChain_22 : decode prog_14_method_59_code 22 = .ok (.getfield 305, 3) := by decide +kernel
theorem t_X12_goChain_25 : decode prog_14_method_59_code 25 = .ok (.if_icmp .le 42, 3) := by decide +kernel
theorem t_X12_goChain_28 : decode prog_14_method_59_code 28 = .ok (.aload_n 0, 1) := by decide +kernel
theorem t_X12_goChain_29 : decode prog_14_method_59_code 29 = .ok (.iload_n 2, 1) := by decide +kernel
theorem t_X12_goChain_30 : decode prog_14_method_59_code 30 = .ok (.putfield 302, 3) := by decide +kernel
theorem t_X12_goChain_33 : decode prog_14_method_59_code 33 = .ok (.aload_n 0, 1) := by decide +kernel
theorem t_X12_goChain_34 : decode prog_14_method_59_code 34 = .ok (.iload_n 3, 1) := by decide +kernel
theorem t_X12_goChain_35 : decode prog_14_method_59_code 35 = .ok (.putfield 305, 3) := by decide +kernel
theorem t_X12_goChain_38 : decode prog_14_method_59_code 38 = .ok (.iconst 0, 1) := by decide +kernel
theorem t_X12_goChain_39 : decode prog_14_method_59_code 39 = .ok (.istore 5, 2) := by decide +kernel
theorem t_X12_goChain_41 : decode prog_14_method_59_code 41 = .ok (.iload 5, 2) := by decide +kernel
theorem t_X12_goChain_43 : decode prog_14_method_59_code 43 = .ok (.iload_n 2, 1) := by decide +kernel
theorem t_X12_goChain_44 : decode prog_14_method_59_code 44 = .ok (.if_icmp .ge 23, 3) := by decide +kernel
theorem t_X12_goChain_47 : decode prog_14_method_59_code 47 = .ok (.aload_n 0, 1) := by decide +kernel
theorem t_X12_goChain_48 : decode prog_14_method_59_code 48 = .ok (.getfield 63, 3) := by decide +kernel
theorem t_X12_goChain_51 : decode prog_14_method_59_code 51 = .ok (.iload 5, 2) := by decide +kernel
theorem t_X12_goChain_53 : decode prog_14_method_59_code 53 = .ok (.aload_n 0, 1) := by decide +kernel
theorem t_X12_goChain_54 : decode prog_14_method_59_code 54 = .ok (.getfield 60, 3) := by decide +kernel
theorem t_X12_goChain_57 : decode prog_14_method_59_code 57 = .ok (.iload 5, 2) := by decide +kernel
theorem t_X12_goChain_59 : decode prog_14_method_59_code 59 = .ok (.iaload, 1) := by decide +kernel
theorem t_X12_goChain_60 : decode prog_14_method_59_code 60 = .ok (.iastore, 1) := by decide +kernel
theorem t_X12_goChain_61 : decode prog_14_method_59_code 61 = .ok (.iinc 5 1, 3) := by decide +kernel
theorem t_X12_goChain_64 : decode prog_14_method_59_code 64 = .ok (.goto (-23), 3) := by decide +kernel
theorem t_X12_goChain_67 : decode prog_14_method_59_code 67 = .ok (.iload_n 2, 1) := by decide +kernel
theorem t_X12_goChain_68 : decode prog_14_method_59_code 68 = .ok (.bipush 6, 2) := by decide +kernel
theorem t_X12_goChain_70 : decode prog_14_method_59_code 70 = .ok (.if_icmp .eq 16, 3) := by decide +kernel
theorem t_X12_goChain_73 : decode prog_14_method_59_code 73 = .ok (.aload_n 0, 1) := by decide +kernel
theorem t_X12_goChain_74 : decode prog_14_method_59_code 74 = .ok (.getfield 57, 3) := by decide +kernel
theorem t_X12_goChain_77 : decode prog_14_method_59_code 77 = .ok (.iload_n 2, 1) := by decide +kernel
theorem t_X12_goChain_78 : decode prog_14_method_59_code 78 = .ok (.aaload, 1) := by decide +kernel
theorem t_X12_goChain_79 : decode prog_14_method_59_code 79 = .ok (.bipush 14, 2) := by decide +kernel
theorem t_X12_goChain_81 : decode prog_14_method_59_code 81 = .ok (.iaload, 1) := by decide +kernel
theorem t_X12_goChain_82 : decode prog_14_method_59_code 82 = .ok (.iload_n 1, 1) := by decide +kernel
theorem t_X12_goChain_83 : decode prog_14_method_59_code 83 = .ok (.if_icmp .eq 4, 3) := by decide +kernel
theorem t_X12_goChain_86 : decode prog_14_method_59_code 86 = .ok (.return_, 1) := by decide +kernel
theorem t_X12_goChain_87 : decode prog_14_method_59_code 87 = .ok (.iconst 0, 1) := by decide +kernel
theorem t_X12_goChain_88 : decode prog_14_method_59_code 88 = .ok (.istore 5, 2) := by decide +kernel
theorem t_X12_goChain_90 : decode prog_14_method_59_code 90 = .ok (.iload 5, 2) := by decide +kernel
theorem t_X12_goChain_92 : decode prog_14_method_59_code 92 = .ok (.aload_n 0, 1) := by decide +kernel
theorem t_X12_goChain_93 : decode prog_14_method_59_code 93 = .ok (.getfield 13, 3) := by decide +kernel
theorem t_X12_goChain_96 : decode prog_14_method_59_code 96 = .ok (.if_icmp .ge 87, 3) := by decide +kernel
theorem t_X12_goChain_99 : decode prog_14_method_59_code 99 = .ok (.aload_n 0, 1) := by decide +kernel
theorem t_X12_goChain_100 : decode prog_14_method_59_code 100 = .ok (.aload_n 0, 1) := by decide +kernel
theorem t_X12_goChain_101 : decode prog_14_method_59_code 101 = .ok (.getfield 57, 3) := by decide +kernel
theorem t_X12_goChain_104 : decode prog_14_method_59_code 104 = .ok (.iload_n 2, 1) := by decide +kernel
theorem t_X12_goChain_105 : decode prog_14_method_59_code 105 = .ok (.aaload, 1) := by decide +kernel
theorem t_X12_goChain_106 : decode prog_14_method_59_code 106 = .ok (.iload 5, 2) := by decide +kernel
theorem t_X12_goChain_108 : decode prog_14_method_59_code 108 = .ok (.invokevirtual 264, 3) := by decide +kernel
theorem t_X12_goChain_111 : decode prog_14_method_59_code 111 = .ok (.ifCond .ge 6, 3) := by decide +kernel
theorem t_X12_goChain_114 : decode prog_14_method_59_code 114 = .ok (.goto 63, 3) := by decide +kernel
theorem t_X12_goChain_117 : decode prog_14_method_59_code 117 = .ok (.aload_n 0, 1) := by decide +kernel
theorem t_X12_goChain_118 : decode prog_14_method_59_code 118 = .ok (.getfield 57, 3) := by decide +kernel
theorem t_X12_goChain_121 : decode prog_14_method_59_code 121 = .ok (.iload_n 2, 1) := by decide +kernel
theorem t_X12_goChain_122 : decode prog_14_method_59_code 122 = .ok (.aaload, 1) := by decide +kernel
theorem t_X12_goChain_123 : decode prog_14_method_59_code 123 = .ok (.aload_n 0, 1) := by decide +kernel
theorem t_X12_goChain_124 : decode prog_14_method_59_code 124 = .ok (.getfield 57, 3) := by decide +kernel
theorem t_X12_goChain_127 : decode prog_14_method_59_code 127 = .ok (.iload_n 2, 1) := by decide +kernel
theorem t_X12_goChain_128 : decode prog_14_method_59_code 128 = .ok (.iconst 1, 1) := by decide +kernel
theorem t_X12_goChain_129 : decode prog_14_method_59_code 129 = .ok (.iadd, 1) := by decide +kernel
theorem t_X12_goChain_130 : decode prog_14_method_59_code 130 = .ok (.aaload, 1) := by decide +kernel
theorem t_X12_goChain_131 : decode prog_14_method_59_code 131 = .ok (.iconst 0, 1) := by decide +kernel
theorem t_X12_goChain_132 : decode prog_14_method_59_code 132 = .ok (.invokestatic 256, 3) := by decide +kernel
theorem t_X12_goChain_135 : decode prog_14_method_59_code 135 = .ok (.aload_n 0, 1) := by decide +kernel
theorem t_X12_goChain_136 : decode prog_14_method_59_code 136 = .ok (.aload_n 0, 1) := by decide +kernel
theorem t_X12_goChain_137 : decode prog_14_method_59_code 137 = .ok (.getfield 57, 3) := by decide +kernel
theorem t_X12_goChain_140 : decode prog_14_method_59_code 140 = .ok (.iload_n 2, 1) := by decide +kernel
theorem t_X12_goChain_141 : decode prog_14_method_59_code 141 = .ok (.iconst 1, 1) := by decide +kernel
theorem t_X12_goChain_142 : decode prog_14_method_59_code 142 = .ok (.iadd, 1) := by decide +kernel
theorem t_X12_goChain_143 : decode prog_14_method_59_code 143 = .ok (.aaload, 1) := by decide +kernel
theorem t_X12_goChain_144 : decode prog_14_method_59_code 144 = .ok (.iload 5, 2) := by decide +kernel
theorem t_X12_goChain_146 : decode prog_14_method_59_code 146 = .ok (.invokevirtual 272, 3) := by decide +kernel
theorem t_X12_goChain_149 : decode prog_14_method_59_code 149 = .ok (.aload_n 0, 1) := by decide +kernel
theorem t_X12_goChain_150 : decode prog_14_method_59_code 150 = .ok (.getfield 253, 3) := by decide +kernel
theorem t_X12_goChain_153 : decode prog_14_method_59_code 153 = .ok (.istore 6, 2) := by decide +kernel
theorem t_X12_goChain_155 : decode prog_14_method_59_code 155 = .ok (.aload_n 0, 1) := by decide +kernel
theorem t_X12_goChain_156 : decode prog_14_method_59_code 156 = .ok (.getfield 60, 3) := by decide +kernel
theorem t_X12_goChain_159 : decode prog_14_method_59_code 159 = .ok (.iload_n 2, 1) := by decide +kernel
theorem t_X12_goChain_160 : decode prog_14_method_59_code 160 = .ok (.iload 5, 2) := by decide +kernel
theorem t_X12_goChain_162 : decode prog_14_method_59_code 162 = .ok (.iastore, 1) := by decide +kernel
theorem t_X12_goChain_163 : decode prog_14_method_59_code 163 = .ok (.aload_n 0, 1) := by decide +kernel
theorem t_X12_goChain_164 : decode prog_14_method_59_code 164 = .ok (.iload_n 1, 1) := by decide +kernel
theorem t_X12_goChain_165 : decode prog_14_method_59_code 165 = .ok (.iload_n 2, 1) := by decide +kernel
theorem t_X12_goChain_166 : decode prog_14_method_59_code 166 = .ok (.iconst 1, 1) := by decide +kernel
theorem t_X12_goChain_167 : decode prog_14_method_59_code 167 = .ok (.iadd, 1) := by decide +kernel
theorem t_X12_goChain_168 : decode prog_14_method_59_code 168 = .ok (.iload_n 3, 1) := by decide +kernel
theorem t_X12_goChain_169 : decode prog_14_method_59_code 169 = .ok (.iload 6, 2) := by decide +kernel
theorem t_X12_goChain_171 : decode prog_14_method_59_code 171 = .ok (.iadd, 1) := by decide +kernel
theorem t_X12_goChain_172 : decode prog_14_method_59_code 172 = .ok (.iload 4, 2) := by decide +kernel
theorem t_X12_goChain_174 : decode prog_14_method_59_code 174 = .ok (.invokevirtual 308, 3) := by decide +kernel
theorem t_X12_goChain_177 : decode prog_14_method_59_code 177 = .ok (.iinc 5 1, 3) := by decide +kernel
theorem t_X12_goChain_180 : decode prog_14_method_59_code 180 = .ok (.goto (-90), 3) := by decide +kernel
theorem t_X12_goChain_183 : decode prog_14_method_59_code 183 = .ok (.return_, 1) := by decide +kernel
def y_X12_layChain : MethodName := ⟨"SowingBoardsModel", "layChain", "(Z)V"⟩
theorem t_X12_layChain_0 : decode prog_14_method_60_code 0 = .ok (.aload_n 0, 1) := by decide +kernel
theorem t_X12_layChain_1 : decode prog_14_method_60_code 1 = .ok (.iconst 0, 1) := by decide +kernel
theorem t_X12_layChain_2 : decode prog_14_method_60_code 2 = .ok (.putfield 302, 3) := by decide +kernel
theorem t_X12_layChain_5 : decode prog_14_method_60_code 5 = .ok (.aload_n 0, 1) := by decide +kernel
theorem t_X12_layChain_6 : decode prog_14_method_60_code 6 = .ok (.iconst (-1), 1) := by decide +kernel
theorem t_X12_layChain_7 : decode prog_14_method_60_code 7 = .ok (.putfield 305, 3) := by decide +kernel
theorem t_X12_layChain_10 : decode prog_14_method_60_code 10 = .ok (.aload_n 0, 1) := by decide +kernel
theorem t_X12_layChain_11 : decode prog_14_method_60_code 11 = .ok (.getfield 9, 3) := by decide +kernel
theorem t_X12_layChain_14 : decode prog_14_method_60_code 14 = .ok (.aload_n 0, 1) := by decide +kernel
theorem t_X12_layChain_15 : decode prog_14_method_60_code 15 = .ok (.getfield 57, 3) := by decide +kernel
theorem t_X12_layChain_18 : decode prog_14_method_60_code 18 = .ok (.iconst 0, 1) := by decide +kernel
theorem t_X12_layChain_19 : decode prog_14_method_60_code 19 = .ok (.aaload, 1) := by decide +kernel
theorem t_X12_layChain_20 : decode prog_14_method_60_code 20 = .ok (.iconst 0, 1) := by decide +kernel
theorem t_X12_layChain_21 : decode prog_14_method_60_code 21 = .ok (.invokestatic 256, 3) := by decide +kernel
theorem t_X12_layChain_24 : decode prog_14_method_60_code 24 = .ok (.aload_n 0, 1) := by decide +kernel
theorem t_X12_layChain_25 : decode prog_14_method_60_code 25 = .ok (.aload_n 0, 1) := by decide +kernel
theorem t_X12_layChain_26 : decode prog_14_method_60_code 26 = .ok (.getfield 9, 3) := by decide +kernel
theorem t_X12_layChain_29 : decode prog_14_method_60_code 29 = .ok (.bipush 14, 2) := by decide +kernel
theorem t_X12_layChain_31 : decode prog_14_method_60_code 31 = .ok (.iaload, 1) := by decide +kernel
theorem t_X12_layChain_32 : decode prog_14_method_60_code 32 = .ok (.iconst 0, 1) := by decide +kernel
theorem t_X12_layChain_33 : decode prog_14_method_60_code 33 = .ok (.iconst 0, 1) := by decide +kernel
theorem t_X12_layChain_34 : decode prog_14_method_60_code 34 = .ok (.iload_n 1, 1) := by decide +kernel
theorem t_X12_layChain_35 : decode prog_14_method_60_code 35 = .ok (.invokevirtual 308, 3) := by decide +kernel
theorem t_X12_layChain_38 : decode prog_14_method_60_code 38 = .ok (.aload_n 0, 1) := by decide +kernel
theorem t_X12_layChain_39 : decode prog_14_method_60_code 39 = .ok (.iconst 0, 1) := by decide +kernel
theorem t_X12_layChain_40 : decode prog_14_method_60_code 40 = .ok (.putfield 112, 3) := by decide +kernel
theorem t_X12_layChain_43 : decode prog_14_method_60_code 43 = .ok (.iconst 0, 1) := by decide +kernel
theorem t_X12_layChain_44 : decode prog_14_method_60_code 44 = .ok (.istore_n 2, 1) := by decide +kernel
theorem t_X12_layChain_45 : decode prog_14_method_60_code 45 = .ok (.iload_n 2, 1) := by decide +kernel
theorem t_X12_layChain_46 : decode prog_14_method_60_code 46 = .ok (.aload_n 0, 1) := by decide +kernel
theorem t_X12_layChain_47 : decode prog_14_method_60_code 47 = .ok (.getfield 302, 3) := by decide +kernel
theorem t_X12_layChain_50 : decode prog_14_method_60_code 50 = .ok (.if_icmp .ge 20, 3) := by decide +kernel
theorem t_X12_layChain_53 : decode prog_14_method_60_code 53 = .ok (.aload_n 0, 1) := by decide +kernel
theorem t_X12_layChain_54 : decode prog_14_method_60_code 54 = .ok (.aload_n 0, 1) := by decide +kernel
theorem t_X12_layChain_55 : decode prog_14_method_60_code 55 = .ok (.getfield 63, 3) := by decide +kernel
theorem t_X12_layChain_58 : decode prog_14_method_60_code 58 = .ok (.iload_n 2, 1) := by decide +kernel
theorem t_X12_layChain_59 : decode prog_14_method_60_code 59 = .ok (.iaload, 1) := by decide +kernel
theorem t_X12_layChain_60 : decode prog_14_method_60_code 60 = .ok (.i2l, 1) := by decide +kernel
theorem t_X12_layChain_61 : decode prog_14_method_60_code 61 = .ok (.invokevirtual 260, 3) := by decide +kernel
theorem t_X12_layChain_64 : decode prog_14_method_60_code 64 = .ok (.iinc 2 1, 3) := by decide +kernel
theorem t_X12_layChain_67 : decode prog_14_method_60_code 67 = .ok (.goto (-22), 3) := by decide +kernel
theorem t_X12_layChain_70 : decode prog_14_method_60_code 70 = .ok (.return_, 1) := by decide +kernel
def y_X12_chain : MethodName := ⟨"SowingBoardsModel", "chain", "()I"⟩
theorem t_X12_chain_0 : decode prog_14_method_61_code 0 = .ok (.aload_n 0, 1) := by decide +kernel
theorem t_X12_chain_1 : decode prog_14_method_61_code 1 = .ok (.iconst 0, 1) := by decide +kernel
theorem t_X12_chain_2 : decode prog_14_method_61_code 2 = .ok (.putfield 109, 3) := by decide +kernel
theorem t_X12_chain_5 : decode prog_14_method_61_code 5 = .ok (.aload_n 0, 1) := by decide +kernel
theorem t_X12_chain_6 : decode prog_14_method_61_code 6 = .ok (.aload_n 0, 1) := by decide +kernel
theorem t_X12_chain_7 : decode prog_14_method_61_code 7 = .ok (.getfield 9, 3) := by decide +kernel
theorem t_X12_chain_10 : decode prog_14_method_61_code 10 = .ok (.invokevirtual 282, 3) := by decide +kernel
theorem t_X12_chain_13 : decode prog_14_method_61_code 13 = .ok (.ifCond .eq 6, 3) := by decide +kernel
theorem t_X12_chain_16 : decode prog_14_method_61_code 16 = .ok (.bipush (-2), 2) := by decide +kernel
theorem t_X12_chain_18 : decode prog_14_method_61_code 18 = .ok (.ireturn, 1) := by decide +kernel
theorem t_X12_chain_19 : decode prog_14_method_61_code 19 = .ok (.aload_n 0, 1) := by decide +kernel
theorem t_X12_chain_20 : decode prog_14_method_61_code 20 = .ok (.iconst 0, 1) := by decide +kernel
theorem t_X12_chain_21 : decode prog_14_method_61_code 21 = .ok (.invokevirtual 312, 3) := by decide +kernel
theorem t_X12_chain_24 : decode prog_14_method_61_code 24 = .ok (.aload_n 0, 1) := by decide +kernel
theorem t_X12_chain_25 : decode prog_14_method_61_code 25 = .ok (.getfield 305, 3) := by decide +kernel
theorem t_X12_chain_28 : decode prog_14_method_61_code 28 = .ok (.ireturn, 1) := by decide +kernel
def y_X12_longest : MethodName := ⟨"SowingBoardsModel", "longest", "()I"⟩
theorem t_X12_longest_0 : decode prog_14_method_62_code 0 = .ok (.aload_n 0, 1) := by decide +kernel
theorem t_X12_longest_1 : decode prog_14_method_62_code 1 = .ok (.iconst 0, 1) := by decide +kernel
theorem t_X12_longest_2 : decode prog_14_method_62_code 2 = .ok (.putfield 109, 3) := by decide +kernel
theorem t_X12_longest_5 : decode prog_14_method_62_code 5 = .ok (.aload_n 0, 1) := by decide +kernel
theorem t_X12_longest_6 : decode prog_14_method_62_code 6 = .ok (.aload_n 0, 1) := by decide +kernel
theorem t_X12_longest_7 : decode prog_14_method_62_code 7 = .ok (.getfield 9, 3) := by decide +kernel
theorem t_X12_longest_10 : decode prog_14_method_62_code 10 = .ok (.invokevirtual 282, 3) := by decide +kernel
theorem t_X12_longest_13 : decode prog_14_method_62_code 13 = .ok (.ifCond .eq 6, 3) := by decide +kernel
theorem t_X12_longest_16 : decode prog_14_method_62_code 16 = .ok (.bipush (-2), 2) := by decide +kernel
theorem t_X12_longest_18 : decode prog_14_method_62_code 18 = .ok (.ireturn, 1) := by decide +kernel
theorem t_X12_longest_19 : decode prog_14_method_62_code 19 = .ok (.aload_n 0, 1) := by decide +kernel
theorem t_X12_longest_20 : decode prog_14_method_62_code 20 = .ok (.iconst 1, 1) := by decide +kernel
theorem t_X12_longest_21 : decode prog_14_method_62_code 21 = .ok (.invokevirtual 312, 3) := by decide +kernel
theorem t_X12_longest_24 : decode prog_14_method_62_code 24 = .ok (.aload_n 0, 1) := by decide +kernel
theorem t_X12_longest_25 : decode prog_14_method_62_code 25 = .ok (.getfield 302, 3) := by decide +kernel
theorem t_X12_longest_28 : decode prog_14_method_62_code 28 = .ok (.ireturn, 1) := by decide +kernel
def y_X12_threat : MethodName := ⟨"SowingBoardsModel", "threat", "()I"⟩
theorem t_X12_threat_0 : decode prog_14_method_63_code 0 = .ok (.aload_n 0, 1) := by decide +kernel
theorem t_X12_threat_1 : decode prog_14_method_63_code 1 = .ok (.iconst 0, 1) := by decide +kernel
theorem t_X12_threat_2 : decode prog_14_method_63_code 2 = .ok (.putfield 109, 3) := by decide +kernel
theorem t_X12_threat_5 : decode prog_14_method_63_code 5 = .ok (.aload_n 0, 1) := by decide +kernel
theorem t_X12_threat_6 : decode prog_14_method_63_code 6 = .ok (.getfield 9, 3) := by decide +kernel
theorem t_X12_threat_9 : decode prog_14_method_63_code 9 = .ok (.aload_n 0, 1) := by decide +kernel
theorem t_X12_threat_10 : decode prog_14_method_63_code 10 = .ok (.getfield 46, 3) := by decide +kernel
theorem t_X12_threat_13 : decode prog_14_method_63_code 13 = .ok (.iconst 0, 1) := by decide +kernel
theorem t_X12_threat_14 : decode prog_14_method_63_code 14 = .ok (.invokestatic 256, 3) := by decide +kernel
theorem t_X12_threat_17 : decode prog_14_method_63_code 17 = .ok (.aload_n 0, 1) := by decide +kernel
theorem t_X12_threat_18 : decode prog_14_method_63_code 18 = .ok (.getfield 46, 3) := by decide +kernel
theorem t_X12_threat_21 : decode prog_14_method_63_code 21 = .ok (.bipush 14, 2) := by decide +kernel
theorem t_X12_threat_23 : decode prog_14_method_63_code 23 = .ok (.iconst 1, 1) := by decide +kernel
theorem t_X12_threat_24 : decode prog_14_method_63_code 24 = .ok (.aload_n 0, 1) := by decide +kernel
theorem t_X12_threat_25 : decode prog_14_method_63_code 25 = .ok (.getfield 9, 3) := by decide +kernel
theorem t_X12_threat_28 : decode prog_14_method_63_code 28 = .ok (.bipush 14, 2) := by decide +kernel
theorem t_X12_threat_30 : decode prog_14_method_63_code 30 = .ok (.iaload, 1) := by decide +kernel
theorem t_X12_threat_31 : decode prog_14_method_63_code 31 = .ok (.isub, 1) := by decide +kernel
theorem t_X12_threat_32 : decode prog_14_method_63_code 32 = .ok (.iastore, 1) := by decide +kernel
theorem t_X12_threat_33 : decode prog_14_method_63_code 33 = .ok (.aload_n 0, 1) := by decide +kernel
theorem t_X12_threat_34 : decode prog_14_method_63_code 34 = .ok (.aload_n 0, 1) := by decide +kernel
theorem t_X12_threat_35 : decode prog_14_method_63_code 35 = .ok (.getfield 46, 3) := by decide +kernel
theorem t_X12_threat_38 : decode prog_14_method_63_code 38 = .ok (.invokevirtual 299, 3) := by decide +kernel
theorem t_X12_threat_41 : decode prog_14_method_63_code 41 = .ok (.istore_n 1, 1) := by decide +kernel
theorem t_X12_threat_42 : decode prog_14_method_63_code 42 = .ok (.aload_n 0, 1) := by decide +kernel
theorem t_X12_threat_43 : decode prog_14_method_63_code 43 = .ok (.iconst 0, 1) := by decide +kernel
theorem t_X12_threat_44 : decode prog_14_method_63_code 44 = .ok (.putfield 112, 3) := by decide +kernel
theorem t_X12_threat_47 : decode prog_14_method_63_code 47 = .ok (.aload_n 0, 1) := by decide +kernel
theorem t_X12_threat_48 : decode prog_14_method_63_code 48 = .ok (.getfield 296, 3) := by decide +kernel
theorem t_X12_threat_51 : decode prog_14_method_63_code 51 = .ok (.iconst (-1), 1) := by decide +kernel
theorem t_X12_threat_52 : decode prog_14_method_63_code 52 = .ok (.if_icmp .eq 12, 3) := by decide +kernel
theorem t_X12_threat_55 : decode prog_14_method_63_code 55 = .ok (.aload_n 0, 1) := by decide +kernel
theorem t_X12_threat_56 : decode prog_14_method_63_code 56 = .ok (.aload_n 0, 1) := by decide +kernel
theorem t_X12_threat_57 : decode prog_14_method_63_code 57 = .ok (.getfield 296, 3) := by decide +kernel
theorem t_X12_threat_60 : decode prog_14_method_63_code 60 = .ok (.i2l, 1) := by decide +kernel
theorem t_X12_threat_61 : decode prog_14_method_63_code 61 = .ok (.invokevirtual 260, 3) := by decide +kernel
theorem t_X12_threat_64 : decode prog_14_method_63_code 64 = .ok (.iload_n 1, 1) := by decide +kernel
theorem t_X12_threat_65 : decode prog_14_method_63_code 65 = .ok (.ireturn, 1) := by decide +kernel
def y_X12_risks : MethodName := ⟨"SowingBoardsModel", "risks", "(I)I"⟩
theorem t_X12_risks_0 : decode prog_14_method_64_code 0 = .ok (.aload_n 0, 1) := by decide +kernel
theorem t_X12_risks_1 : decode prog_14_method_64_code 1 = .ok (.iconst 0, 1) := by decide +kernel
theorem t_X12_risks_2 : decode prog_14_method_64_code 2 = .ok (.putfield 109, 3) := by decide +kernel
theorem t_X12_risks_5 : decode prog_14_method_64_code 5 = .ok (.aload_n 0, 1) := by decide +kernel
theorem t_X12_risks_6 : decode prog_14_method_64_code 6 = .ok (.aload_n 0, 1) := by decide +kernel
theorem t_X12_risks_7 : decode prog_14_method_64_code 7 = .ok (.getfield 9, 3) := by decide +kernel
theorem t_X12_risks_10 : decode prog_14_method_64_code 10 = .ok (.iload_n 1, 1) := by decide +kernel
theorem t_X12_risks_11 : decode prog_14_method_64_code 11 = .ok (.invokevirtual 264, 3) := by decide +kernel
theorem t_X12_risks_14 : decode prog_14_method_64_code 14 = .ok (.istore_n 2, 1) := by decide +kernel
theorem t_X12_risks_15 : decode prog_14_method_64_code 15 = .ok (.iload_n 2, 1) := by decide +kernel
theorem t_X12_risks_16 : decode prog_14_method_64_code 16 = .ok (.ifCond .ge 5, 3) := by decide +kernel
theorem t_X12_risks_19 : decode prog_14_method_64_code 19 = .ok (.iload_n 2, 1) := by decide +kernel
theorem t_X12_risks_20 : decode prog_14_method_64_code 20 = .ok (.ireturn, 1) := by decide +kernel
theorem t_X12_risks_21 : decode prog_14_method_64_code 21 = .ok (.aload_n 0, 1) := by decide +kernel
theorem t_X12_risks_22 : decode prog_14_method_64_code 22 = .ok (.getfield 9, 3) := by decide +kernel
theorem t_X12_risks_25 : decode prog_14_method_64_code 25 = .ok (.aload_n 0, 1) := by decide +kernel
theorem t_X12_risks_26 : decode prog_14_method_64_code 26 = .ok (.getfield 46, 3) := by decide +kernel
theorem t_X12_risks_29 : decode prog_14_method_64_code 29 = .ok (.iconst 0, 1) := by decide +kernel
theorem t_X12_risks_30 : decode prog_14_method_64_code 30 = .ok (.invokestatic 256, 3) := by decide +kernel
theorem t_X12_risks_33 : decode prog_14_method_64_code 33 = .ok (.aload_n 0, 1) := by decide +kernel
theorem t_X12_risks_34 : decode prog_14_method_64_code 34 = .ok (.aload_n 0, 1) := by decide +kernel
theorem t_X12_risks_35 : decode prog_14_method_64_code 35 = .ok (.getfield 46, 3) := by decide +kernel
theorem t_X12_risks_38 : decode prog_14_method_64_code 38 = .ok (.iload_n 1, 1) := by decide +kernel
theorem t_X12_risks_39 : decode prog_14_method_64_code 39 = .ok (.invokevirtual 272, 3) := by decide +kernel
theorem t_X12_risks_42 : decode prog_14_method_64_code 42 = .ok (.aload_n 0, 1) := by decide +kernel
theorem t_X12_risks_43 : decode prog_14_method_64_code 43 = .ok (.getfield 46, 3) := by decide +kernel
theorem t_X12_risks_46 : decode prog_14_method_64_code 46 = .ok (.bipush 14, 2) := by decide +kernel
theorem t_X12_risks_48 : decode prog_14_method_64_code 48 = .ok (.iaload, 1) := by decide +kernel
theorem t_X12_risks_49 : decode prog_14_method_64_code 49 = .ok (.aload_n 0, 1) := by decide +kernel
theorem t_X12_risks_50 : decode prog_14_method_64_code 50 = .ok (.getfield 9, 3) := by decide +kernel
theorem t_X12_risks_53 : decode prog_14_method_64_code 53 = .ok (.bipush 14, 2) := by decide +kernel
theorem t_X12_risks_55 : decode prog_14_method_64_code 55 = .ok (.iaload, 1) := by decide +kernel
theorem t_X12_risks_56 : decode prog_14_method_64_code 56 = .ok (.if_icmp .ne 7, 3) := by decide +kernel
theorem t_X12_risks_59 : decode prog_14_method_64_code 59 = .ok (.iconst 0, 1) := by decide +kernel
theorem t_X12_risks_60 : decode prog_14_method_64_code 60 = .ok (.goto 11, 3) := by decide +kernel
theorem t_X12_risks_63 : decode prog_14_method_64_code 63 = .ok (.aload_n 0, 1) := by decide +kernel
theorem t_X12_risks_64 : decode prog_14_method_64_code 64 = .ok (.aload_n 0, 1) := by decide +kernel
theorem t_X12_risks_65 : decode prog_14_method_64_code 65 = .ok (.getfield 46, 3) := by decide +kernel
theorem t_X12_risks_68 : decode prog_14_method_64_code 68 = .ok (.invokevirtual 299, 3) := by decide +kernel
theorem t_X12_risks_71 : decode prog_14_method_64_code 71 = .ok (.ireturn, 1) := by decide +kernel
def y_X12_starves : MethodName := ⟨"SowingBoardsModel", "starves", "()I"⟩
theorem t_X12_starves_0 : decode prog_14_method_65_code 0 = .ok (.aload_n 0, 1) := by decide +kernel
theorem t_X12_starves_1 : decode prog_14_method_65_code 1 = .ok (.iconst 0, 1) := by decide +kernel
theorem t_X12_starves_2 : decode prog_14_method_65_code 2 = .ok (.putfield 109, 3) := by decide +kernel
theorem t_X12_starves_5 : decode prog_14_method_65_code 5 = .ok (.iconst 0, 1) := by decide +kernel
theorem t_X12_starves_6 : decode prog_14_method_65_code 6 = .ok (.istore_n 1, 1) := by decide +kernel
theorem t_X12_starves_7 : decode prog_14_method_65_code 7 = .ok (.iconst 0, 1) := by decide +kernel
theorem t_X12_starves_8 : decode prog_14_method_65_code 8 = .ok (.istore_n 2, 1) := by decide +kernel
theorem t_X12_starves_9 : decode prog_14_method_65_code 9 = .ok (.iload_n 2, 1) := by decide +kernel
theorem t_X12_starves_10 : decode prog_14_method_65_code 10 = .ok (.aload_n 0, 1) := by decide +kernel
theorem t_X12_starves_11 : decode prog_14_method_65_code 11 = .ok (.getfield 13, 3) := by decide +kernel
theorem t_X12_starves_14 : decode prog_14_method_65_code 14 = .ok (.if_icmp .ge 66, 3) := by decide +kernel
theorem t_X12_starves_17 : decode prog_14_method_65_code 17 = .ok (.aload_n 0, 1) := by decide +kernel
theorem t_X12_starves_18 : decode prog_14_method_65_code 18 = .ok (.aload_n 0, 1) := by decide +kernel
theorem t_X12_starves_19 : decode prog_14_method_65_code 19 = .ok (.getfield 9, 3) := by decide +kernel
theorem t_X12_starves_22 : decode prog_14_method_65_code 22 = .ok (.iload_n 2, 1) := by decide +kernel
theorem t_X12_starves_23 : decode prog_14_method_65_code 23 = .ok (.invokevirtual 264, 3) := by decide +kernel
theorem t_X12_starves_26 : decode prog_14_method_65_code 26 = .ok (.ifCond .ge 6, 3) := by decide +kernel
theorem t_X12_starves_29 : decode prog_14_method_65_code 29 = .ok (.goto 45, 3) := by decide +kernel
theorem t_X12_starves_32 : decode prog_14_method_65_code 32 = .ok (.aload_n 0, 1) := by decide +kernel
theorem t_X12_starves_33 : decode prog_14_method_65_code 33 = .ok (.getfield 9, 3) := by decide +kernel
theorem t_X12_starves_36 : decode prog_14_method_65_code 36 = .ok (.aload_n 0, 1) := by decide +kernel
theorem t_X12_starves_37 : decode prog_14_method_65_code 37 = .ok (.getfield 46, 3) := by decide +kernel
theorem t_X12_starves_40 : decode prog_14_method_65_code 40 = .ok (.iconst 0, 1) := by decide +kernel
theorem t_X12_starves_41 : decode prog_14_method_65_code 41 = .ok (.invokestatic 256, 3) := by decide +kernel
theorem t_X12_starves_44 : decode prog_14_method_65_code 44 = .ok (.aload_n 0, 1) := by decide +kernel
theorem t_X12_starves_45 : decode prog_14_method_65_code 45 = .ok (.aload_n 0, 1) := by decide +kernel
theorem t_X12_starves_46 : decode prog_14_method_65_code 46 = .ok (.getfield 46, 3) := by decide +kernel
theorem t_X12_starves_49 : decode prog_14_method_65_code 49 = .ok (.iload_n 2, 1) := by decide +kernel
theorem t_X12_starves_50 : decode prog_14_method_65_code 50 = .ok (.invokevirtual 272, 3) := by decide +kernel
theorem t_X12_starves_53 : decode prog_14_method_65_code 53 = .ok (.iload_n 1, 1) := by decide +kernel
theorem t_X12_starves_54 : decode prog_14_method_65_code 54 = .ok (.aload_n 0, 1) := by decide +kernel
theorem t_X12_starves_55 : decode prog_14_method_65_code 55 = .ok (.aload_n 0, 1) := by decide +kernel
theorem t_X12_starves_56 : decode prog_14_method_65_code 56 = .ok (.getfield 46, 3) := by decide +kernel
theorem t_X12_starves_59 : decode prog_14_method_65_code 59 = .ok (.invokevirtual 282, 3) := by decide +kernel
theorem t_X12_starves_62 : decode prog_14_method_65_code 62 = .ok (.ifCond .eq 9, 3) := by decide +kernel
theorem t_X12_starves_65 : decode prog_14_method_65_code 65 = .ok (.iconst 1, 1) := by decide +kernel
theorem t_X12_starves_66 : decode prog_14_method_65_code 66 = .ok (.iload_n 2, 1) := by decide +kernel
theorem t_X12_starves_67 : decode prog_14_method_65_code 67 = .ok (.ishl, 1) := by decide +kernel
theorem t_X12_starves_68 : decode prog_14_method_65_code 68 = .ok (.goto 4, 3) := by decide +kernel
theorem t_X12_starves_71 : decode prog_14_method_65_code 71 = .ok (.iconst 0, 1) := by decide +kernel
theorem t_X12_starves_72 : decode prog_14_method_65_code 72 = .ok (.ior, 1) := by decide +kernel
theorem t_X12_starves_73 : decode prog_14_method_65_code 73 = .ok (.istore_n 1, 1) := by decide +kernel
theorem t_X12_starves_74 : decode prog_14_method_65_code 74 = .ok (.iinc 2 1, 3) := by decide +kernel
theorem t_X12_starves_77 : decode prog_14_method_65_code 77 = .ok (.goto (-68), 3) := by decide +kernel
theorem t_X12_starves_80 : decode prog_14_method_65_code 80 = .ok (.aload_n 0, 1) := by decide +kernel
theorem t_X12_starves_81 : decode prog_14_method_65_code 81 = .ok (.iconst 0, 1) := by decide +kernel
theorem t_X12_starves_82 : decode prog_14_method_65_code 82 = .ok (.putfield 112, 3) := by decide +kernel
theorem t_X12_starves_85 : decode prog_14_method_65_code 85 = .ok (.aload_n 0, 1) := by decide +kernel
theorem t_X12_starves_86 : decode prog_14_method_65_code 86 = .ok (.iload_n 1, 1) := by decide +kernel
theorem t_X12_starves_87 : decode prog_14_method_65_code 87 = .ok (.i2l, 1) := by decide +kernel
theorem t_X12_starves_88 : decode prog_14_method_65_code 88 = .ok (.invokevirtual 260, 3) := by decide +kernel
theorem t_X12_starves_91 : decode prog_14_method_65_code 91 = .ok (.iload_n 1, 1) := by decide +kernel
theorem t_X12_starves_92 : decode prog_14_method_65_code 92 = .ok (.invokestatic 177, 3) := by decide +kernel
theorem t_X12_starves_95 : decode prog_14_method_65_code 95 = .ok (.ireturn, 1) := by decide +kernel
def y_X12_look : MethodName := ⟨"SowingBoardsModel", "look", "(II)I"⟩
theorem t_X12_look_0 : decode prog_14_method_66_code 0 = .ok (.aload_n 0, 1) := by decide +kernel
theorem t_X12_look_1 : decode prog_14_method_66_code 1 = .ok (.getfield 57, 3) := by decide +kernel
theorem t_X12_look_4 : decode prog_14_method_66_code 4 = .ok (.iload_n 1, 1) := by decide +kernel
theorem t_X12_look_5 : decode prog_14_method_66_code 5 = .ok (.aaload, 1) := by decide +kernel
theorem t_X12_look_6 : decode prog_14_method_66_code 6 = .ok (.astore_n 3, 1) := by decide +kernel
theorem t_X12_look_7 : decode prog_14_method_66_code 7 = .ok (.aload_n 0, 1) := by decide +kernel
theorem t_X12_look_8 : decode prog_14_method_66_code 8 = .ok (.getfield 69, 3) := by decide +kernel
theorem t_X12_look_11 : decode prog_14_method_66_code 11 = .ok (.iload_n 1, 1) := by decide +kernel
theorem t_X12_look_12 : decode prog_14_method_66_code 12 = .ok (.iconst 0, 1) := by decide +kernel
theorem t_X12_look_13 : decode prog_14_method_66_code 13 = .ok (.iastore, 1) := by decide +kernel
theorem t_X12_look_14 : decode prog_14_method_66_code 14 = .ok (.iload_n 1, 1) := by decide +kernel
theorem t_X12_look_15 : decode prog_14_method_66_code 15 = .ok (.iload_n 2, 1) := by decide +kernel
theorem t_X12_look_16 : decode prog_14_method_66_code 16 = .ok (.if_icmp .eq 11, 3) := by decide +kernel
theorem t_X12_look_19 : decode prog_14_method_66_code 19 = .ok (.aload_n 0, 1) := by decide +kernel
theorem t_X12_look_20 : decode prog_14_method_66_code 20 = .ok (.aload_n 3, 1) := by decide +kernel
theorem t_X12_look_21 : decode prog_14_method_66_code 21 = .ok (.invokevirtual 282, 3) := by decide +kernel
theorem t_X12_look_24 : decode prog_14_method_66_code 24 = .ok (.ifCond .eq 13, 3) := by decide +kernel
theorem t_X12_look_27 : decode prog_14_method_66_code 27 = .ok (.aload_n 3, 1) := by decide +kernel
theorem t_X12_look_28 : decode prog_14_method_66_code 28 = .ok (.bipush 12, 2) := by decide +kernel
theorem t_X12_look_30 : decode prog_14_method_66_code 30 = .ok (.iaload, 1) := by decide +kernel
theorem t_X12_look_31 : decode prog_14_method_66_code 31 = .ok (.aload_n 3, 1) := by decide +kernel
theorem t_X12_look_32 : decode prog_14_method_66_code 32 = .ok (.bipush 13, 2) := by decide +kernel
theorem t_X12_look_34 : decode prog_14_method_66_code 34 = .ok (.iaload, 1) := by decide +kernel
theorem t_X12_look_35 : decode prog_14_method_66_code 35 = .ok (.isub, 1) := by decide +kernel
theorem t_X12_look_36 : decode prog_14_method_66_code 36 = .ok (.ireturn, 1) := by decide +kernel
theorem t_X12_look_37 : decode prog_14_method_66_code 37 = .ok (.aload_n 3, 1) := by decide +kernel
theorem t_X12_look_38 : decode prog_14_method_66_code 38 = .ok (.bipush 14, 2) := by decide +kernel
theorem t_X12_look_40 : decode prog_14_method_66_code 40 = .ok (.iaload, 1) := by decide +kernel
theorem t_X12_look_41 : decode prog_14_method_66_code 41 = .ok (.istore 4, 2) := by decide +kernel
theorem t_X12_look_43 : decode prog_14_method_66_code 43 = .ok (.iconst 0, 1) := by decide +kernel
theorem t_X12_look_44 : decode prog_14_method_66_code 44 = .ok (.istore 5, 2) := by decide +kernel
theorem t_X12_look_46 : decode prog_14_method_66_code 46 = .ok (.iconst 1, 1) := by decide +kernel
theorem t_X12_look_47 : decode prog_14_method_66_code 47 = .ok (.istore 6, 2) := by decide +kernel
theorem t_X12_look_49 : decode prog_14_method_66_code 49 = .ok (.iconst 0, 1) := by decide +kernel
theorem t_X12_look_50 : decode prog_14_method_66_code 50 = .ok (.istore 7, 2) := by decide +kernel
theorem t_X12_look_52 : decode prog_14_method_66_code 52 = .ok (.iload 7, 2) := by decide +kernel
theorem t_X12_look_54 : decode prog_14_method_66_code 54 = .ok (.aload_n 0, 1) := by decide +kernel
theorem t_X12_look_55 : decode prog_14_method_66_code 55 = .ok (.getfield 13, 3) := by decide +kernel
theorem t_X12_look_58 : decode prog_14_method_66_code 58 = .ok (.if_icmp .ge 166, 3) := by decide +kernel
theorem t_X12_look_61 : decode prog_14_method_66_code 61 = .ok (.aload_n 0, 1) := by decide +kernel
theorem t_X12_look_62 : decode prog_14_method_66_code 62 = .ok (.aload_n 3, 1) := by decide +kernel
theorem t_X12_look_63 : decode prog_14_method_66_code 63 = .ok (.iload 7, 2) := by decide +kernel
theorem t_X12_look_65 : decode prog_14_method_66_code 65 = .ok (.invokevirtual 264, 3) := by decide +kernel
theorem t_X12_look_68 : decode prog_14_method_66_code 68 = .ok (.ifCond .ge 6, 3) := by decide +kernel
theorem t_X12_look_71 : decode prog_14_method_66_code 71 = .ok (.goto 147, 3) := by decide +kernel
theorem t_X12_look_74 : decode prog_14_method_66_code 74 = .ok (.aload_n 3, 1) := by decide +kernel
theorem t_X12_look_75 : decode prog_14_method_66_code 75 = .ok (.aload_n 0, 1) := by decide +kernel
theorem t_X12_look_76 : decode prog_14_method_66_code 76 = .ok (.getfield 57, 3) := by decide +kernel
theorem t_X12_look_79 : decode prog_14_method_66_code 79 = .ok (.iload_n 1, 1) := by decide +kernel
theorem t_X12_look_80 : decode prog_14_method_66_code 80 = .ok (.iconst 1, 1) := by decide +kernel
theorem t_X12_look_81 : decode prog_14_method_66_code 81 = .ok (.iadd, 1) := by decide +kernel
theorem t_X12_look_82 : decode prog_14_method_66_code 82 = .ok (.aaload, 1) := by decide +kernel
theorem t_X12_look_83 : decode prog_14_method_66_code 83 = .ok (.iconst 0, 1) := by decide +kernel
theorem t_X12_look_84 : decode prog_14_method_66_code 84 = .ok (.invokestatic 256, 3) := by decide +kernel
theorem t_X12_look_87 : decode prog_14_method_66_code 87 = .ok (.aload_n 0, 1) := by decide +kernel
theorem t_X12_look_88 : decode prog_14_method_66_code 88 = .ok (.aload_n 0, 1) := by decide +kernel
theorem t_X12_look_89 : decode prog_14_method_66_code 89 = .ok (.getfield 57, 3) := by decide +kernel
theorem t_X12_look_92 : decode prog_14_method_66_code 92 = .ok (.iload_n 1, 1) := by decide +kernel
theorem t_X12_look_93 : decode prog_14_method_66_code 93 = .ok (.iconst 1, 1) := by decide +kernel
theorem t_X12_look_94 : decode prog_14_method_66_code 94 = .ok (.iadd, 1) := by decide +kernel
theorem t_X12_look_95 : decode prog_14_method_66_code 95 = .ok (.aaload, 1) := by decide +kernel
theorem t_X12_look_96 : decode prog_14_method_66_code 96 = .ok (.iload 7, 2) := by decide +kernel
theorem t_X12_look_98 : decode prog_14_method_66_code 98 = .ok (.invokevirtual 272, 3) := by decide +kernel
theorem t_X12_look_101 : decode prog_14_method_66_code 101 = .ok (.aload_n 0, 1) := by decide +kernel
theorem t_X12_look_102 : decode prog_14_method_66_code 102 = .ok (.iload_n 1, 1) := by decide +kernel
theorem t_X12_look_103 : decode prog_14_method_66_code 103 = .ok (.iconst 1, 1) := by decide +kernel
theorem t_X12_look_104 : decode prog_14_method_66_code 104 = .ok (.iadd, 1) := by decide +kernel
theorem t_X12_look_105 : decode prog_14_method_66_code 105 = .ok (.iload_n 2, 1) := by decide +kernel
theorem t_X12_look_106 : decode prog_14_method_66_code 106 = .ok (.invokevirtual 316, 3) := by decide +kernel
theorem t_X12_look_109 : decode prog_14_method_66_code 109 = .ok (.istore 8, 2) := by decide +kernel
theorem t_X12_look_111 : decode prog_14_method_66_code 111 = .ok (.iload 6, 2) := by decide +kernel
theorem t_X12_look_113 : decode prog_14_method_66_code 113 = .ok (.ifCond .ne 28, 3) := by decide +kernel
theorem t_X12_look_116 : decode prog_14_method_66_code 116 = .ok (.iload 4, 2) := by decide +kernel
theorem t_X12_look_118 : decode prog_14_method_66_code 118 = .ok (.ifCond .ne 13, 3) := by decide +kernel
theorem t_X12_look_121 : decode prog_14_method_66_code 121 = .ok (.iload 8, 2) := by decide +kernel
theorem t_X12_look_123 : decode prog_14_method_66_code 123 = .ok (.iload 5, 2) := by decide +kernel
theorem t_X12_look_125 : decode prog_14_method_66_code 125 = .ok (.if_icmp .gt 16, 3) := by decide +kernel
theorem t_X12_look_128 : decode prog_14_method_66_code 128 = .ok (.goto 90, 3) := by decide +kernel
theorem t_X12_look_131 : decode prog_14_method_66_code 131 = .ok (.iload 8, 2) := by decide +kernel
theorem t_X12_look_133 : decode prog_14_method_66_code 133 = .ok (.iload 5, 2) := by decide +kernel
theorem t_X12_look_135 : decode prog_14_method_66_code 135 = .ok (.if_icmp .lt 6, 3) := by decide +kernel
theorem t_X12_look_138 : decode prog_14_method_66_code 138 = .ok (.goto 80, 3) := by decide +kernel
theorem t_X12_look_141 : decode prog_14_method_66_code 141 = .ok (.iconst 0, 1) := by decide +kernel
theorem t_X12_look_142 : decode prog_14_method_66_code 142 = .ok (.istore 6, 2) := by decide +kernel
theorem t_X12_look_144 : decode prog_14_method_66_code 144 = .ok (.iload 8, 2) := by decide +kernel
theorem t_X12_look_146 : decode prog_14_method_66_code 146 = .ok (.istore 5, 2) := by decide +kernel
theorem t_X12_look_148 : decode prog_14_method_66_code 148 = .ok (.aload_n 0, 1) := by decide +kernel
theorem t_X12_look_149 : decode prog_14_method_66_code 149 = .ok (.getfield 66, 3) := by decide +kernel
theorem t_X12_look_152 : decode prog_14_method_66_code 152 = .ok (.iload_n 1, 1) := by decide +kernel
theorem t_X12_look_153 : decode prog_14_method_66_code 153 = .ok (.aaload, 1) := by decide +kernel
theorem t_X12_look_154 : decode prog_14_method_66_code 154 = .ok (.iconst 0, 1) := by decide +kernel
theorem t_X12_look_155 : decode prog_14_method_66_code 155 = .ok (.iload 7, 2) := by decide +kernel
theorem t_X12_look_157 : decode prog_14_method_66_code 157 = .ok (.iastore, 1) := by decide +kernel
theorem t_X12_look_158 : decode prog_14_method_66_code 158 = .ok (.iconst 0, 1) := by decide +kernel
theorem t_X12_look_159 : decode prog_14_method_66_code 159 = .ok (.istore 9, 2) := by decide +kernel
theorem t_X12_look_161 : decode prog_14_method_66_code 161 = .ok (.iload 9, 2) := by decide +kernel
theorem t_X12_look_163 : decode prog_14_method_66_code 163 = .ok (.aload_n 0, 1) := by decide +kernel
theorem t_X12_look_164 : decode prog_14_method_66_code 164 = .ok (.getfield 69, 3) := by decide +kernel
theorem t_X12_look_167 : decode prog_14_method_66_code 167 = .ok (.iload_n 1, 1) := by decide +kernel
theorem t_X12_look_168 : decode prog_14_method_66_code 168 = .ok (.iconst 1, 1) := by decide +kernel
theorem t_X12_look_169 : decode prog_14_method_66_code 169 = .ok (.iadd, 1) := by decide +kernel
theorem t_X12_look_170 : decode prog_14_method_66_code 170 = .ok (.iaload, 1) := by decide +kernel
theorem t_X12_look_171 : decode prog_14_method_66_code 171 = .ok (.if_icmp .ge 31, 3) := by decide +kernel
theorem t_X12_look_174 : decode prog_14_method_66_code 174 = .ok (.aload_n 0, 1) := by decide +kernel
theorem t_X12_look_175 : decode prog_14_method_66_code 175 = .ok (.getfield 66, 3) := by decide +kernel
theorem t_X12_look_178 : decode prog_14_method_66_code 178 = .ok (.iload_n 1, 1) := by decide +kernel
theorem t_X12_look_179 : decode prog_14_method_66_code 179 = .ok (.aaload, 1) := by decide +kernel
theorem t_X12_look_180 : decode prog_14_method_66_code 180 = .ok (.iload 9, 2) := by decide +kernel
theorem t_X12_look_182 : decode prog_14_method_66_code 182 = .ok (.iconst 1, 1) := by decide +kernel
theorem t_X12_look_183 : decode prog_14_method_66_code 183 = .ok (.iadd, 1) := by decide +kernel
theorem t_X12_look_184 : decode prog_14_method_66_code 184 = .ok (.aload_n 0, 1) := by decide +kernel
theorem t_X12_look_185 : decode prog_14_method_66_code 185 = .ok (.getfield 66, 3) := by decide +kernel
theorem t_X12_look_188 : decode prog_14_method_66_code 188 = .ok (.iload_n 1, 1) := by decide +kernel
theorem t_X12_look_189 : decode prog_14_method_66_code 189 = .ok (.iconst 1, 1) := by decide +kernel
theorem t_X12_look_190 : decode prog_14_method_66_code 190 = .ok (.iadd, 1) := by decide +kernel
theorem t_X12_look_191 : decode prog_14_method_66_code 191 = .ok (.aaload, 1) := by decide +kernel
theorem t_X12_look_192 : decode prog_14_method_66_code 192 = .ok (.iload 9, 2) := by decide +kernel
theorem t_X12_look_194 : decode prog_14_method_66_code 194 = .ok (.iaload, 1) := by decide +kernel
theorem t_X12_look_195 : decode prog_14_method_66_code 195 = .ok (.iastore, 1) := by decide +kernel
theorem t_X12_look_196 : decode prog_14_method_66_code 196 = .ok (.iinc 9 1, 3) := by decide +kernel
theorem t_X12_look_199 : decode prog_14_method_66_code 199 = .ok (.goto (-38), 3) := by decide +kernel
theorem t_X12_look_202 : decode prog_14_method_66_code 202 = .ok (.aload_n 0, 1) := by decide +kernel
theorem t_X12_look_203 : decode prog_14_method_66_code 203 = .ok (.getfield 69, 3) := by decide +kernel
theorem t_X12_look_206 : decode prog_14_method_66_code 206 = .ok (.iload_n 1, 1) := by decide +kernel
theorem t_X12_look_207 : decode prog_14_method_66_code 207 = .ok (.aload_n 0, 1) := by decide +kernel
theorem t_X12_look_208 : decode prog_14_method_66_code 208 = .ok (.getfield 69, 3) := by decide +kernel
theorem t_X12_look_211 : decode prog_14_method_66_code 211 = .ok (.iload_n 1, 1) := by decide +kernel
theorem t_X12_look_212 : decode prog_14_method_66_code 212 = .ok (.iconst 1, 1) := by decide +kernel
theorem t_X12_look_213 : decode prog_14_method_66_code 213 = .ok (.iadd, 1) := by decide +kernel
theorem t_X12_look_214 : decode prog_14_method_66_code 214 = .ok (.iaload, 1) := by decide +kernel
theorem t_X12_look_215 : decode prog_14_method_66_code 215 = .ok (.iconst 1, 1) := by decide +kernel
theorem t_X12_look_216 : decode prog_14_method_66_code 216 = .ok (.iadd, 1) := by decide +kernel
theorem t_X12_look_217 : decode prog_14_method_66_code 217 = .ok (.iastore, 1) := by decide +kernel
theorem t_X12_look_218 : decode prog_14_method_66_code 218 = .ok (.iinc 7 1, 3) := by decide +kernel
theorem t_X12_look_221 : decode prog_14_method_66_code 221 = .ok (.goto (-169), 3) := by decide +kernel
theorem t_X12_look_224 : decode prog_14_method_66_code 224 = .ok (.iload 5, 2) := by decide +kernel
theorem t_X12_look_226 : decode prog_14_method_66_code 226 = .ok (.ireturn, 1) := by decide +kernel
def y_X12_looks : MethodName := ⟨"SowingBoardsModel", "looks", "(I)I"⟩
theorem t_X12_looks_0 : decode prog_14_method_67_code 0 = .ok (.aload_n 0, 1) := by decide +kernel
theorem t_X12_looks_1 : decode prog_14_method_67_code 1 = .ok (.iconst 0, 1) := by decide +kernel
theorem t_X12_looks_2 : decode prog_14_method_67_code 2 = .ok (.putfield 109, 3) := by decide +kernel
theorem t_X12_looks_5 : decode prog_14_method_67_code 5 = .ok (.iload_n 1, 1) := by decide +kernel
theorem t_X12_looks_6 : decode prog_14_method_67_code 6 = .ok (.iconst 0, 1) := by decide +kernel
theorem t_X12_looks_7 : decode prog_14_method_67_code 7 = .ok (.iconst 4, 1) := by decide +kernel
theorem t_X12_looks_8 : decode prog_14_method_67_code 8 = .ok (.invokestatic 118, 3) := by decide +kernel
theorem t_X12_looks_11 : decode prog_14_method_67_code 11 = .ok (.ifCond .ne 5, 3) := by decide +kernel
theorem t_X12_looks_14 : decode prog_14_method_67_code 14 = .ok (.iconst (-1), 1) := by decide +kernel
theorem t_X12_looks_15 : decode prog_14_method_67_code 15 = .ok (.ireturn, 1) := by decide +kernel
theorem t_X12_looks_16 : decode prog_14_method_67_code 16 = .ok (.aload_n 0, 1) := by decide +kernel
theorem t_X12_looks_17 : decode prog_14_method_67_code 17 = .ok (.getfield 9, 3) := by decide +kernel
theorem t_X12_looks_20 : decode prog_14_method_67_code 20 = .ok (.aload_n 0, 1) := by decide +kernel
theorem t_X12_looks_21 : decode prog_14_method_67_code 21 = .ok (.getfield 57, 3) := by decide +kernel
theorem t_X12_looks_24 : decode prog_14_method_67_code 24 = .ok (.iconst 0, 1) := by decide +kernel
theorem t_X12_looks_25 : decode prog_14_method_67_code 25 = .ok (.aaload, 1) := by decide +kernel
theorem t_X12_looks_26 : decode prog_14_method_67_code 26 = .ok (.iconst 0, 1) := by decide +kernel
theorem t_X12_looks_27 : decode prog_14_method_67_code 27 = .ok (.invokestatic 256, 3) := by decide +kernel
theorem t_X12_looks_30 : decode prog_14_method_67_code 30 = .ok (.aload_n 0, 1) := by decide +kernel
theorem t_X12_looks_31 : decode prog_14_method_67_code 31 = .ok (.iconst 0, 1) := by decide +kernel
theorem t_X12_looks_32 : decode prog_14_method_67_code 32 = .ok (.iload_n 1, 1) := by decide +kernel
theorem t_X12_looks_33 : decode prog_14_method_67_code 33 = .ok (.invokevirtual 316, 3) := by decide +kernel
theorem t_X12_looks_36 : decode prog_14_method_67_code 36 = .ok (.istore_n 2, 1) := by decide +kernel
theorem t_X12_looks_37 : decode prog_14_method_67_code 37 = .ok (.aload_n 0, 1) := by decide +kernel
theorem t_X12_looks_38 : decode prog_14_method_67_code 38 = .ok (.iconst 0, 1) := by decide +kernel
theorem t_X12_looks_39 : decode prog_14_method_67_code 39 = .ok (.putfield 112, 3) := by decide +kernel
theorem t_X12_looks_42 : decode prog_14_method_67_code 42 = .ok (.iconst 0, 1) := by decide +kernel
theorem t_X12_looks_43 : decode prog_14_method_67_code 43 = .ok (.istore_n 3, 1) := by decide +kernel
theorem t_X12_looks_44 : decode prog_14_method_67_code 44 = .ok (.iload_n 3, 1) := by decide +kernel
theorem t_X12_looks_45 : decode prog_14_method_67_code 45 = .ok (.aload_n 0, 1) := by decide +kernel
theorem t_X12_looks_46 : decode prog_14_method_67_code 46 = .ok (.getfield 69, 3) := by decide +kernel
theorem t_X12_looks_49 : decode prog_14_method_67_code 49 = .ok (.iconst 0, 1) := by decide +kernel
theorem t_X12_looks_50 : decode prog_14_method_67_code 50 = .ok (.iaload, 1) := by decide +kernel
theorem t_X12_looks_51 : decode prog_14_method_67_code 51 = .ok (.if_icmp .ge 22, 3) := by decide +kernel
theorem t_X12_looks_54 : decode prog_14_method_67_code 54 = .ok (.aload_n 0, 1) := by decide +kernel
theorem t_X12_looks_55 : decode prog_14_method_67_code 55 = .ok (.aload_n 0, 1) := by decide +kernel
theorem t_X12_looks_56 : decode prog_14_method_67_code 56 = .ok (.getfield 66, 3) := by decide +kernel
theorem t_X12_looks_59 : decode prog_14_method_67_code 59 = .ok (.iconst 0, 1) := by decide +kernel
theorem t_X12_looks_60 : decode prog_14_method_67_code 60 = .ok (.aaload, 1) := by decide +kernel
theorem t_X12_looks_61 : decode prog_14_method_67_code 61 = .ok (.iload_n 3, 1) := by decide +kernel
theorem t_X12_looks_62 : decode prog_14_method_67_code 62 = .ok (.iaload, 1) := by decide +kernel
theorem t_X12_looks_63 : decode prog_14_method_67_code 63 = .ok (.i2l, 1) := by decide +kernel
theorem t_X12_looks_64 : decode prog_14_method_67_code 64 = .ok (.invokevirtual 260, 3) := by decide +kernel
theorem t_X12_looks_67 : decode prog_14_method_67_code 67 = .ok (.iinc 3 1, 3) := by decide +kernel
theorem t_X12_looks_70 : decode prog_14_method_67_code 70 = .ok (.goto (-26), 3) := by decide +kernel
theorem t_X12_looks_73 : decode prog_14_method_67_code 73 = .ok (.sipush 300, 3) := by decide +kernel
theorem t_X12_looks_76 : decode prog_14_method_67_code 76 = .ok (.aload_n 0, 1) := by decide +kernel
theorem t_X12_looks_77 : decode prog_14_method_67_code 77 = .ok (.getfield 9, 3) := by decide +kernel
theorem t_X12_looks_80 : decode prog_14_method_67_code 80 = .ok (.bipush 14, 2) := by decide +kernel
theorem t_X12_looks_82 : decode prog_14_method_67_code 82 = .ok (.iaload, 1) := by decide +kernel
theorem t_X12_looks_83 : decode prog_14_method_67_code 83 = .ok (.ifCond .ne 7, 3) := by decide +kernel
theorem t_X12_looks_86 : decode prog_14_method_67_code 86 = .ok (.iload_n 2, 1) := by decide +kernel
theorem t_X12_looks_87 : decode prog_14_method_67_code 87 = .ok (.goto 5, 3) := by decide +kernel
theorem t_X12_looks_90 : decode prog_14_method_67_code 90 = .ok (.iload_n 2, 1) := by decide +kernel
theorem t_X12_looks_91 : decode prog_14_method_67_code 91 = .ok (.ineg, 1) := by decide +kernel
theorem t_X12_looks_92 : decode prog_14_method_67_code 92 = .ok (.iadd, 1) := by decide +kernel
theorem t_X12_looks_93 : decode prog_14_method_67_code 93 = .ok (.ireturn, 1) := by decide +kernel
def y_X12_goWays : MethodName := ⟨"SowingBoardsModel", "goWays", "(III)V"⟩
theorem t_X12_goWays_0 : decode prog_14_method_68_code 0 = .ok (.iload_n 2, 1) := by decide +kernel
theorem t_X12_goWays_1 : decode prog_14_method_68_code 1 = .ok (.iload_n 3, 1) := by decide +kernel
theorem t_X12_goWays_2 : decode prog_14_method_68_code 2 = .ok (.if_icmp .ne 60, 3) := by decide +kernel
theorem t_X12_goWays_5 : decode prog_14_method_68_code 5 = .ok (.aload_n 0, 1) := by decide +kernel
theorem t_X12_goWays_6 : decode prog_14_method_68_code 6 = .ok (.getfield 57, 3) := by decide +kernel
theorem t_X12_goWays_9 : decode prog_14_method_68_code 9 = .ok (.iload_n 2, 1) := by decide +kernel
theorem t_X12_goWays_10 : decode prog_14_method_68_code 10 = .ok (.aaload, 1) := by decide +kernel
theorem t_X12_goWays_11 : decode prog_14_method_68_code 11 = .ok (.iload_n 1, 1) := by decide +kernel
theorem t_X12_goWays_12 : decode prog_14_method_68_code 12 = .ok (.iaload, 1) := by decide +kernel
theorem t_X12_goWays_13 : decode prog_14_method_68_code 13 = .ok (.ifCond .le 4, 3) := by decide +kernel
theorem t_X12_goWays_16 : decode prog_14_method_68_code 16 = .ok (.return_, 1) := by decide +kernel
theorem t_X12_goWays_17 : decode prog_14_method_68_code 17 = .ok (.iconst 0, 1) := by decide +kernel
theorem t_X12_goWays_18 : decode prog_14_method_68_code 18 = .ok (.istore 4, 2) := by decide +kernel
theorem t_X12_goWays_20 : decode prog_14_method_68_code 20 = .ok (.iload 4, 2) := by decide +kernel
theorem t_X12_goWays_22 : decode prog_14_method_68_code 22 = .ok (.iload_n 3, 1) := by decide +kernel
theorem t_X12_goWays_23 : decode prog_14_method_68_code 23 = .ok (.if_icmp .ge 28, 3) := by decide +kernel
theorem t_X12_goWays_26 : decode prog_14_method_68_code 26 = .ok (.aload_n 0, 1) := by decide +kernel
theorem t_X12_goWays_27 : decode prog_14_method_68_code 27 = .ok (.getfield 319, 3) := by decide +kernel
theorem t_X12_goWays_30 : decode prog_14_method_68_code 30 = .ok (.ifCond .ne 21, 3) := by decide +kernel
theorem t_X12_goWays_33 : decode prog_14_method_68_code 33 = .ok (.aload_n 0, 1) := by decide +kernel
theorem t_X12_goWays_34 : decode prog_14_method_68_code 34 = .ok (.aload_n 0, 1) := by decide +kernel
theorem t_X12_goWays_35 : decode prog_14_method_68_code 35 = .ok (.getfield 60, 3) := by decide +kernel
theorem t_X12_goWays_38 : decode prog_14_method_68_code 38 = .ok (.iload 4, 2) := by decide +kernel
theorem t_X12_goWays_40 : decode prog_14_method_68_code 40 = .ok (.iaload, 1) := by decide +kernel
theorem t_X12_goWays_41 : decode prog_14_method_68_code 41 = .ok (.i2l, 1) := by decide +kernel
theorem t_X12_goWays_42 : decode prog_14_method_68_code 42 = .ok (.invokevirtual 260, 3) := by decide +kernel
theorem t_X12_goWays_45 : decode prog_14_method_68_code 45 = .ok (.iinc 4 1, 3) := by decide +kernel
theorem t_X12_goWays_48 : decode prog_14_method_68_code 48 = .ok (.goto (-28), 3) := by decide +kernel
theorem t_X12_goWays_51 : decode prog_14_method_68_code 51 = .ok (.aload_n 0, 1) := by decide +kernel
theorem t_X12_goWays_52 : decode prog_14_method_68_code 52 = .ok (.dup, 1) := by decide +kernel
theorem t_X12_goWays_53 : decode prog_14_method_68_code 53 = .ok (.getfield 319, 3) := by decide +kernel
theorem t_X12_goWays_56 : decode prog_14_method_68_code 56 = .ok (.iconst 1, 1) := by decide +kernel
theorem t_X12_goWays_57 : decode prog_14_method_68_code 57 = .ok (.iadd, 1) := by decide +kernel
theorem t_X12_goWays_58 : decode prog_14_method_68_code 58 = .ok (.putfield 319, 3) := by decide +kernel
theorem t_X12_goWays_61 : decode prog_14_method_68_code 61 = .ok (.return_, 1) := by decide +kernel
theorem t_X12_goWays_62 : decode prog_14_method_68_code 62 = .ok (.iconst 0, 1) := by decide +kernel
theorem t_X12_goWays_63 : decode prog_14_method_68_code 63 = .ok (.istore 4, 2) := by decide +kernel
theorem t_X12_goWays_65 : decode prog_14_method_68_code 65 = .ok (.iload 4, 2) := by decide +kernel
theorem t_X12_goWays_67 : decode prog_14_method_68_code 67 = .ok (.aload_n 0, 1) := by decide +kernel
theorem t_X12_goWays_68 : decode prog_14_method_68_code 68 = .ok (.getfield 13, 3) := by decide +kernel
theorem t_X12_goWays_71 : decode prog_14_method_68_code 71 = .ok (.if_icmp .ge 76, 3) := by decide +kernel
theorem t_X12_goWays_74 : decode prog_14_method_68_code 74 = .ok (.aload_n 0, 1) := by decide +kernel
theorem t_X12_goWays_75 : decode prog_14_method_68_code 75 = .ok (.aload_n 0, 1) := by decide +kernel
theorem t_X12_goWays_76 : decode prog_14_method_68_code 76 = .ok (.getfield 57, 3) := by decide +kernel
theorem t_X12_goWays_79 : decode prog_14_method_68_code 79 = .ok (.iload_n 2, 1) := by decide +kernel
theorem t_X12_goWays_80 : decode prog_14_method_68_code 80 = .ok (.aaload, 1) := by decide +kernel
theorem t_X12_goWays_81 : decode prog_14_method_68_code 81 = .ok (.iload 4, 2) := by decide +kernel
theorem t_X12_goWays_83 : decode prog_14_method_68_code 83 = .ok (.invokevirtual 264, 3) := by decide +kernel
theorem t_X12_goWays_86 : decode prog_14_method_68_code 86 = .ok (.ifCond .ge 6, 3) := by decide +kernel
theorem t_X12_goWays_89 : decode prog_14_method_68_code 89 = .ok (.goto 52, 3) := by decide +kernel
theorem t_X12_goWays_92 : decode prog_14_method_68_code 92 = .ok (.aload_n 0, 1) := by decide +kernel
theorem t_X12_goWays_93 : decode prog_14_method_68_code 93 = .ok (.getfield 57, 3) := by decide +kernel
theorem t_X12_goWays_96 : decode prog_14_method_68_code 96 = .ok (.iload_n 2, 1) := by decide +kernel
theorem t_X12_goWays_97 : decode prog_14_method_68_code 97 = .ok (.aaload, 1) := by decide +kernel
theorem t_X12_goWays_98 : decode prog_14_method_68_code 98 = .ok (.aload_n 0, 1) := by decide +kernel
theorem t_X12_goWays_99 : decode prog_14_method_68_code 99 = .ok (.getfield 57, 3) := by decide +kernel
theorem t_X12_goWays_102 : decode prog_14_method_68_code 102 = .ok (.iload_n 2, 1) := by decide +kernel
theorem t_X12_goWays_103 : decode prog_14_method_68_code 103 = .ok (.iconst 1, 1) := by decide +kernel
theorem t_X12_goWays_104 : decode prog_14_method_68_code 104 = .ok (.iadd, 1) := by decide +kernel
theorem t_X12_goWays_105 : decode prog_14_method_68_code 105 = .ok (.aaload, 1) := by decide +kernel
theorem t_X12_goWays_106 : decode prog_14_method_68_code 106 = .ok (.iconst 0, 1) := by decide +kernel
theorem t_X12_goWays_107 : decode prog_14_method_68_code 107 = .ok (.invokestatic 256, 3) := by decide +kernel
theorem t_X12_goWays_110 : decode prog_14_method_68_code 110 = .ok (.aload_n 0, 1) := by decide +kernel
theorem t_X12_goWays_111 : decode prog_14_method_68_code 111 = .ok (.aload_n 0, 1) := by decide +kernel
theorem t_X12_goWays_112 : decode prog_14_method_68_code 112 = .ok (.getfield 57, 3) := by decide +kernel
theorem t_X12_goWays_115 : decode prog_14_method_68_code 115 = .ok (.iload_n 2, 1) := by decide +kernel
theorem t_X12_goWays_116 : decode prog_14_method_68_code 116 = .ok (.iconst 1, 1) := by decide +kernel
theorem t_X12_goWays_117 : decode prog_14_method_68_code 117 = .ok (.iadd, 1) := by decide +kernel
theorem t_X12_goWays_118 : decode prog_14_method_68_code 118 = .ok (.aaload, 1) := by decide +kernel
theorem t_X12_goWays_119 : decode prog_14_method_68_code 119 = .ok (.iload 4, 2) := by decide +kernel
theorem t_X12_goWays_121 : decode prog_14_method_68_code 121 = .ok (.invokevirtual 272, 3) := by decide +kernel
theorem t_X12_goWays_124 : decode prog_14_method_68_code 124 = .ok (.aload_n 0, 1) := by decide +kernel
theorem t_X12_goWays_125 : decode prog_14_method_68_code 125 = .ok (.getfield 60, 3) := by decide +kernel
theorem t_X12_goWays_128 : decode prog_14_method_68_code 128 = .ok (.iload_n 2, 1) := by decide +kernel
theorem t_X12_goWays_129 : decode prog_14_method_68_code 129 = .ok (.iload 4, 2) := by decide +kernel
theorem t_X12_goWays_131 : decode prog_14_method_68_code 131 = .ok (.iastore, 1) := by decide +kernel
theorem t_X12_goWays_132 : decode prog_14_method_68_code 132 = .ok (.aload_n 0, 1) := by decide +kernel
theorem t_X12_goWays_133 : decode prog_14_method_68_code 133 = .ok (.iload_n 1, 1) := by decide +kernel
theorem t_X12_goWays_134 : decode prog_14_method_68_code 134 = .ok (.iload_n 2, 1) := by decide +kernel
theorem t_X12_goWays_135 : decode prog_14_method_68_code 135 = .ok (.iconst 1, 1) := by decide +kernel
theorem t_X12_goWays_136 : decode prog_14_method_68_code 136 = .ok (.iadd, 1) := by decide +kernel
theorem t_X12_goWays_137 : decode prog_14_method_68_code 137 = .ok (.iload_n 3, 1) := by decide +kernel
theorem t_X12_goWays_138 : decode prog_14_method_68_code 138 = .ok (.invokevirtual 322, 3) := by decide +kernel
theorem t_X12_goWays_141 : decode prog_14_method_68_code 141 = .ok (.iinc 4 1, 3) := by decide +kernel
theorem t_X12_goWays_144 : decode prog_14_method_68_code 144 = .ok (.goto (-79), 3) := by decide +kernel
theorem t_X12_goWays_147 : decode prog_14_method_68_code 147 = .ok (.return_, 1) := by decide +kernel
def y_X12_ways : MethodName := ⟨"SowingBoardsModel", "ways", "(II)I"⟩
theorem t_X12_ways_0 : decode prog_14_method_69_code 0 = .ok (.aload_n 0, 1) := by decide +kernel
theorem t_X12_ways_1 : decode prog_14_method_69_code 1 = .ok (.iconst 0, 1) := by decide +kernel
theorem t_X12_ways_2 : decode prog_14_method_69_code 2 = .ok (.putfield 109, 3) := by decide +kernel
theorem t_X12_ways_5 : decode prog_14_method_69_code 5 = .ok (.iload_n 1, 1) := by decide +kernel
theorem t_X12_ways_6 : decode prog_14_method_69_code 6 = .ok (.iconst 0, 1) := by decide +kernel
theorem t_X12_ways_7 : decode prog_14_method_69_code 7 = .ok (.aload_n 0, 1) := by decide +kernel
theorem t_X12_ways_8 : decode prog_14_method_69_code 8 = .ok (.invokevirtual 214, 3) := by decide +kernel
theorem t_X12_ways_11 : decode prog_14_method_69_code 11 = .ok (.iconst 1, 1) := by decide +kernel
theorem t_X12_ways_12 : decode prog_14_method_69_code 12 = .ok (.isub, 1) := by decide +kernel
theorem t_X12_ways_13 : decode prog_14_method_69_code 13 = .ok (.invokestatic 118, 3) := by decide +kernel
theorem t_X12_ways_16 : decode prog_14_method_69_code 16 = .ok (.ifCond .eq 12, 3) := by decide +kernel
theorem t_X12_ways_19 : decode prog_14_method_69_code 19 = .ok (.iload_n 2, 1) := by decide +kernel
theorem t_X12_ways_20 : decode prog_14_method_69_code 20 = .ok (.iconst 0, 1) := by decide +kernel
theorem t_X12_ways_21 : decode prog_14_method_69_code 21 = .ok (.iconst 4, 1) := by decide +kernel
theorem t_X12_ways_22 : decode prog_14_method_69_code 22 = .ok (.invokestatic 118, 3) := by decide +kernel
theorem t_X12_ways_25 : decode prog_14_method_69_code 25 = .ok (.ifCond .ne 5, 3) := by decide +kernel
theorem t_X12_ways_28 : decode prog_14_method_69_code 28 = .ok (.iconst (-1), 1) := by decide +kernel
theorem t_X12_ways_29 : decode prog_14_method_69_code 29 = .ok (.ireturn, 1) := by decide +kernel
theorem t_X12_ways_30 : decode prog_14_method_69_code 30 = .ok (.aload_n 0, 1) := by decide +kernel
theorem t_X12_ways_31 : decode prog_14_method_69_code 31 = .ok (.iconst 0, 1) := by decide +kernel
theorem t_X12_ways_32 : decode prog_14_method_69_code 32 = .ok (.putfield 319, 3) := by decide +kernel
theorem t_X12_ways_35 : decode prog_14_method_69_code 35 = .ok (.aload_n 0, 1) := by decide +kernel
theorem t_X12_ways_36 : decode prog_14_method_69_code 36 = .ok (.iconst 0, 1) := by decide +kernel
theorem t_X12_ways_37 : decode prog_14_method_69_code 37 = .ok (.putfield 112, 3) := by decide +kernel
theorem t_X12_ways_40 : decode prog_14_method_69_code 40 = .ok (.aload_n 0, 1) := by decide +kernel
theorem t_X12_ways_41 : decode prog_14_method_69_code 41 = .ok (.getfield 9, 3) := by decide +kernel
theorem t_X12_ways_44 : decode prog_14_method_69_code 44 = .ok (.aload_n 0, 1) := by decide +kernel
theorem t_X12_ways_45 : decode prog_14_method_69_code 45 = .ok (.getfield 57, 3) := by decide +kernel
theorem t_X12_ways_48 : decode prog_14_method_69_code 48 = .ok (.iconst 0, 1) := by decide +kernel
theorem t_X12_ways_49 : decode prog_14_method_69_code 49 = .ok (.aaload, 1) := by decide +kernel
theorem t_X12_ways_50 : decode prog_14_method_69_code 50 = .ok (.iconst 0, 1) := by decide +kernel
theorem t_X12_ways_51 : decode prog_14_method_69_code 51 = .ok (.invokestatic 256, 3) := by decide +kernel
theorem t_X12_ways_54 : decode prog_14_method_69_code 54 = .ok (.aload_n 0, 1) := by decide +kernel
theorem t_X12_ways_55 : decode prog_14_method_69_code 55 = .ok (.iload_n 1, 1) := by decide +kernel
theorem t_X12_ways_56 : decode prog_14_method_69_code 56 = .ok (.iconst 0, 1) := by decide +kernel
theorem t_X12_ways_57 : decode prog_14_method_69_code 57 = .ok (.iload_n 2, 1) := by decide +kernel
theorem t_X12_ways_58 : decode prog_14_method_69_code 58 = .ok (.invokevirtual 322, 3) := by decide +kernel
theorem t_X12_ways_61 : decode prog_14_method_69_code 61 = .ok (.aload_n 0, 1) := by decide +kernel
theorem t_X12_ways_62 : decode prog_14_method_69_code 62 = .ok (.getfield 319, 3) := by decide +kernel
theorem t_X12_ways_65 : decode prog_14_method_69_code 65 = .ok (.ireturn, 1) := by decide +kernel
def y_X12_isReached : MethodName := ⟨"SowingBoardsModel", "isReached", "([II)Z"⟩
theorem t_X12_isReached_0 : decode prog_14_method_70_code 0 = .ok (.iconst 0, 1) := by decide +kernel
theorem t_X12_isReached_1 : decode prog_14_method_70_code 1 = .ok (.istore_n 3, 1) := by decide +kernel
theorem t_X12_isReached_2 : decode prog_14_method_70_code 2 = .ok (.iload_n 3, 1) := by decide +kernel
theorem t_X12_isReached_3 : decode prog_14_method_70_code 3 = .ok (.bipush 15, 2) := by decide +kernel
theorem t_X12_isReached_5 : decode prog_14_method_70_code 5 = .ok (.if_icmp .ge 28, 3) := by decide +kernel
theorem t_X12_isReached_8 : decode prog_14_method_70_code 8 = .ok (.aload_n 0, 1) := by decide +kernel
theorem t_X12_isReached_9 : decode prog_14_method_70_code 9 = .ok (.getfield 72, 3) := by decide +kernel
theorem t_X12_isReached_12 : decode prog_14_method_70_code 12 = .ok (.bipush 16, 2) := by decide +kernel
theorem t_X12_isReached_14 : decode prog_14_method_70_code 14 = .ok (.iload_n 2, 1) := by decide +kernel
theorem t_X12_isReached_15 : decode prog_14_method_70_code 15 = .ok (.imul, 1) := by decide +kernel
theorem t_X12_isReached_16 : decode prog_14_method_70_code 16 = .ok (.iload_n 3, 1) := by decide +kernel
theorem t_X12_isReached_17 : decode prog_14_method_70_code 17 = .ok (.iadd, 1) := by decide +kernel
theorem t_X12_isReached_18 : decode prog_14_method_70_code 18 = .ok (.iaload, 1) := by decide +kernel
theorem t_X12_isReached_19 : decode prog_14_method_70_code 19 = .ok (.aload_n 1, 1) := by decide +kernel
theorem t_X12_isReached_20 : decode prog_14_method_70_code 20 = .ok (.iload_n 3, 1) := by decide +kernel
theorem t_X12_isReached_21 : decode prog_14_method_70_code 21 = .ok (.iaload, 1) := by decide +kernel
theorem t_X12_isReached_22 : decode prog_14_method_70_code 22 = .ok (.if_icmp .eq 5, 3) := by decide +kernel
theorem t_X12_isReached_25 : decode prog_14_method_70_code 25 = .ok (.iconst 0, 1) := by decide +kernel
theorem t_X12_isReached_26 : decode prog_14_method_70_code 26 = .ok (.ireturn, 1) := by decide +kernel
theorem t_X12_isReached_27 : decode prog_14_method_70_code 27 = .ok (.iinc 3 1, 3) := by decide +kernel
theorem t_X12_isReached_30 : decode prog_14_method_70_code 30 = .ok (.goto (-28), 3) := by decide +kernel
theorem t_X12_isReached_33 : decode prog_14_method_70_code 33 = .ok (.iconst 1, 1) := by decide +kernel
theorem t_X12_isReached_34 : decode prog_14_method_70_code 34 = .ok (.ireturn, 1) := by decide +kernel
theorem fl_12_46 : FLk "SowingBoardsModel" 46 12 25 := ⟨_, rfl, by decide, Or.inl (vtb_at 1363 (by decide +kernel) rfl)⟩
theorem fl_12_57 : FLk "SowingBoardsModel" 57 12 29 := ⟨_, rfl, by decide, Or.inl (vtb_at 1367 (by decide +kernel) rfl)⟩
theorem fl_12_60 : FLk "SowingBoardsModel" 60 12 30 := ⟨_, rfl, by decide, Or.inl (vtb_at 1368 (by decide +kernel) rfl)⟩
theorem fl_12_63 : FLk "SowingBoardsModel" 63 12 31 := ⟨_, rfl, by decide, Or.inl (vtb_at 1369 (by decide +kernel) rfl)⟩
theorem fl_12_66 : FLk "SowingBoardsModel" 66 12 34 := ⟨_, rfl, by decide, Or.inl (vtb_at 1372 (by decide +kernel) rfl)⟩
theorem fl_12_69 : FLk "SowingBoardsModel" 69 12 35 := ⟨_, rfl, by decide, Or.inl (vtb_at 1373 (by decide +kernel) rfl)⟩
theorem fl_12_72 : FLk "SowingBoardsModel" 72 12 37 := ⟨_, rfl, by decide, Or.inl (vtb_at 1375 (by decide +kernel) rfl)⟩
theorem fl_12_296 : FLk "SowingBoardsModel" 296 12 28 := ⟨_, rfl, by decide, Or.inl (vtb_at 1366 (by decide +kernel) rfl)⟩
theorem fl_12_302 : FLk "SowingBoardsModel" 302 12 32 := ⟨_, rfl, by decide, Or.inl (vtb_at 1370 (by decide +kernel) rfl)⟩
theorem fl_12_305 : FLk "SowingBoardsModel" 305 12 33 := ⟨_, rfl, by decide, Or.inl (vtb_at 1371 (by decide +kernel) rfl)⟩
theorem fl_12_319 : FLk "SowingBoardsModel" 319 12 36 := ⟨_, rfl, by decide, Or.inl (vtb_at 1374 (by decide +kernel) rfl)⟩
theorem fp_12_28 : FPk 12 28 "I" := ⟨_, rfl, rfl, rfl⟩
theorem fp_12_32 : FPk 12 32 "I" := ⟨_, rfl, rfl, rfl⟩
theorem fp_12_33 : FPk 12 33 "I" := ⟨_, rfl, rfl, rfl⟩
theorem fp_12_36 : FPk 12 36 "I" := ⟨_, rfl, rfl, rfl⟩
theorem my_X12_mostOf : MY y_X12_mostOf prog_14_method_57_code 4 (some .int) 1 := ⟨vtb_at 1726 (by decide +kernel) rfl, vtb_at 152 (by decide +kernel) rfl, ⟨by decide, by decide, by decide +kernel⟩, by decide⟩
theorem mi_X12_mostOf : MI y_X12_mostOf := ⟨vtb_at 1725 (by decide +kernel) rfl, vtb_at 121 (by decide +kernel) rfl⟩
theorem my_X12_goChain : MY y_X12_goChain prog_14_method_59_code 7 none 4 := ⟨vtb_at 1738 (by decide +kernel) rfl, vtb_at 152 (by decide +kernel) rfl, ⟨by decide, by decide, by decide +kernel⟩, by decide⟩
theorem mi_X12_goChain : MI y_X12_goChain := ⟨vtb_at 1737 (by decide +kernel) rfl, vtb_at 123 (by decide +kernel) rfl⟩
theorem my_X12_layChain : MY y_X12_layChain prog_14_method_60_code 3 none 1 := ⟨vtb_at 1734 (by decide +kernel) rfl, vtb_at 152 (by decide +kernel) rfl, ⟨by decide, by decide, by decide +kernel⟩, by decide⟩
theorem mi_X12_layChain : MI y_X12_layChain := ⟨vtb_at 1733 (by decide +kernel) rfl, vtb_at 122 (by decide +kernel) rfl⟩
theorem my_X12_look : MY y_X12_look prog_14_method_66_code 10 (some .int) 2 := ⟨vtb_at 1762 (by decide +kernel) rfl, vtb_at 152 (by decide +kernel) rfl, ⟨by decide, by decide, by decide +kernel⟩, by decide⟩
theorem mi_X12_look : MI y_X12_look := ⟨vtb_at 1761 (by decide +kernel) rfl, vtb_at 124 (by decide +kernel) rfl⟩
theorem my_X12_goWays : MY y_X12_goWays prog_14_method_68_code 5 none 3 := ⟨vtb_at 1770 (by decide +kernel) rfl, vtb_at 152 (by decide +kernel) rfl, ⟨by decide, by decide, by decide +kernel⟩, by decide⟩
theorem mi_X12_goWays : MI y_X12_goWays := ⟨vtb_at 1769 (by decide +kernel) rfl, vtb_at 125 (by decide +kernel) rfl⟩
theorem ml_12_299 : ML "SowingBoardsModel" 299 y_X12_mostOf := Or.inl (vtb_at 1723 (by decide +kernel) rfl)
theorem ml_12_308 : ML "SowingBoardsModel" 308 y_X12_goChain := Or.inl (vtb_at 1735 (by decide +kernel) rfl)
theorem ml_12_312 : ML "SowingBoardsModel" 312 y_X12_layChain := Or.inl (vtb_at 1731 (by decide +kernel) rfl)
theorem ml_12_316 : ML "SowingBoardsModel" 316 y_X12_look := Or.inl (vtb_at 1759 (by decide +kernel) rfl)
theorem ml_12_322 : ML "SowingBoardsModel" 322 y_X12_goWays := Or.inl (vtb_at 1767 (by decide +kernel) rfl)
def L_X12_undo_26 (k3 : Wd → Option (Int32 × Wd)) : Nat → Int32 → Wd → Option (Int32 × Wd)
  | 0, _, _ => none
  | n4 + 1, x5, w6 =>
    if 16 ≤ x5 then (k3 w6) else (if ib ((16 * (w6.1 119 23)) + x5) 192 then (if ib x5 16 then bd (wI w6 120 x5.toNatClampNeg (w6.1 127 ((16 * (w6.1 119 23)) + x5).toNatClampNeg)) (fun w7 => bd (x5 + 1) fun x8 => L_X12_undo_26 k3 n4 x8 w7) else none) else none)
def J_X12_undo_x58_1  : Wd → Option (Int32 × Wd) := fun w9 =>
  some (w9.1 119 23, w9)
def D_X12_undo  : Wd → Option (Int32 × Wd) := fun w =>
  bd (wI w 119 7 0) fun w1 => if (w1.1 119 23) = 0 then (some ((-1), w1)) else (bd (wI w1 119 23 ((w1.1 119 23) - 1)) fun w2 => L_X12_undo_26 J_X12_undo_x58_1 FU 0 w2)
set_option maxRecDepth 20000 in
theorem Q_X12_undo_26 {l0 : Launch} {ρ : Nat → Nat} {cs : Nat → ClassId} {G : va_G} {X : Cx} (hρ : injN ρ) (hn : X.2.2.2.2.2.2.2.2.2.2.1 = 2) (h : Okx l0 ρ cs G X prog_14_method_53_code "SowingBoardsModel" 0) {rr : (Int32 × Wd)} (hR : ∀ pc L, decode prog_14_method_53_code pc = .ok (.ireturn, 1) → narrow .int (.int rr.1) = .int rr.1 → gG ρ cs G X pc L [.int rr.1] rr.2)  {k3 : Wd → Option (Int32 × Wd)} (hk3 : ∀ (w1 : Wd), k3 w1 = some rr → gG ρ cs G X 58 [(0, .ref (ρ 119))] [] w1) : ∀ (n : Nat) (x5 : Int32) (w : Wd), L_X12_undo_26 k3 n x5 w = some rr → gG ρ cs G X 26 [(0, .ref (ρ 119)), (1, .int x5)] [] w := by
  intro n
  induction n with
  | zero =>
    intro x5 w hD
    cases hD
  | succ n4 ih =>
    intro x5 w6 hD
    unfold L_X12_undo_26 at hD
    refine g_iload_n h 1 t_X12_undo_26 rfl ?_
    refine g_bipush (v := 16) h t_X12_undo_27 (by decide) ?_
    refine g_icmp_ge (tgt := 58) h t_X12_undo_29 (by decide) hD (fun hD => ?_) (fun hD => ?_)
    · refine g_loc (L' := [(0, .ref (ρ 119))]) h [0] rfl ?_
      exact hk3 _ hD
    · refine g_aload_n h 0 t_X12_undo_32 rfl ?_
      refine g_getR h 119 0 120 fl_12_9 rfl (by decide) rfl t_X12_undo_33 ?_
      refine g_iload_n h 1 t_X12_undo_36 rfl ?_
      refine g_aload_n h 0 t_X12_undo_37 rfl ?_
      refine g_getR h 119 22 127 fl_12_40 rfl (by decide) rfl t_X12_undo_38 ?_
      refine g_bipush (v := 16) h t_X12_undo_41 (by decide) ?_
      refine g_aload_n h 0 t_X12_undo_43 rfl ?_
      refine g_getI h 119 23 fl_12_167 rfl (by decide) rfl t_X12_undo_44 ?_
      refine g_imul h t_X12_undo_47 ?_
      refine g_iload_n h 1 t_X12_undo_48 rfl ?_
      refine g_iadd h t_X12_undo_49 ?_
      refine g_iald h 127 rfl (by decide) t_X12_undo_50 hD (fun hD => ?_)
      refine g_iast h 120 rfl (by decide) t_X12_undo_51 hD (fun w7 hD => ?_)
      obtain ⟨x8, ex8, hD⟩ := bd_ex hD
      refine g_iinc (v := x8) (L' := [(1, .int x8), (0, .ref (ρ 119))]) h hn t_X12_undo_52 (k := 1) rfl (by rw [ex8]; rfl) (by decide) rfl ?_
      refine g_goto (tgt := 26) h t_X12_undo_55 (by decide) ?_
      refine g_loc (L' := [(0, .ref (ρ 119)), (1, .int x8)]) h [1, 0] rfl ?_
      exact ih x8 _ hD
set_option maxRecDepth 20000 in
theorem S_X12_undo {l0 : Launch} {ρ : Nat → Nat} {cs : Nat → ClassId} {G : va_G} (hρ : injN ρ)  {w : Wd} {rr : (Int32 × Wd)} (hD : D_X12_undo w = some rr) : CtI l0 ρ cs G y_X12_undo prog_14_method_53_code 2 .int 0 [.ref (ρ 119)] w rr.1 rr.2 := by
  refine ctI_of hρ (by decide) (Nat.le_of_ble_eq_true rfl) (fun X hn h hR => ?_)
  unfold D_X12_undo at hD
  show gG ρ cs G X 0 [(0, .ref (ρ 119))] [] w
  refine g_aload_n h 0 t_X12_undo_0 rfl ?_
  refine g_iconst (v := 0) h t_X12_undo_1 (by decide) ?_
  refine g_putI h 119 7 fl_12_109 fp_12_7 rfl (by decide) rfl t_X12_undo_2 hD (fun w1 hD => ?_)
  refine g_aload_n h 0 t_X12_undo_5 rfl ?_
  refine g_getI h 119 23 fl_12_167 rfl (by decide) rfl t_X12_undo_6 ?_
  refine g_if_ne (tgt := 14) h t_X12_undo_9 (by decide) hD (fun hD => ?_) (fun hD => ?_)
  · refine g_aload_n h 0 t_X12_undo_14 rfl ?_
    refine g_dup h t_X12_undo_15 rfl ?_
    refine g_getI h 119 23 fl_12_167 rfl (by decide) rfl t_X12_undo_16 ?_
    refine g_iconst (v := 1) h t_X12_undo_19 (by decide) ?_
    refine g_isub h t_X12_undo_20 ?_
    refine g_putI h 119 23 fl_12_167 fp_12_23 rfl (by decide) rfl t_X12_undo_21 hD (fun w2 hD => ?_)
    refine g_iconst (v := 0) h t_X12_undo_24 (by decide) ?_
    refine g_istore_n (L' := [(1, .int 0), (0, .ref (ρ 119))]) h hn t_X12_undo_25 rfl (by decide) rfl ?_
    refine g_loc (L' := [(0, .ref (ρ 119)), (1, .int 0)]) h [1, 0] rfl ?_
    refine Q_X12_undo_26 hρ hn h hR  ?_ _ _ _ hD
    · intro w9 hD
      unfold J_X12_undo_x58_1 at hD
      refine g_aload_n h 0 t_X12_undo_58 rfl ?_
      refine g_getI h 119 23 fl_12_167 rfl (by decide) rfl t_X12_undo_59 ?_
      obtain rfl := Option.some.inj hD
      exact hR _ _ t_X12_undo_62 rfl
  · refine g_iconst (v := (-1)) h t_X12_undo_12 (by decide) ?_
    obtain rfl := Option.some.inj hD
    exact hR _ _ t_X12_undo_13 rfl
def D_X12_would (p1 : Int32) : Wd → Option (Int32 × Wd) := fun w =>
  bd (wI w 119 7 0) fun w1 => bc (D_X12_refuses 120 p1 w1) fun x3 w2 => if 0 ≤ x3 then (bv (D_X12_lay 120 129 0 w2) fun w4 => bv (D_X12_goMove 129 p1 w4) fun w5 => bc (D_X12_tellMove 129 w5) fun x7 w6 => some (x7, w6)) else (some (x3, w2))
set_option maxRecDepth 20000 in
theorem S_X12_would {l0 : Launch} {ρ : Nat → Nat} {cs : Nat → ClassId} {G : va_G} (hρ : injN ρ) {p1 : Int32} {w : Wd} {rr : (Int32 × Wd)} (hD : D_X12_would p1 w = some rr) : CtI l0 ρ cs G y_X12_would prog_14_method_54_code 3 .int 4 [.ref (ρ 119), .int p1] w rr.1 rr.2 := by
  refine ctI_of hρ (by decide) (Nat.le_of_ble_eq_true rfl) (fun X hn h hR => ?_)
  unfold D_X12_would at hD
  show gG ρ cs G X 0 [(0, .ref (ρ 119)), (1, .int p1)] [] w
  refine g_aload_n h 0 t_X12_would_0 rfl ?_
  refine g_iconst (v := 0) h t_X12_would_1 (by decide) ?_
  refine g_putI h 119 7 fl_12_109 fp_12_7 rfl (by decide) rfl t_X12_would_2 hD (fun w1 hD => ?_)
  refine g_aload_n h 0 t_X12_would_5 rfl ?_
  refine g_aload_n h 0 t_X12_would_6 rfl ?_
  refine g_getR h 119 0 120 fl_12_9 rfl (by decide) rfl t_X12_would_7 ?_
  refine g_iload_n h 1 t_X12_would_10 rfl ?_
  refine g_callVI h 119 (As := [.ref (ρ 120), .int p1]) (st := []) my_X12_refuses mi_X12_refuses ml_12_264 rfl (by decide) rfl rfl rfl (Nat.le_of_ble_eq_true rfl) (by decide) t_X12_would_11 hD (fun _ _ e => S_X12_refuses hρ (by decide) e) (fun x3 w2 hD => ?_)
  refine g_istore_n (L' := [(2, .int x3), (0, .ref (ρ 119)), (1, .int p1)]) h hn t_X12_would_14 rfl (by decide) rfl ?_
  refine g_iload_n h 0 t_X12_would_15 rfl ?_
  refine g_if_ge (tgt := 21) h t_X12_would_16 (by decide) hD (fun hD => ?_) (fun hD => ?_)
  · refine g_aload_n h 1 t_X12_would_21 rfl ?_
    refine g_getR h 119 0 120 fl_12_9 rfl (by decide) rfl t_X12_would_22 ?_
    refine g_aload_n h 1 t_X12_would_25 rfl ?_
    refine g_getR h 119 25 129 fl_12_46 rfl (by decide) rfl t_X12_would_26 ?_
    refine g_iconst (v := 0) h t_X12_would_29 (by decide) ?_
    refine g_callSV h (As := [.ref (ρ 120), .ref (ρ 129), .int 0]) (st := []) my_X12_lay ms_X12_lay ml_12_256 rfl rfl (Nat.le_of_ble_eq_true rfl) (by decide) t_X12_would_30 hD (fun _ e => S_X12_lay hρ (by decide) (by decide) e) (fun w4 hD => ?_)
    refine g_aload_n h 1 t_X12_would_33 rfl ?_
    refine g_aload_n h 1 t_X12_would_34 rfl ?_
    refine g_getR h 119 25 129 fl_12_46 rfl (by decide) rfl t_X12_would_35 ?_
    refine g_iload_n h 2 t_X12_would_38 rfl ?_
    refine g_callVV h 119 (As := [.ref (ρ 129), .int p1]) (st := []) my_X12_goMove mi_X12_goMove ml_12_272 rfl (by decide) rfl rfl rfl (Nat.le_of_ble_eq_true rfl) (by decide) t_X12_would_39 hD (fun _ e => S_X12_goMove hρ (by decide) e) (fun w5 hD => ?_)
    refine g_aload_n h 1 t_X12_would_42 rfl ?_
    refine g_aload_n h 1 t_X12_would_43 rfl ?_
    refine g_getR h 119 25 129 fl_12_46 rfl (by decide) rfl t_X12_would_44 ?_
    refine g_callVI h 119 (As := [.ref (ρ 129)]) (st := []) my_X12_tellMove mi_X12_tellMove ml_12_275 rfl (by decide) rfl rfl rfl (Nat.le_of_ble_eq_true rfl) (by decide) t_X12_would_47 hD (fun _ _ e => S_X12_tellMove hρ (by decide) e) (fun x7 w6 hD => ?_)
    obtain rfl := Option.some.inj hD
    exact hR _ _ t_X12_would_50 rfl
  · refine g_iload_n h 0 t_X12_would_19 rfl ?_
    obtain rfl := Option.some.inj hD
    exact hR _ _ t_X12_would_20 rfl
def D_X12_worth (p1 : Int32) : Wd → Option (Int32 × Wd) := fun w =>
  bd (wI w 119 7 0) fun w1 => bc (D_X12_refuses 120 p1 w1) fun x3 w2 => if 0 ≤ x3 then (bc (D_X12_worthOf 120 p1 w2) fun x5 w4 => bd (wI w4 119 6 0) fun w6 => bv (D_X12_tell x5.toInt64 w6) fun w7 => some (0, w7)) else (some (x3, w2))
set_option maxRecDepth 20000 in
theorem S_X12_worth {l0 : Launch} {ρ : Nat → Nat} {cs : Nat → ClassId} {G : va_G} (hρ : injN ρ) {p1 : Int32} {w : Wd} {rr : (Int32 × Wd)} (hD : D_X12_worth p1 w = some rr) : CtI l0 ρ cs G y_X12_worth prog_14_method_55_code 4 .int 86 [.ref (ρ 119), .int p1] w rr.1 rr.2 := by
  refine ctI_of hρ (by decide) (Nat.le_of_ble_eq_true rfl) (fun X hn h hR => ?_)
  unfold D_X12_worth at hD
  show gG ρ cs G X 0 [(0, .ref (ρ 119)), (1, .int p1)] [] w
  refine g_aload_n h 0 t_X12_worth_0 rfl ?_
  refine g_iconst (v := 0) h t_X12_worth_1 (by decide) ?_
  refine g_putI h 119 7 fl_12_109 fp_12_7 rfl (by decide) rfl t_X12_worth_2 hD (fun w1 hD => ?_)
  refine g_aload_n h 0 t_X12_worth_5 rfl ?_
  refine g_aload_n h 0 t_X12_worth_6 rfl ?_
  refine g_getR h 119 0 120 fl_12_9 rfl (by decide) rfl t_X12_worth_7 ?_
  refine g_iload_n h 1 t_X12_worth_10 rfl ?_
  refine g_callVI h 119 (As := [.ref (ρ 120), .int p1]) (st := []) my_X12_refuses mi_X12_refuses ml_12_264 rfl (by decide) rfl rfl rfl (Nat.le_of_ble_eq_true rfl) (by decide) t_X12_worth_11 hD (fun _ _ e => S_X12_refuses hρ (by decide) e) (fun x3 w2 hD => ?_)
  refine g_istore_n (L' := [(2, .int x3), (0, .ref (ρ 119)), (1, .int p1)]) h hn t_X12_worth_14 rfl (by decide) rfl ?_
  refine g_iload_n h 0 t_X12_worth_15 rfl ?_
  refine g_if_ge (tgt := 21) h t_X12_worth_16 (by decide) hD (fun hD => ?_) (fun hD => ?_)
  · refine g_aload_n h 1 t_X12_worth_21 rfl ?_
    refine g_aload_n h 1 t_X12_worth_22 rfl ?_
    refine g_getR h 119 0 120 fl_12_9 rfl (by decide) rfl t_X12_worth_23 ?_
    refine g_iload_n h 2 t_X12_worth_26 rfl ?_
    refine g_callVI h 119 (As := [.ref (ρ 120), .int p1]) (st := []) my_X12_worthOf mi_X12_worthOf ml_12_279 rfl (by decide) rfl rfl rfl (Nat.le_of_ble_eq_true rfl) (by decide) t_X12_worth_27 hD (fun _ _ e => S_X12_worthOf hρ (by decide) e) (fun x5 w4 hD => ?_)
    refine g_istore_n (L' := [(3, .int x5), (2, .int x3), (0, .ref (ρ 119)), (1, .int p1)]) h hn t_X12_worth_30 rfl (by decide) rfl ?_
    refine g_aload_n h 2 t_X12_worth_31 rfl ?_
    refine g_iconst (v := 0) h t_X12_worth_32 (by decide) ?_
    refine g_putI h 119 6 fl_12_112 fp_12_6 rfl (by decide) rfl t_X12_worth_33 hD (fun w6 hD => ?_)
    refine g_aload_n h 2 t_X12_worth_36 rfl ?_
    refine g_iload_n h 0 t_X12_worth_37 rfl ?_
    refine g_i2l h t_X12_worth_38 ?_
    refine g_callVV h 119 (As := [.long x5.toInt64]) (st := []) my_X12_tell mi_X12_tell ml_12_260 rfl (by decide) rfl rfl rfl (Nat.le_of_ble_eq_true rfl) (by decide) t_X12_worth_39 hD (fun _ e => S_X12_tell hρ  e) (fun w7 hD => ?_)
    refine g_iconst (v := 0) h t_X12_worth_42 (by decide) ?_
    obtain rfl := Option.some.inj hD
    exact hR _ _ t_X12_worth_43 rfl
  · refine g_iload_n h 0 t_X12_worth_19 rfl ?_
    obtain rfl := Option.some.inj hD
    exact hR _ _ t_X12_worth_20 rfl
def D_X12_best  : Wd → Option (Int32 × Wd) := fun w =>
  bd (wI w 119 7 0) fun w1 => bc (D_X12_isOver 120 w1) fun x3 w2 => if x3 = 0 then (bc (D_X12_bestOf 120 w2) fun x5 w4 => bd (wI w4 119 6 0) fun w6 => bc (D_X12_worthOf 120 x5 w6) fun x8 w7 => bv (D_X12_tell x8.toInt64 w7) fun w9 => some (x5, w9)) else (some ((-2), w2))
set_option maxRecDepth 20000 in
theorem S_X12_best {l0 : Launch} {ρ : Nat → Nat} {cs : Nat → ClassId} {G : va_G} (hρ : injN ρ)  {w : Wd} {rr : (Int32 × Wd)} (hD : D_X12_best w = some rr) : CtI l0 ρ cs G y_X12_best prog_14_method_56_code 2 .int 87 [.ref (ρ 119)] w rr.1 rr.2 := by
  refine ctI_of hρ (by decide) (Nat.le_of_ble_eq_true rfl) (fun X hn h hR => ?_)
  unfold D_X12_best at hD
  show gG ρ cs G X 0 [(0, .ref (ρ 119))] [] w
  refine g_aload_n h 0 t_X12_best_0 rfl ?_
  refine g_iconst (v := 0) h t_X12_best_1 (by decide) ?_
  refine g_putI h 119 7 fl_12_109 fp_12_7 rfl (by decide) rfl t_X12_best_2 hD (fun w1 hD => ?_)
  refine g_aload_n h 0 t_X12_best_5 rfl ?_
  refine g_aload_n h 0 t_X12_best_6 rfl ?_
  refine g_getR h 119 0 120 fl_12_9 rfl (by decide) rfl t_X12_best_7 ?_
  refine g_callVI h 119 (As := [.ref (ρ 120)]) (st := []) my_X12_isOver mi_X12_isOver ml_12_282 rfl (by decide) rfl rfl rfl (Nat.le_of_ble_eq_true rfl) (by decide) t_X12_best_10 hD (fun _ _ e => S_X12_isOver hρ (by decide) e) (fun x3 w2 hD => ?_)
  refine g_if_eq (tgt := 19) h t_X12_best_13 (by decide) hD (fun hD => ?_) (fun hD => ?_)
  · refine g_aload_n h 0 t_X12_best_19 rfl ?_
    refine g_aload_n h 0 t_X12_best_20 rfl ?_
    refine g_getR h 119 0 120 fl_12_9 rfl (by decide) rfl t_X12_best_21 ?_
    refine g_callVI h 119 (As := [.ref (ρ 120)]) (st := []) my_X12_bestOf mi_X12_bestOf ml_12_286 rfl (by decide) rfl rfl rfl (Nat.le_of_ble_eq_true rfl) (by decide) t_X12_best_24 hD (fun _ _ e => S_X12_bestOf hρ (by decide) e) (fun x5 w4 hD => ?_)
    refine g_istore_n (L' := [(1, .int x5), (0, .ref (ρ 119))]) h hn t_X12_best_27 rfl (by decide) rfl ?_
    refine g_aload_n h 1 t_X12_best_28 rfl ?_
    refine g_iconst (v := 0) h t_X12_best_29 (by decide) ?_
    refine g_putI h 119 6 fl_12_112 fp_12_6 rfl (by decide) rfl t_X12_best_30 hD (fun w6 hD => ?_)
    refine g_aload_n h 1 t_X12_best_33 rfl ?_
    refine g_aload_n h 1 t_X12_best_34 rfl ?_
    refine g_aload_n h 1 t_X12_best_35 rfl ?_
    refine g_getR h 119 0 120 fl_12_9 rfl (by decide) rfl t_X12_best_36 ?_
    refine g_iload_n h 0 t_X12_best_39 rfl ?_
    refine g_callVI h 119 (As := [.ref (ρ 120), .int x5]) (st := [.ref (ρ 119)]) my_X12_worthOf mi_X12_worthOf ml_12_279 rfl (by decide) rfl rfl rfl (Nat.le_of_ble_eq_true rfl) (by decide) t_X12_best_40 hD (fun _ _ e => S_X12_worthOf hρ (by decide) e) (fun x8 w7 hD => ?_)
    refine g_i2l h t_X12_best_43 ?_
    refine g_callVV h 119 (As := [.long x8.toInt64]) (st := []) my_X12_tell mi_X12_tell ml_12_260 rfl (by decide) rfl rfl rfl (Nat.le_of_ble_eq_true rfl) (by decide) t_X12_best_44 hD (fun _ e => S_X12_tell hρ  e) (fun w9 hD => ?_)
    refine g_iload_n h 0 t_X12_best_47 rfl ?_
    obtain rfl := Option.some.inj hD
    exact hR _ _ t_X12_best_48 rfl
  · refine g_bipush (v := (-2)) h t_X12_best_16 (by decide) ?_
    obtain rfl := Option.some.inj hD
    exact hR _ _ t_X12_best_18 rfl
def J_X12_mostOf_j68_1 (r9 : Int32 → Int32 → Wd → Option (Int32 × Wd)) (x6 : Int32) : Int32 → Wd → Option (Int32 × Wd) := fun x10 w11 =>
  bd (x6 + 1) fun x13 => r9 x10 x13 w11
def L_X12_mostOf_9 (q2 : Nat) (k3 : Int32 → Wd → Option (Int32 × Wd)) : Nat → Int32 → Int32 → Wd → Option (Int32 × Wd)
  | 0, _, _, _ => none
  | n4 + 1, x5, x6, w7 =>
    if (w7.1 119 1) ≤ x6 then (k3 x5 w7) else (bc (D_X12_refuses q2 x6 w7) fun x9 w8 => bd (J_X12_mostOf_j68_1 (L_X12_mostOf_9 q2 k3 n4) x6) fun k12 => if 0 ≤ x9 then (bv (D_X12_lay q2 130 0 w8) fun w14 => bv (D_X12_goMove 130 x6 w14) fun w15 => if x5 < (w15.1 119 19) then (bd (w15.1 119 19) fun x16 => bd (wI w15 119 28 x6) fun w17 => k12 x16 w17) else (k12 x5 w15)) else (k12 x5 w8))
def J_X12_mostOf_x74_2  : Int32 → Wd → Option (Int32 × Wd) := fun x18 w19 =>
  some (imax 0 x18, w19)
def D_X12_mostOf (o1 : Nat) : Wd → Option (Int32 × Wd) := fun w =>
  bd (wI w 119 28 (-1)) fun w1 => L_X12_mostOf_9 o1 J_X12_mostOf_x74_2 FU (-1) 0 w1
set_option maxRecDepth 20000 in
theorem Q_X12_mostOf_9 {l0 : Launch} {ρ : Nat → Nat} {cs : Nat → ClassId} {G : va_G} {X : Cx} (hρ : injN ρ) (hn : X.2.2.2.2.2.2.2.2.2.2.1 = 4) (h : Okx l0 ρ cs G X prog_14_method_57_code "SowingBoardsModel" 4) {rr : (Int32 × Wd)} (hR : ∀ pc L, decode prog_14_method_57_code pc = .ok (.ireturn, 1) → narrow .int (.int rr.1) = .int rr.1 → gG ρ cs G X pc L [.int rr.1] rr.2) {q2 : Nat} (hq2 : isIA q2) {k3 : Int32 → Wd → Option (Int32 × Wd)} (hk3 : ∀ (z2 : Int32) (w1 : Wd), k3 z2 w1 = some rr → gG ρ cs G X 74 [(2, .int z2)] [] w1) : ∀ (n : Nat) (x5 : Int32) (x6 : Int32) (w : Wd), L_X12_mostOf_9 q2 k3 n x5 x6 w = some rr → gG ρ cs G X 9 [(0, .ref (ρ 119)), (1, .ref (ρ q2)), (2, .int x5), (3, .int x6)] [] w := by
  intro n
  induction n with
  | zero =>
    intro x5 x6 w hD
    cases hD
  | succ n4 ih =>
    intro x5 x6 w7 hD
    unfold L_X12_mostOf_9 at hD
    refine g_iload_n h 3 t_X12_mostOf_9 rfl ?_
    refine g_aload_n h 0 t_X12_mostOf_10 rfl ?_
    refine g_getI h 119 1 fl_12_13 rfl (by decide) rfl t_X12_mostOf_11 ?_
    refine g_icmp_ge (tgt := 74) h t_X12_mostOf_14 (by decide) hD (fun hD => ?_) (fun hD => ?_)
    · refine g_loc (L' := [(2, .int x5)]) h [2] rfl ?_
      exact hk3 x5 _ hD
    · refine g_aload_n h 0 t_X12_mostOf_17 rfl ?_
      refine g_aload_n h 1 t_X12_mostOf_18 rfl ?_
      refine g_iload_n h 3 t_X12_mostOf_19 rfl ?_
      refine g_callVI h 119 (As := [.ref (ρ q2), .int x6]) (st := []) my_X12_refuses mi_X12_refuses ml_12_264 rfl (by decide) rfl rfl rfl (Nat.le_of_ble_eq_true rfl) (by decide) t_X12_mostOf_20 hD (fun _ _ e => S_X12_refuses hρ hq2 e) (fun x9 w8 hD => ?_)
      refine g_join (P := fun k12 => ∀ (x10 : Int32) (w11 : Wd), k12 x10 w11 = some rr → gG ρ cs G X 68 [(0, .ref (ρ 119)), (1, .ref (ρ q2)), (2, .int x10), (3, .int x6)] [] w11) hD ?_ (fun k12 hk12 hD => ?_)
      · intro x10 w11 hD
        unfold J_X12_mostOf_j68_1 at hD
        obtain ⟨x13, ex13, hD⟩ := bd_ex hD
        refine g_iinc (v := x13) (L' := [(3, .int x13), (0, .ref (ρ 119)), (1, .ref (ρ q2)), (2, .int x10)]) h hn t_X12_mostOf_68 (k := 3) rfl (by rw [ex13]; rfl) (by decide) rfl ?_
        refine g_goto (tgt := 9) h t_X12_mostOf_71 (by decide) ?_
        refine g_loc (L' := [(0, .ref (ρ 119)), (1, .ref (ρ q2)), (2, .int x10), (3, .int x13)]) h [1, 2, 3, 0] rfl ?_
        exact ih x10 x13 _ hD
      · refine g_if_ge (tgt := 29) h t_X12_mostOf_23 (by decide) hD (fun hD => ?_) (fun hD => ?_)
        · refine g_aload_n h 1 t_X12_mostOf_29 rfl ?_
          refine g_aload_n h 0 t_X12_mostOf_30 rfl ?_
          refine g_getR h 119 26 130 fl_12_49 rfl (by decide) rfl t_X12_mostOf_31 ?_
          refine g_iconst (v := 0) h t_X12_mostOf_34 (by decide) ?_
          refine g_callSV h (As := [.ref (ρ q2), .ref (ρ 130), .int 0]) (st := []) my_X12_lay ms_X12_lay ml_12_256 rfl rfl (Nat.le_of_ble_eq_true rfl) (by decide) t_X12_mostOf_35 hD (fun _ e => S_X12_lay hρ hq2 (by decide) e) (fun w14 hD => ?_)
          refine g_aload_n h 0 t_X12_mostOf_38 rfl ?_
          refine g_aload_n h 0 t_X12_mostOf_39 rfl ?_
          refine g_getR h 119 26 130 fl_12_49 rfl (by decide) rfl t_X12_mostOf_40 ?_
          refine g_iload_n h 3 t_X12_mostOf_43 rfl ?_
          refine g_callVV h 119 (As := [.ref (ρ 130), .int x6]) (st := []) my_X12_goMove mi_X12_goMove ml_12_272 rfl (by decide) rfl rfl rfl (Nat.le_of_ble_eq_true rfl) (by decide) t_X12_mostOf_44 hD (fun _ e => S_X12_goMove hρ (by decide) e) (fun w15 hD => ?_)
          refine g_aload_n h 0 t_X12_mostOf_47 rfl ?_
          refine g_getI h 119 19 fl_12_253 rfl (by decide) rfl t_X12_mostOf_48 ?_
          refine g_iload_n h 2 t_X12_mostOf_51 rfl ?_
          refine g_icmp_gt (tgt := 58) h t_X12_mostOf_52 (by decide) hD (fun hD => ?_) (fun hD => ?_)
          · refine g_aload_n h 0 t_X12_mostOf_58 rfl ?_
            refine g_getI h 119 19 fl_12_253 rfl (by decide) rfl t_X12_mostOf_59 ?_
            refine g_bdI hD (fun x16 hD => ?_)
            refine g_istore_n (L' := [(2, .int x16), (0, .ref (ρ 119)), (1, .ref (ρ q2)), (3, .int x6)]) h hn t_X12_mostOf_62 rfl (by decide) rfl ?_
            refine g_aload_n h 1 t_X12_mostOf_63 rfl ?_
            refine g_iload_n h 3 t_X12_mostOf_64 rfl ?_
            refine g_putI h 119 28 fl_12_296 fp_12_28 rfl (by decide) rfl t_X12_mostOf_65 hD (fun w17 hD => ?_)
            refine g_loc (L' := [(0, .ref (ρ 119)), (1, .ref (ρ q2)), (2, .int x16), (3, .int x6)]) h [1, 2, 0, 3] rfl ?_
            exact hk12 x16 _ hD
          · refine g_goto (tgt := 68) h t_X12_mostOf_55 (by decide) ?_
            refine g_loc (L' := [(0, .ref (ρ 119)), (1, .ref (ρ q2)), (2, .int x5), (3, .int x6)]) h [0, 1, 2, 3] rfl ?_
            exact hk12 x5 _ hD
        · refine g_goto (tgt := 68) h t_X12_mostOf_26 (by decide) ?_
          refine g_loc (L' := [(0, .ref (ρ 119)), (1, .ref (ρ q2)), (2, .int x5), (3, .int x6)]) h [0, 1, 2, 3] rfl ?_
          exact hk12 x5 _ hD
set_option maxRecDepth 20000 in
theorem S_X12_mostOf {l0 : Launch} {ρ : Nat → Nat} {cs : Nat → ClassId} {G : va_G} (hρ : injN ρ) {o1 : Nat} (ho1 : isIA o1) {w : Wd} {rr : (Int32 × Wd)} (hD : D_X12_mostOf o1 w = some rr) : CtI l0 ρ cs G y_X12_mostOf prog_14_method_57_code 4 .int 4 [.ref (ρ 119), .ref (ρ o1)] w rr.1 rr.2 := by
  refine ctI_of hρ (by decide) (Nat.le_of_ble_eq_true rfl) (fun X hn h hR => ?_)
  unfold D_X12_mostOf at hD
  show gG ρ cs G X 0 [(0, .ref (ρ 119)), (1, .ref (ρ o1))] [] w
  refine g_iconst (v := (-1)) h t_X12_mostOf_0 (by decide) ?_
  refine g_istore_n (L' := [(2, .int (-1)), (0, .ref (ρ 119)), (1, .ref (ρ o1))]) h hn t_X12_mostOf_1 rfl (by decide) rfl ?_
  refine g_aload_n h 1 t_X12_mostOf_2 rfl ?_
  refine g_iconst (v := (-1)) h t_X12_mostOf_3 (by decide) ?_
  refine g_putI h 119 28 fl_12_296 fp_12_28 rfl (by decide) rfl t_X12_mostOf_4 hD (fun w1 hD => ?_)
  refine g_iconst (v := 0) h t_X12_mostOf_7 (by decide) ?_
  refine g_istore_n (L' := [(3, .int 0), (2, .int (-1)), (0, .ref (ρ 119)), (1, .ref (ρ o1))]) h hn t_X12_mostOf_8 rfl (by decide) rfl ?_
  refine g_loc (L' := [(0, .ref (ρ 119)), (1, .ref (ρ o1)), (2, .int (-1)), (3, .int 0)]) h [2, 3, 1, 0] rfl ?_
  refine Q_X12_mostOf_9 hρ hn h hR ho1 ?_ _ _ _ _ hD
  · intro x18 w19 hD
    unfold J_X12_mostOf_x74_2 at hD
    refine g_iconst (v := 0) h t_X12_mostOf_74 (by decide) ?_
    refine g_iload_n h 0 t_X12_mostOf_75 rfl ?_
    refine g_mmax h (st := []) (vtb_at 1619 (by decide +kernel) rfl) (Nat.le_of_ble_eq_true rfl) t_X12_mostOf_76 ?_
    obtain rfl := Option.some.inj hD
    exact hR _ _ t_X12_mostOf_79 rfl
def D_X12_most  : Wd → Option (Int32 × Wd) := fun w =>
  bd (wI w 119 7 0) fun w1 => bc (D_X12_isOver 120 w1) fun x3 w2 => if x3 = 0 then (bc (D_X12_mostOf 120 w2) fun x5 w4 => bd (wI w4 119 6 0) fun w6 => bv (D_X12_tell ((w6.1 119 28).toInt64) w6) fun w7 => some (x5, w7)) else (some ((-2), w2))
set_option maxRecDepth 20000 in
theorem S_X12_most {l0 : Launch} {ρ : Nat → Nat} {cs : Nat → ClassId} {G : va_G} (hρ : injN ρ)  {w : Wd} {rr : (Int32 × Wd)} (hD : D_X12_most w = some rr) : CtI l0 ρ cs G y_X12_most prog_14_method_58_code 2 .int 5 [.ref (ρ 119)] w rr.1 rr.2 := by
  refine ctI_of hρ (by decide) (Nat.le_of_ble_eq_true rfl) (fun X hn h hR => ?_)
  unfold D_X12_most at hD
  show gG ρ cs G X 0 [(0, .ref (ρ 119))] [] w
  refine g_aload_n h 0 t_X12_most_0 rfl ?_
  refine g_iconst (v := 0) h t_X12_most_1 (by decide) ?_
  refine g_putI h 119 7 fl_12_109 fp_12_7 rfl (by decide) rfl t_X12_most_2 hD (fun w1 hD => ?_)
  refine g_aload_n h 0 t_X12_most_5 rfl ?_
  refine g_aload_n h 0 t_X12_most_6 rfl ?_
  refine g_getR h 119 0 120 fl_12_9 rfl (by decide) rfl t_X12_most_7 ?_
  refine g_callVI h 119 (As := [.ref (ρ 120)]) (st := []) my_X12_isOver mi_X12_isOver ml_12_282 rfl (by decide) rfl rfl rfl (Nat.le_of_ble_eq_true rfl) (by decide) t_X12_most_10 hD (fun _ _ e => S_X12_isOver hρ (by decide) e) (fun x3 w2 hD => ?_)
  refine g_if_eq (tgt := 19) h t_X12_most_13 (by decide) hD (fun hD => ?_) (fun hD => ?_)
  · refine g_aload_n h 0 t_X12_most_19 rfl ?_
    refine g_aload_n h 0 t_X12_most_20 rfl ?_
    refine g_getR h 119 0 120 fl_12_9 rfl (by decide) rfl t_X12_most_21 ?_
    refine g_callVI h 119 (As := [.ref (ρ 120)]) (st := []) my_X12_mostOf mi_X12_mostOf ml_12_299 rfl (by decide) rfl rfl rfl (Nat.le_of_ble_eq_true rfl) (by decide) t_X12_most_24 hD (fun _ _ e => S_X12_mostOf hρ (by decide) e) (fun x5 w4 hD => ?_)
    refine g_istore_n (L' := [(1, .int x5), (0, .ref (ρ 119))]) h hn t_X12_most_27 rfl (by decide) rfl ?_
    refine g_aload_n h 1 t_X12_most_28 rfl ?_
    refine g_iconst (v := 0) h t_X12_most_29 (by decide) ?_
    refine g_putI h 119 6 fl_12_112 fp_12_6 rfl (by decide) rfl t_X12_most_30 hD (fun w6 hD => ?_)
    refine g_aload_n h 1 t_X12_most_33 rfl ?_
    refine g_aload_n h 1 t_X12_most_34 rfl ?_
    refine g_getI h 119 28 fl_12_296 rfl (by decide) rfl t_X12_most_35 ?_
    refine g_i2l h t_X12_most_38 ?_
    refine g_callVV h 119 (As := [.long ((w6.1 119 28).toInt64)]) (st := []) my_X12_tell mi_X12_tell ml_12_260 rfl (by decide) rfl rfl rfl (Nat.le_of_ble_eq_true rfl) (by decide) t_X12_most_39 hD (fun _ e => S_X12_tell hρ  e) (fun w7 hD => ?_)
    refine g_iload_n h 0 t_X12_most_42 rfl ?_
    obtain rfl := Option.some.inj hD
    exact hR _ _ t_X12_most_43 rfl
  · refine g_bipush (v := (-2)) h t_X12_most_16 (by decide) ?_
    obtain rfl := Option.some.inj hD
    exact hR _ _ t_X12_most_18 rfl
def J_X12_goChain_j177_1 (r90 : Int32 → Wd → Option Wd) (x10 : Int32) : Wd → Option Wd := fun w15 =>
  bd (x10 + 1) fun x17 => r90 x17 w15
def L_X12_goChain_90 (rec : Int32 → Int32 → Int32 → Int32 → Wd → Option Wd) (x4 : Int32) (x5 : Int32) (x6 : Int32) (x7 : Int32) (k8 : Wd → Option Wd) : Nat → Int32 → Wd → Option Wd
  | 0, _, _ => none
  | n9 + 1, x10, w11 =>
    if (w11.1 119 1) ≤ x10 then (k8 w11) else (if ib x5 7 then bd (133 + x5.toNatClampNeg) (fun q12 => bc (D_X12_refuses q12 x10 w11) fun x14 w13 => bd (J_X12_goChain_j177_1 (L_X12_goChain_90 rec x4 x5 x6 x7 k8 n9) x10) fun k16 => if 0 ≤ x14 then (if ib x5 7 then bd (133 + x5.toNatClampNeg) (fun q18 => if ib (x5 + 1) 7 then bd (133 + (x5 + 1).toNatClampNeg) (fun q19 => bv (D_X12_lay q18 q19 0 w13) fun w20 => if ib (x5 + 1) 7 then bd (133 + (x5 + 1).toNatClampNeg) (fun q21 => bv (D_X12_goMove q21 x10 w20) fun w22 => bd (w22.1 119 19) fun x23 => if ib x5 7 then bd (wI w22 140 x5.toNatClampNeg x10) (fun w24 => bv (rec x4 (x5 + 1) (x6 + x23) x7 w24) fun w25 => k16 w25) else none) else none) else none) else none) else (k16 w13)) else none)
def J_X12_goChain_x183_2  : Wd → Option Wd := fun w26 =>
  some w26
def L_X12_goChain_41 (rec : Int32 → Int32 → Int32 → Int32 → Wd → Option Wd) (x31 : Int32) (x32 : Int32) (x33 : Int32) (x34 : Int32) (k35 : Wd → Option Wd) : Nat → Int32 → Wd → Option Wd
  | 0, _, _ => none
  | n36 + 1, x37, w38 =>
    if x32 ≤ x37 then (k35 w38) else (if ib x37 7 then (if ib x37 7 then bd (wI w38 141 x37.toNatClampNeg (w38.1 140 x37.toNatClampNeg)) (fun w39 => bd (x37 + 1) fun x40 => L_X12_goChain_41 rec x31 x32 x33 x34 k35 n36 x40 w39) else none) else none)
def J_X12_goChain_x67_3 (k2 : Wd → Option Wd) : Wd → Option Wd := fun w41 =>
  k2 w41
def J_X12_goChain_j28_4 (p2 : Int32) (p3 : Int32) (rec : Int32 → Int32 → Int32 → Int32 → Wd → Option Wd) (p1 : Int32) (p4 : Int32) (k2 : Wd → Option Wd) : Wd → Option Wd := fun w27 =>
  bd (wI w27 119 32 p2) fun w29 => bd (wI w29 119 33 p3) fun w30 => L_X12_goChain_41 rec p1 p2 p3 p4 (J_X12_goChain_x67_3 k2) FU 0 w30
def J_X12_goChain_j67_5 (p2 : Int32) (p1 : Int32) (rec : Int32 → Int32 → Int32 → Int32 → Wd → Option Wd) (p3 : Int32) (p4 : Int32) : Wd → Option Wd := fun w1 =>
  if p2 = 6 then (some w1) else (if ib p2 7 then bd (133 + p2.toNatClampNeg) (fun q3 => if ib 14 (ln q3) then (if (w1.1 q3 (14 : Int32).toNatClampNeg) = p1 then (L_X12_goChain_90 rec p1 p2 p3 p4 J_X12_goChain_x183_2 FU 0 w1) else (some w1)) else none) else none)
def B_X12_goChain (rec : Int32 → Int32 → Int32 → Int32 → Wd → Option Wd) (p1 : Int32) (p2 : Int32) (p3 : Int32) (p4 : Int32) : Wd → Option Wd := fun w =>
  bd (J_X12_goChain_j67_5 p2 p1 rec p3 p4) fun k2 => if p2 ≤ 0 then (k2 w) else (bd (J_X12_goChain_j28_4 p2 p3 rec p1 p4 k2) fun k28 => if p4 = 0 then (if p3 ≤ (w.1 119 33) then (k2 w) else (k28 w)) else (if p2 ≤ (w.1 119 32) then (k2 w) else (k28 w)))
set_option maxRecDepth 20000 in
theorem Q_X12_goChain_90 {l0 : Launch} {ρ : Nat → Nat} {cs : Nat → ClassId} {G : va_G} {X : Cx} (hρ : injN ρ) {rec : Int32 → Int32 → Int32 → Int32 → Wd → Option Wd} {dr d : Nat} (hdr : dr < d) (hbd : 4 ≤ d) (hrec : (∀ {p1 : Int32} {p2 : Int32} {p3 : Int32} {p4 : Int32} {w : Wd} {rr : Wd}, rec p1 p2 p3 p4 w = some rr → CtV l0 ρ cs G y_X12_goChain prog_14_method_59_code 7 dr [.ref (ρ 119), .int p1, .int p2, .int p3, .int p4] w rr)) (hn : X.2.2.2.2.2.2.2.2.2.2.1 = 7) (h : Okx l0 ρ cs G X prog_14_method_59_code "SowingBoardsModel" d) {rr : Wd} (hR : ∀ pc L, decode prog_14_method_59_code pc = .ok (.return_, 1) → gG ρ cs G X pc L [] rr) {x4 : Int32} {x5 : Int32} {x6 : Int32} {x7 : Int32} {k8 : Wd → Option Wd} (hk8 : ∀ (w1 : Wd), k8 w1 = some rr → gG ρ cs G X 183 [] [] w1) : ∀ (n : Nat) (x10 : Int32) (w : Wd), L_X12_goChain_90 rec x4 x5 x6 x7 k8 n x10 w = some rr → gG ρ cs G X 90 [(0, .ref (ρ 119)), (1, .int x4), (2, .int x5), (3, .int x6), (4, .int x7), (5, .int x10)] [] w := by
  intro n
  induction n with
  | zero =>
    intro x10 w hD
    cases hD
  | succ n9 ih =>
    intro x10 w11 hD
    unfold L_X12_goChain_90 at hD
    refine g_iload h 5 t_X12_goChain_90 rfl ?_
    refine g_aload_n h 0 t_X12_goChain_92 rfl ?_
    refine g_getI h 119 1 fl_12_13 rfl (by decide) rfl t_X12_goChain_93 ?_
    refine g_icmp_ge (tgt := 183) h t_X12_goChain_96 (by decide) hD (fun hD => ?_) (fun hD => ?_)
    · refine g_loc (L' := []) h [] rfl ?_
      exact hk8 _ hD
    · refine g_aload_n h 0 t_X12_goChain_99 rfl ?_
      refine g_aload_n h 0 t_X12_goChain_100 rfl ?_
      refine g_getR h 119 29 132 fl_12_57 rfl (by decide) rfl t_X12_goChain_101 ?_
      refine g_iload_n h 2 t_X12_goChain_104 rfl ?_
      refine g_rald h 132 rfl (by decide) t_X12_goChain_105 hD (fun q12 eq12 lq12 hD => ?_)
      have hq12 : isIA q12 := iaA (f := 133) (by decide) eq12 lq12
      refine g_iload h 5 t_X12_goChain_106 rfl ?_
      refine g_callVI h 119 (As := [.ref (ρ q12), .int x10]) (st := []) my_X12_refuses mi_X12_refuses ml_12_264 rfl (by decide) rfl rfl rfl (Nat.le_of_ble_eq_true rfl) (by omega) t_X12_goChain_108 hD (fun _ _ e => S_X12_refuses hρ hq12 e) (fun x14 w13 hD => ?_)
      refine g_join (P := fun k16 => ∀ (w15 : Wd), k16 w15 = some rr → gG ρ cs G X 177 [(0, .ref (ρ 119)), (1, .int x4), (2, .int x5), (3, .int x6), (4, .int x7), (5, .int x10)] [] w15) hD ?_ (fun k16 hk16 hD => ?_)
      · intro w15 hD
        unfold J_X12_goChain_j177_1 at hD
        obtain ⟨x17, ex17, hD⟩ := bd_ex hD
        refine g_iinc (v := x17) (L' := [(5, .int x17), (0, .ref (ρ 119)), (1, .int x4), (2, .int x5), (3, .int x6), (4, .int x7)]) h hn t_X12_goChain_177 (k := 5) rfl (by rw [ex17]; rfl) (by decide) rfl ?_
        refine g_goto (tgt := 90) h t_X12_goChain_180 (by decide) ?_
        refine g_loc (L' := [(0, .ref (ρ 119)), (1, .int x4), (2, .int x5), (3, .int x6), (4, .int x7), (5, .int x17)]) h [1, 2, 3, 4, 5, 0] rfl ?_
        exact ih x17 _ hD
      · refine g_if_ge (tgt := 117) h t_X12_goChain_111 (by decide) hD (fun hD => ?_) (fun hD => ?_)
        · refine g_aload_n h 0 t_X12_goChain_117 rfl ?_
          refine g_getR h 119 29 132 fl_12_57 rfl (by decide) rfl t_X12_goChain_118 ?_
          refine g_iload_n h 2 t_X12_goChain_121 rfl ?_
          refine g_rald h 132 rfl (by decide) t_X12_goChain_122 hD (fun q18 eq18 lq18 hD => ?_)
          have hq18 : isIA q18 := iaA (f := 133) (by decide) eq18 lq18
          refine g_aload_n h 0 t_X12_goChain_123 rfl ?_
          refine g_getR h 119 29 132 fl_12_57 rfl (by decide) rfl t_X12_goChain_124 ?_
          refine g_iload_n h 2 t_X12_goChain_127 rfl ?_
          refine g_iconst (v := 1) h t_X12_goChain_128 (by decide) ?_
          refine g_iadd h t_X12_goChain_129 ?_
          refine g_rald h 132 rfl (by decide) t_X12_goChain_130 hD (fun q19 eq19 lq19 hD => ?_)
          have hq19 : isIA q19 := iaA (f := 133) (by decide) eq19 lq19
          refine g_iconst (v := 0) h t_X12_goChain_131 (by decide) ?_
          refine g_callSV h (As := [.ref (ρ q18), .ref (ρ q19), .int 0]) (st := []) my_X12_lay ms_X12_lay ml_12_256 rfl rfl (Nat.le_of_ble_eq_true rfl) (by omega) t_X12_goChain_132 hD (fun _ e => S_X12_lay hρ hq18 hq19 e) (fun w20 hD => ?_)
          refine g_aload_n h 0 t_X12_goChain_135 rfl ?_
          refine g_aload_n h 0 t_X12_goChain_136 rfl ?_
          refine g_getR h 119 29 132 fl_12_57 rfl (by decide) rfl t_X12_goChain_137 ?_
          refine g_iload_n h 2 t_X12_goChain_140 rfl ?_
          refine g_iconst (v := 1) h t_X12_goChain_141 (by decide) ?_
          refine g_iadd h t_X12_goChain_142 ?_
          refine g_rald h 132 rfl (by decide) t_X12_goChain_143 hD (fun q21 eq21 lq21 hD => ?_)
          have hq21 : isIA q21 := iaA (f := 133) (by decide) eq21 lq21
          refine g_iload h 5 t_X12_goChain_144 rfl ?_
          refine g_callVV h 119 (As := [.ref (ρ q21), .int x10]) (st := []) my_X12_goMove mi_X12_goMove ml_12_272 rfl (by decide) rfl rfl rfl (Nat.le_of_ble_eq_true rfl) (by omega) t_X12_goChain_146 hD (fun _ e => S_X12_goMove hρ hq21 e) (fun w22 hD => ?_)
          refine g_aload_n h 0 t_X12_goChain_149 rfl ?_
          refine g_getI h 119 19 fl_12_253 rfl (by decide) rfl t_X12_goChain_150 ?_
          refine g_bdI hD (fun x23 hD => ?_)
          refine g_istore (L' := [(6, .int x23), (0, .ref (ρ 119)), (1, .int x4), (2, .int x5), (3, .int x6), (4, .int x7), (5, .int x10)]) h hn t_X12_goChain_153 (by decide) rfl ?_
          refine g_aload_n h 1 t_X12_goChain_155 rfl ?_
          refine g_getR h 119 30 140 fl_12_60 rfl (by decide) rfl t_X12_goChain_156 ?_
          refine g_iload_n h 3 t_X12_goChain_159 rfl ?_
          refine g_iload h 6 t_X12_goChain_160 rfl ?_
          refine g_iast h 140 rfl (by decide) t_X12_goChain_162 hD (fun w24 hD => ?_)
          refine g_aload_n h 1 t_X12_goChain_163 rfl ?_
          refine g_iload_n h 2 t_X12_goChain_164 rfl ?_
          refine g_iload_n h 3 t_X12_goChain_165 rfl ?_
          refine g_iconst (v := 1) h t_X12_goChain_166 (by decide) ?_
          refine g_iadd h t_X12_goChain_167 ?_
          refine g_iload_n h 4 t_X12_goChain_168 rfl ?_
          refine g_iload h 0 t_X12_goChain_169 rfl ?_
          refine g_iadd h t_X12_goChain_171 ?_
          refine g_iload h 5 t_X12_goChain_172 rfl ?_
          refine g_callVV h 119 (As := [.int x4, .int (x5 + 1), .int (x6 + x23), .int x7]) (st := []) my_X12_goChain mi_X12_goChain ml_12_308 rfl (by decide) rfl rfl rfl (Nat.le_of_ble_eq_true rfl) (by omega) t_X12_goChain_174 hD (fun _ e => hrec  e) (fun w25 hD => ?_)
          refine g_loc (L' := [(0, .ref (ρ 119)), (1, .int x4), (2, .int x5), (3, .int x6), (4, .int x7), (5, .int x10)]) h [1, 2, 3, 4, 5, 6] rfl ?_
          exact hk16 _ hD
        · refine g_goto (tgt := 177) h t_X12_goChain_114 (by decide) ?_
          refine g_loc (L' := [(0, .ref (ρ 119)), (1, .int x4), (2, .int x5), (3, .int x6), (4, .int x7), (5, .int x10)]) h [0, 1, 2, 3, 4, 5] rfl ?_
          exact hk16 _ hD
set_option maxRecDepth 20000 in
theorem Q_X12_goChain_41 {l0 : Launch} {ρ : Nat → Nat} {cs : Nat → ClassId} {G : va_G} {X : Cx} (hρ : injN ρ) {rec : Int32 → Int32 → Int32 → Int32 → Wd → Option Wd} {dr d : Nat} (hdr : dr < d) (hbd : 4 ≤ d) (hrec : (∀ {p1 : Int32} {p2 : Int32} {p3 : Int32} {p4 : Int32} {w : Wd} {rr : Wd}, rec p1 p2 p3 p4 w = some rr → CtV l0 ρ cs G y_X12_goChain prog_14_method_59_code 7 dr [.ref (ρ 119), .int p1, .int p2, .int p3, .int p4] w rr)) (hn : X.2.2.2.2.2.2.2.2.2.2.1 = 7) (h : Okx l0 ρ cs G X prog_14_method_59_code "SowingBoardsModel" d) {rr : Wd} (hR : ∀ pc L, decode prog_14_method_59_code pc = .ok (.return_, 1) → gG ρ cs G X pc L [] rr) {x31 : Int32} {x32 : Int32} {x33 : Int32} {x34 : Int32} {k35 : Wd → Option Wd} (hk35 : ∀ (w1 : Wd), k35 w1 = some rr → gG ρ cs G X 67 [(0, .ref (ρ 119)), (1, .int x31), (2, .int x32), (3, .int x33), (4, .int x34)] [] w1) : ∀ (n : Nat) (x37 : Int32) (w : Wd), L_X12_goChain_41 rec x31 x32 x33 x34 k35 n x37 w = some rr → gG ρ cs G X 41 [(0, .ref (ρ 119)), (1, .int x31), (2, .int x32), (3, .int x33), (4, .int x34), (5, .int x37)] [] w := by
  intro n
  induction n with
  | zero =>
    intro x37 w hD
    cases hD
  | succ n36 ih =>
    intro x37 w38 hD
    unfold L_X12_goChain_41 at hD
    refine g_iload h 5 t_X12_goChain_41 rfl ?_
    refine g_iload_n h 2 t_X12_goChain_43 rfl ?_
    refine g_icmp_ge (tgt := 67) h t_X12_goChain_44 (by decide) hD (fun hD => ?_) (fun hD => ?_)
    · refine g_loc (L' := [(0, .ref (ρ 119)), (1, .int x31), (2, .int x32), (3, .int x33), (4, .int x34)]) h [0, 1, 2, 3, 4] rfl ?_
      exact hk35 _ hD
    · refine g_aload_n h 0 t_X12_goChain_47 rfl ?_
      refine g_getR h 119 31 141 fl_12_63 rfl (by decide) rfl t_X12_goChain_48 ?_
      refine g_iload h 5 t_X12_goChain_51 rfl ?_
      refine g_aload_n h 0 t_X12_goChain_53 rfl ?_
      refine g_getR h 119 30 140 fl_12_60 rfl (by decide) rfl t_X12_goChain_54 ?_
      refine g_iload h 5 t_X12_goChain_57 rfl ?_
      refine g_iald h 140 rfl (by decide) t_X12_goChain_59 hD (fun hD => ?_)
      refine g_iast h 141 rfl (by decide) t_X12_goChain_60 hD (fun w39 hD => ?_)
      obtain ⟨x40, ex40, hD⟩ := bd_ex hD
      refine g_iinc (v := x40) (L' := [(5, .int x40), (0, .ref (ρ 119)), (1, .int x31), (2, .int x32), (3, .int x33), (4, .int x34)]) h hn t_X12_goChain_61 (k := 5) rfl (by rw [ex40]; rfl) (by decide) rfl ?_
      refine g_goto (tgt := 41) h t_X12_goChain_64 (by decide) ?_
      refine g_loc (L' := [(0, .ref (ρ 119)), (1, .int x31), (2, .int x32), (3, .int x33), (4, .int x34), (5, .int x40)]) h [1, 2, 3, 4, 5, 0] rfl ?_
      exact ih x40 _ hD
set_option maxRecDepth 20000 in
theorem SB_X12_goChain {l0 : Launch} {ρ : Nat → Nat} {cs : Nat → ClassId} {G : va_G} (hρ : injN ρ) {rec : Int32 → Int32 → Int32 → Int32 → Wd → Option Wd} {dr d : Nat} (hdr : dr < d) (hbd : 4 ≤ d) (hrec : (∀ {p1 : Int32} {p2 : Int32} {p3 : Int32} {p4 : Int32} {w : Wd} {rr : Wd}, rec p1 p2 p3 p4 w = some rr → CtV l0 ρ cs G y_X12_goChain prog_14_method_59_code 7 dr [.ref (ρ 119), .int p1, .int p2, .int p3, .int p4] w rr)) {p1 : Int32} {p2 : Int32} {p3 : Int32} {p4 : Int32} {w : Wd} {rr : Wd} (hD : B_X12_goChain rec p1 p2 p3 p4 w = some rr) : CtV l0 ρ cs G y_X12_goChain prog_14_method_59_code 7 d [.ref (ρ 119), .int p1, .int p2, .int p3, .int p4] w rr := by
  refine ctV_of hρ (by decide) (Nat.le_of_ble_eq_true rfl) (fun X hn h hR => ?_)
  unfold B_X12_goChain at hD
  show gG ρ cs G X 0 [(0, .ref (ρ 119)), (1, .int p1), (2, .int p2), (3, .int p3), (4, .int p4)] [] w
  refine g_iload_n h 2 t_X12_goChain_0 rfl ?_
  refine g_join (P := fun k2 => ∀ (w1 : Wd), k2 w1 = some rr → gG ρ cs G X 67 [(0, .ref (ρ 119)), (1, .int p1), (2, .int p2), (3, .int p3), (4, .int p4)] [] w1) hD ?_ (fun k2 hk2 hD => ?_)
  · intro w1 hD
    unfold J_X12_goChain_j67_5 at hD
    refine g_iload_n h 2 t_X12_goChain_67 rfl ?_
    refine g_bipush (v := 6) h t_X12_goChain_68 (by decide) ?_
    refine g_icmp_eq (tgt := 86) h t_X12_goChain_70 (by decide) hD (fun hD => ?_) (fun hD => ?_)
    · obtain rfl := Option.some.inj hD
      exact hR _ _ t_X12_goChain_86
    · refine g_aload_n h 0 t_X12_goChain_73 rfl ?_
      refine g_getR h 119 29 132 fl_12_57 rfl (by decide) rfl t_X12_goChain_74 ?_
      refine g_iload_n h 2 t_X12_goChain_77 rfl ?_
      refine g_rald h 132 rfl (by decide) t_X12_goChain_78 hD (fun q3 eq3 lq3 hD => ?_)
      have hq3 : isIA q3 := iaA (f := 133) (by decide) eq3 lq3
      refine g_bipush (v := 14) h t_X12_goChain_79 (by decide) ?_
      refine g_iald h q3 (isIA_sh hq3) (isIA_lt hq3) t_X12_goChain_81 hD (fun hD => ?_)
      refine g_iload_n h 1 t_X12_goChain_82 rfl ?_
      refine g_icmp_eq (tgt := 87) h t_X12_goChain_83 (by decide) hD (fun hD => ?_) (fun hD => ?_)
      · refine g_iconst (v := 0) h t_X12_goChain_87 (by decide) ?_
        refine g_istore (L' := [(5, .int 0), (0, .ref (ρ 119)), (1, .int p1), (2, .int p2), (3, .int p3), (4, .int p4)]) h hn t_X12_goChain_88 (by decide) rfl ?_
        refine g_loc (L' := [(0, .ref (ρ 119)), (1, .int p1), (2, .int p2), (3, .int p3), (4, .int p4), (5, .int 0)]) h [1, 2, 3, 4, 5, 0] rfl ?_
        refine Q_X12_goChain_90 hρ hdr hbd hrec hn h hR  ?_ _ _ _ hD
        · intro w26 hD
          unfold J_X12_goChain_x183_2 at hD
          obtain rfl := Option.some.inj hD
          exact hR _ _ t_X12_goChain_183
      · obtain rfl := Option.some.inj hD
        exact hR _ _ t_X12_goChain_86
  · refine g_if_le (tgt := 67) h t_X12_goChain_1 (by decide) hD (fun hD => ?_) (fun hD => ?_)
    · refine g_loc (L' := [(0, .ref (ρ 119)), (1, .int p1), (2, .int p2), (3, .int p3), (4, .int p4)]) h [0, 1, 2, 3, 4] rfl ?_
      exact hk2 _ hD
    · refine g_iload h 4 t_X12_goChain_4 rfl ?_
      refine g_join (P := fun k28 => ∀ (w27 : Wd), k28 w27 = some rr → gG ρ cs G X 28 [(0, .ref (ρ 119)), (1, .int p1), (2, .int p2), (3, .int p3), (4, .int p4)] [] w27) hD ?_ (fun k28 hk28 hD => ?_)
      · intro w27 hD
        unfold J_X12_goChain_j28_4 at hD
        refine g_aload_n h 0 t_X12_goChain_28 rfl ?_
        refine g_iload_n h 2 t_X12_goChain_29 rfl ?_
        refine g_putI h 119 32 fl_12_302 fp_12_32 rfl (by decide) rfl t_X12_goChain_30 hD (fun w29 hD => ?_)
        refine g_aload_n h 0 t_X12_goChain_33 rfl ?_
        refine g_iload_n h 3 t_X12_goChain_34 rfl ?_
        refine g_putI h 119 33 fl_12_305 fp_12_33 rfl (by decide) rfl t_X12_goChain_35 hD (fun w30 hD => ?_)
        refine g_iconst (v := 0) h t_X12_goChain_38 (by decide) ?_
        refine g_istore (L' := [(5, .int 0), (0, .ref (ρ 119)), (1, .int p1), (2, .int p2), (3, .int p3), (4, .int p4)]) h hn t_X12_goChain_39 (by decide) rfl ?_
        refine g_loc (L' := [(0, .ref (ρ 119)), (1, .int p1), (2, .int p2), (3, .int p3), (4, .int p4), (5, .int 0)]) h [1, 2, 3, 4, 5, 0] rfl ?_
        refine Q_X12_goChain_41 hρ hdr hbd hrec hn h hR  ?_ _ _ _ hD
        · intro w41 hD
          unfold J_X12_goChain_x67_3 at hD
          refine g_loc (L' := [(0, .ref (ρ 119)), (1, .int p1), (2, .int p2), (3, .int p3), (4, .int p4)]) h [0, 1, 2, 3, 4] rfl ?_
          exact hk2 _ hD
      · refine g_if_eq (tgt := 20) h t_X12_goChain_6 (by decide) hD (fun hD => ?_) (fun hD => ?_)
        · refine g_iload_n h 3 t_X12_goChain_20 rfl ?_
          refine g_aload_n h 0 t_X12_goChain_21 rfl ?_
          refine g_getI h 119 33 fl_12_305 rfl (by decide) rfl t_X12_goChain_22 ?_
          refine g_icmp_le (tgt := 67) h t_X12_goChain_25 (by decide) hD (fun hD => ?_) (fun hD => ?_)
          · refine g_loc (L' := [(0, .ref (ρ 119)), (1, .int p1), (2, .int p2), (3, .int p3), (4, .int p4)]) h [0, 1, 2, 3, 4] rfl ?_
            exact hk2 _ hD
          · refine g_loc (L' := [(0, .ref (ρ 119)), (1, .int p1), (2, .int p2), (3, .int p3), (4, .int p4)]) h [0, 1, 2, 3, 4] rfl ?_
            exact hk28 _ hD
        · refine g_iload_n h 2 t_X12_goChain_9 rfl ?_
          refine g_aload_n h 0 t_X12_goChain_10 rfl ?_
          refine g_getI h 119 32 fl_12_302 rfl (by decide) rfl t_X12_goChain_11 ?_
          refine g_icmp_le (tgt := 67) h t_X12_goChain_14 (by decide) hD (fun hD => ?_) (fun hD => ?_)
          · refine g_loc (L' := [(0, .ref (ρ 119)), (1, .int p1), (2, .int p2), (3, .int p3), (4, .int p4)]) h [0, 1, 2, 3, 4] rfl ?_
            exact hk2 _ hD
          · refine g_goto (tgt := 28) h t_X12_goChain_17 (by decide) ?_
            refine g_loc (L' := [(0, .ref (ρ 119)), (1, .int p1), (2, .int p2), (3, .int p3), (4, .int p4)]) h [0, 1, 2, 3, 4] rfl ?_
            exact hk28 _ hD
def E_X12_goChain : Nat → Int32 → Int32 → Int32 → Int32 → Wd → Option Wd
  | 0, _, _, _, _, _ => none
  | n + 1, p1, p2, p3, p4, w => B_X12_goChain (fun p1 p2 p3 p4 w => E_X12_goChain n p1 p2 p3 p4 w) p1 p2 p3 p4 w
set_option maxRecDepth 20000 in
theorem SE_X12_goChain {l0 : Launch} {ρ : Nat → Nat} {cs : Nat → ClassId} {G : va_G} (hρ : injN ρ) : ∀ n : Nat, (∀ {p1 : Int32} {p2 : Int32} {p3 : Int32} {p4 : Int32} {w : Wd} {rr : Wd}, E_X12_goChain n p1 p2 p3 p4 w = some rr → CtV l0 ρ cs G y_X12_goChain prog_14_method_59_code 7 (4 + n) [.ref (ρ 119), .int p1, .int p2, .int p3, .int p4] w rr) := by
  intro n
  induction n with
  | zero =>
    intros
    rename_i hD
    cases hD
  | succ n ih =>
    intros
    rename_i hD
    exact SB_X12_goChain hρ (rec := fun p1 p2 p3 p4 w => E_X12_goChain n p1 p2 p3 p4 w) (dr := 4 + n) (d := 4 + (n + 1)) (by omega) (by omega) ih hD
def D_X12_goChain (p1 : Int32) (p2 : Int32) (p3 : Int32) (p4 : Int32) : Wd → Option Wd := fun w => E_X12_goChain 80 p1 p2 p3 p4 w
set_option maxRecDepth 20000 in
theorem S_X12_goChain {l0 : Launch} {ρ : Nat → Nat} {cs : Nat → ClassId} {G : va_G} (hρ : injN ρ) {p1 : Int32} {p2 : Int32} {p3 : Int32} {p4 : Int32} {w : Wd} {rr : Wd} (hD : D_X12_goChain p1 p2 p3 p4 w = some rr) : CtV l0 ρ cs G y_X12_goChain prog_14_method_59_code 7 84 [.ref (ρ 119), .int p1, .int p2, .int p3, .int p4] w rr := (SE_X12_goChain hρ 80) hD
def L_X12_layChain_45 (k7 : Wd → Option Wd) : Nat → Int32 → Wd → Option Wd
  | 0, _, _ => none
  | n8 + 1, x9, w10 =>
    if (w10.1 119 32) ≤ x9 then (k7 w10) else (if ib x9 7 then (bv (D_X12_tell ((w10.1 141 x9.toNatClampNeg).toInt64) w10) fun w11 => bd (x9 + 1) fun x12 => L_X12_layChain_45 k7 n8 x12 w11) else none)
def J_X12_layChain_x70_1  : Wd → Option Wd := fun w13 =>
  some w13
def D_X12_layChain (p1 : Int32) : Wd → Option Wd := fun w =>
  bd (wI w 119 32 0) fun w1 => bd (wI w1 119 33 (-1)) fun w2 => if ib 0 7 then bd (133 + (0 : Int32).toNatClampNeg) (fun q3 => bv (D_X12_lay 120 q3 0 w2) fun w4 => if ib 14 16 then (bv (D_X12_goChain (w4.1 120 (14 : Int32).toNatClampNeg) 0 0 p1 w4) fun w5 => bd (wI w5 119 6 0) fun w6 => L_X12_layChain_45 J_X12_layChain_x70_1 FU 0 w6) else none) else none
set_option maxRecDepth 20000 in
theorem Q_X12_layChain_45 {l0 : Launch} {ρ : Nat → Nat} {cs : Nat → ClassId} {G : va_G} {X : Cx} (hρ : injN ρ) (hn : X.2.2.2.2.2.2.2.2.2.2.1 = 3) (h : Okx l0 ρ cs G X prog_14_method_60_code "SowingBoardsModel" 85) {rr : Wd} (hR : ∀ pc L, decode prog_14_method_60_code pc = .ok (.return_, 1) → gG ρ cs G X pc L [] rr)  {k7 : Wd → Option Wd} (hk7 : ∀ (w1 : Wd), k7 w1 = some rr → gG ρ cs G X 70 [] [] w1) : ∀ (n : Nat) (x9 : Int32) (w : Wd), L_X12_layChain_45 k7 n x9 w = some rr → gG ρ cs G X 45 [(0, .ref (ρ 119)), (2, .int x9)] [] w := by
  intro n
  induction n with
  | zero =>
    intro x9 w hD
    cases hD
  | succ n8 ih =>
    intro x9 w10 hD
    unfold L_X12_layChain_45 at hD
    refine g_iload_n h 1 t_X12_layChain_45 rfl ?_
    refine g_aload_n h 0 t_X12_layChain_46 rfl ?_
    refine g_getI h 119 32 fl_12_302 rfl (by decide) rfl t_X12_layChain_47 ?_
    refine g_icmp_ge (tgt := 70) h t_X12_layChain_50 (by decide) hD (fun hD => ?_) (fun hD => ?_)
    · refine g_loc (L' := []) h [] rfl ?_
      exact hk7 _ hD
    · refine g_aload_n h 0 t_X12_layChain_53 rfl ?_
      refine g_aload_n h 0 t_X12_layChain_54 rfl ?_
      refine g_getR h 119 31 141 fl_12_63 rfl (by decide) rfl t_X12_layChain_55 ?_
      refine g_iload_n h 1 t_X12_layChain_58 rfl ?_
      refine g_iald h 141 rfl (by decide) t_X12_layChain_59 hD (fun hD => ?_)
      refine g_i2l h t_X12_layChain_60 ?_
      refine g_callVV h 119 (As := [.long ((w10.1 141 x9.toNatClampNeg).toInt64)]) (st := []) my_X12_tell mi_X12_tell ml_12_260 rfl (by decide) rfl rfl rfl (Nat.le_of_ble_eq_true rfl) (by decide) t_X12_layChain_61 hD (fun _ e => S_X12_tell hρ  e) (fun w11 hD => ?_)
      obtain ⟨x12, ex12, hD⟩ := bd_ex hD
      refine g_iinc (v := x12) (L' := [(2, .int x12), (0, .ref (ρ 119))]) h hn t_X12_layChain_64 (k := 1) rfl (by rw [ex12]; rfl) (by decide) rfl ?_
      refine g_goto (tgt := 45) h t_X12_layChain_67 (by decide) ?_
      refine g_loc (L' := [(0, .ref (ρ 119)), (2, .int x12)]) h [1, 0] rfl ?_
      exact ih x12 _ hD
set_option maxRecDepth 20000 in
theorem S_X12_layChain {l0 : Launch} {ρ : Nat → Nat} {cs : Nat → ClassId} {G : va_G} (hρ : injN ρ) {p1 : Int32} {w : Wd} {rr : Wd} (hD : D_X12_layChain p1 w = some rr) : CtV l0 ρ cs G y_X12_layChain prog_14_method_60_code 3 85 [.ref (ρ 119), .int p1] w rr := by
  refine ctV_of hρ (by decide) (Nat.le_of_ble_eq_true rfl) (fun X hn h hR => ?_)
  unfold D_X12_layChain at hD
  show gG ρ cs G X 0 [(0, .ref (ρ 119)), (1, .int p1)] [] w
  refine g_aload_n h 0 t_X12_layChain_0 rfl ?_
  refine g_iconst (v := 0) h t_X12_layChain_1 (by decide) ?_
  refine g_putI h 119 32 fl_12_302 fp_12_32 rfl (by decide) rfl t_X12_layChain_2 hD (fun w1 hD => ?_)
  refine g_aload_n h 0 t_X12_layChain_5 rfl ?_
  refine g_iconst (v := (-1)) h t_X12_layChain_6 (by decide) ?_
  refine g_putI h 119 33 fl_12_305 fp_12_33 rfl (by decide) rfl t_X12_layChain_7 hD (fun w2 hD => ?_)
  refine g_aload_n h 0 t_X12_layChain_10 rfl ?_
  refine g_getR h 119 0 120 fl_12_9 rfl (by decide) rfl t_X12_layChain_11 ?_
  refine g_aload_n h 0 t_X12_layChain_14 rfl ?_
  refine g_getR h 119 29 132 fl_12_57 rfl (by decide) rfl t_X12_layChain_15 ?_
  refine g_iconst (v := 0) h t_X12_layChain_18 (by decide) ?_
  refine g_rald h 132 rfl (by decide) t_X12_layChain_19 hD (fun q3 eq3 lq3 hD => ?_)
  have hq3 : isIA q3 := iaA (f := 133) (by decide) eq3 lq3
  refine g_iconst (v := 0) h t_X12_layChain_20 (by decide) ?_
  refine g_callSV h (As := [.ref (ρ 120), .ref (ρ q3), .int 0]) (st := []) my_X12_lay ms_X12_lay ml_12_256 rfl rfl (Nat.le_of_ble_eq_true rfl) (by decide) t_X12_layChain_21 hD (fun _ e => S_X12_lay hρ (by decide) hq3 e) (fun w4 hD => ?_)
  refine g_aload_n h 0 t_X12_layChain_24 rfl ?_
  refine g_aload_n h 0 t_X12_layChain_25 rfl ?_
  refine g_getR h 119 0 120 fl_12_9 rfl (by decide) rfl t_X12_layChain_26 ?_
  refine g_bipush (v := 14) h t_X12_layChain_29 (by decide) ?_
  refine g_iald h 120 rfl (by decide) t_X12_layChain_31 hD (fun hD => ?_)
  refine g_iconst (v := 0) h t_X12_layChain_32 (by decide) ?_
  refine g_iconst (v := 0) h t_X12_layChain_33 (by decide) ?_
  refine g_iload_n h 1 t_X12_layChain_34 rfl ?_
  refine g_callVV h 119 (As := [.int (w4.1 120 (14 : Int32).toNatClampNeg), .int 0, .int 0, .int p1]) (st := []) my_X12_goChain mi_X12_goChain ml_12_308 rfl (by decide) rfl rfl rfl (Nat.le_of_ble_eq_true rfl) (by decide) t_X12_layChain_35 hD (fun _ e => S_X12_goChain hρ  e) (fun w5 hD => ?_)
  refine g_aload_n h 0 t_X12_layChain_38 rfl ?_
  refine g_iconst (v := 0) h t_X12_layChain_39 (by decide) ?_
  refine g_putI h 119 6 fl_12_112 fp_12_6 rfl (by decide) rfl t_X12_layChain_40 hD (fun w6 hD => ?_)
  refine g_iconst (v := 0) h t_X12_layChain_43 (by decide) ?_
  refine g_istore_n (L' := [(2, .int 0), (0, .ref (ρ 119)), (1, .int p1)]) h hn t_X12_layChain_44 rfl (by decide) rfl ?_
  refine g_loc (L' := [(0, .ref (ρ 119)), (2, .int 0)]) h [1, 0] rfl ?_
  refine Q_X12_layChain_45 hρ hn h hR  ?_ _ _ _ hD
  · intro w13 hD
    unfold J_X12_layChain_x70_1 at hD
    obtain rfl := Option.some.inj hD
    exact hR _ _ t_X12_layChain_70
def D_X12_chain  : Wd → Option (Int32 × Wd) := fun w =>
  bd (wI w 119 7 0) fun w1 => bc (D_X12_isOver 120 w1) fun x3 w2 => if x3 = 0 then (bv (D_X12_layChain 0 w2) fun w4 => some (w4.1 119 33, w4)) else (some ((-2), w2))
set_option maxRecDepth 20000 in
theorem S_X12_chain {l0 : Launch} {ρ : Nat → Nat} {cs : Nat → ClassId} {G : va_G} (hρ : injN ρ)  {w : Wd} {rr : (Int32 × Wd)} (hD : D_X12_chain w = some rr) : CtI l0 ρ cs G y_X12_chain prog_14_method_61_code 1 .int 86 [.ref (ρ 119)] w rr.1 rr.2 := by
  refine ctI_of hρ (by decide) (Nat.le_of_ble_eq_true rfl) (fun X hn h hR => ?_)
  unfold D_X12_chain at hD
  show gG ρ cs G X 0 [(0, .ref (ρ 119))] [] w
  refine g_aload_n h 0 t_X12_chain_0 rfl ?_
  refine g_iconst (v := 0) h t_X12_chain_1 (by decide) ?_
  refine g_putI h 119 7 fl_12_109 fp_12_7 rfl (by decide) rfl t_X12_chain_2 hD (fun w1 hD => ?_)
  refine g_aload_n h 0 t_X12_chain_5 rfl ?_
  refine g_aload_n h 0 t_X12_chain_6 rfl ?_
  refine g_getR h 119 0 120 fl_12_9 rfl (by decide) rfl t_X12_chain_7 ?_
  refine g_callVI h 119 (As := [.ref (ρ 120)]) (st := []) my_X12_isOver mi_X12_isOver ml_12_282 rfl (by decide) rfl rfl rfl (Nat.le_of_ble_eq_true rfl) (by decide) t_X12_chain_10 hD (fun _ _ e => S_X12_isOver hρ (by decide) e) (fun x3 w2 hD => ?_)
  refine g_if_eq (tgt := 19) h t_X12_chain_13 (by decide) hD (fun hD => ?_) (fun hD => ?_)
  · refine g_aload_n h 0 t_X12_chain_19 rfl ?_
    refine g_iconst (v := 0) h t_X12_chain_20 (by decide) ?_
    refine g_callVV h 119 (As := [.int 0]) (st := []) my_X12_layChain mi_X12_layChain ml_12_312 rfl (by decide) rfl rfl rfl (Nat.le_of_ble_eq_true rfl) (by decide) t_X12_chain_21 hD (fun _ e => S_X12_layChain hρ  e) (fun w4 hD => ?_)
    refine g_aload_n h 0 t_X12_chain_24 rfl ?_
    refine g_getI h 119 33 fl_12_305 rfl (by decide) rfl t_X12_chain_25 ?_
    obtain rfl := Option.some.inj hD
    exact hR _ _ t_X12_chain_28 rfl
  · refine g_bipush (v := (-2)) h t_X12_chain_16 (by decide) ?_
    obtain rfl := Option.some.inj hD
    exact hR _ _ t_X12_chain_18 rfl
def D_X12_longest  : Wd → Option (Int32 × Wd) := fun w =>
  bd (wI w 119 7 0) fun w1 => bc (D_X12_isOver 120 w1) fun x3 w2 => if x3 = 0 then (bv (D_X12_layChain 1 w2) fun w4 => some (w4.1 119 32, w4)) else (some ((-2), w2))
set_option maxRecDepth 20000 in
theorem S_X12_longest {l0 : Launch} {ρ : Nat → Nat} {cs : Nat → ClassId} {G : va_G} (hρ : injN ρ)  {w : Wd} {rr : (Int32 × Wd)} (hD : D_X12_longest w = some rr) : CtI l0 ρ cs G y_X12_longest prog_14_method_62_code 1 .int 86 [.ref (ρ 119)] w rr.1 rr.2 := by
  refine ctI_of hρ (by decide) (Nat.le_of_ble_eq_true rfl) (fun X hn h hR => ?_)
  unfold D_X12_longest at hD
  show gG ρ cs G X 0 [(0, .ref (ρ 119))] [] w
  refine g_aload_n h 0 t_X12_longest_0 rfl ?_
  refine g_iconst (v := 0) h t_X12_longest_1 (by decide) ?_
  refine g_putI h 119 7 fl_12_109 fp_12_7 rfl (by decide) rfl t_X12_longest_2 hD (fun w1 hD => ?_)
  refine g_aload_n h 0 t_X12_longest_5 rfl ?_
  refine g_aload_n h 0 t_X12_longest_6 rfl ?_
  refine g_getR h 119 0 120 fl_12_9 rfl (by decide) rfl t_X12_longest_7 ?_
  refine g_callVI h 119 (As := [.ref (ρ 120)]) (st := []) my_X12_isOver mi_X12_isOver ml_12_282 rfl (by decide) rfl rfl rfl (Nat.le_of_ble_eq_true rfl) (by decide) t_X12_longest_10 hD (fun _ _ e => S_X12_isOver hρ (by decide) e) (fun x3 w2 hD => ?_)
  refine g_if_eq (tgt := 19) h t_X12_longest_13 (by decide) hD (fun hD => ?_) (fun hD => ?_)
  · refine g_aload_n h 0 t_X12_longest_19 rfl ?_
    refine g_iconst (v := 1) h t_X12_longest_20 (by decide) ?_
    refine g_callVV h 119 (As := [.int 1]) (st := []) my_X12_layChain mi_X12_layChain ml_12_312 rfl (by decide) rfl rfl rfl (Nat.le_of_ble_eq_true rfl) (by decide) t_X12_longest_21 hD (fun _ e => S_X12_layChain hρ  e) (fun w4 hD => ?_)
    refine g_aload_n h 0 t_X12_longest_24 rfl ?_
    refine g_getI h 119 32 fl_12_302 rfl (by decide) rfl t_X12_longest_25 ?_
    obtain rfl := Option.some.inj hD
    exact hR _ _ t_X12_longest_28 rfl
  · refine g_bipush (v := (-2)) h t_X12_longest_16 (by decide) ?_
    obtain rfl := Option.some.inj hD
    exact hR _ _ t_X12_longest_18 rfl
def D_X12_threat  : Wd → Option (Int32 × Wd) := fun w =>
  bd (wI w 119 7 0) fun w1 => bv (D_X12_lay 120 129 0 w1) fun w2 => if ib 14 16 then (if ib 14 16 then bd (wI w2 129 (14 : Int32).toNatClampNeg (1 - (w2.1 120 (14 : Int32).toNatClampNeg))) (fun w3 => bc (D_X12_mostOf 129 w3) fun x5 w4 => bd (wI w4 119 6 0) fun w6 => if (w6.1 119 28) = (-1) then (some (x5, w6)) else (bv (D_X12_tell ((w6.1 119 28).toInt64) w6) fun w7 => some (x5, w7))) else none) else none
set_option maxRecDepth 20000 in
theorem S_X12_threat {l0 : Launch} {ρ : Nat → Nat} {cs : Nat → ClassId} {G : va_G} (hρ : injN ρ)  {w : Wd} {rr : (Int32 × Wd)} (hD : D_X12_threat w = some rr) : CtI l0 ρ cs G y_X12_threat prog_14_method_63_code 2 .int 5 [.ref (ρ 119)] w rr.1 rr.2 := by
  refine ctI_of hρ (by decide) (Nat.le_of_ble_eq_true rfl) (fun X hn h hR => ?_)
  unfold D_X12_threat at hD
  show gG ρ cs G X 0 [(0, .ref (ρ 119))] [] w
  refine g_aload_n h 0 t_X12_threat_0 rfl ?_
  refine g_iconst (v := 0) h t_X12_threat_1 (by decide) ?_
  refine g_putI h 119 7 fl_12_109 fp_12_7 rfl (by decide) rfl t_X12_threat_2 hD (fun w1 hD => ?_)
  refine g_aload_n h 0 t_X12_threat_5 rfl ?_
  refine g_getR h 119 0 120 fl_12_9 rfl (by decide) rfl t_X12_threat_6 ?_
  refine g_aload_n h 0 t_X12_threat_9 rfl ?_
  refine g_getR h 119 25 129 fl_12_46 rfl (by decide) rfl t_X12_threat_10 ?_
  refine g_iconst (v := 0) h t_X12_threat_13 (by decide) ?_
  refine g_callSV h (As := [.ref (ρ 120), .ref (ρ 129), .int 0]) (st := []) my_X12_lay ms_X12_lay ml_12_256 rfl rfl (Nat.le_of_ble_eq_true rfl) (by decide) t_X12_threat_14 hD (fun _ e => S_X12_lay hρ (by decide) (by decide) e) (fun w2 hD => ?_)
  refine g_aload_n h 0 t_X12_threat_17 rfl ?_
  refine g_getR h 119 25 129 fl_12_46 rfl (by decide) rfl t_X12_threat_18 ?_
  refine g_bipush (v := 14) h t_X12_threat_21 (by decide) ?_
  refine g_iconst (v := 1) h t_X12_threat_23 (by decide) ?_
  refine g_aload_n h 0 t_X12_threat_24 rfl ?_
  refine g_getR h 119 0 120 fl_12_9 rfl (by decide) rfl t_X12_threat_25 ?_
  refine g_bipush (v := 14) h t_X12_threat_28 (by decide) ?_
  refine g_iald h 120 rfl (by decide) t_X12_threat_30 hD (fun hD => ?_)
  refine g_isub h t_X12_threat_31 ?_
  refine g_iast h 129 rfl (by decide) t_X12_threat_32 hD (fun w3 hD => ?_)
  refine g_aload_n h 0 t_X12_threat_33 rfl ?_
  refine g_aload_n h 0 t_X12_threat_34 rfl ?_
  refine g_getR h 119 25 129 fl_12_46 rfl (by decide) rfl t_X12_threat_35 ?_
  refine g_callVI h 119 (As := [.ref (ρ 129)]) (st := []) my_X12_mostOf mi_X12_mostOf ml_12_299 rfl (by decide) rfl rfl rfl (Nat.le_of_ble_eq_true rfl) (by decide) t_X12_threat_38 hD (fun _ _ e => S_X12_mostOf hρ (by decide) e) (fun x5 w4 hD => ?_)
  refine g_istore_n (L' := [(1, .int x5), (0, .ref (ρ 119))]) h hn t_X12_threat_41 rfl (by decide) rfl ?_
  refine g_aload_n h 1 t_X12_threat_42 rfl ?_
  refine g_iconst (v := 0) h t_X12_threat_43 (by decide) ?_
  refine g_putI h 119 6 fl_12_112 fp_12_6 rfl (by decide) rfl t_X12_threat_44 hD (fun w6 hD => ?_)
  refine g_aload_n h 1 t_X12_threat_47 rfl ?_
  refine g_getI h 119 28 fl_12_296 rfl (by decide) rfl t_X12_threat_48 ?_
  refine g_iconst (v := (-1)) h t_X12_threat_51 (by decide) ?_
  refine g_icmp_eq (tgt := 64) h t_X12_threat_52 (by decide) hD (fun hD => ?_) (fun hD => ?_)
  · refine g_iload_n h 0 t_X12_threat_64 rfl ?_
    obtain rfl := Option.some.inj hD
    exact hR _ _ t_X12_threat_65 rfl
  · refine g_aload_n h 1 t_X12_threat_55 rfl ?_
    refine g_aload_n h 1 t_X12_threat_56 rfl ?_
    refine g_getI h 119 28 fl_12_296 rfl (by decide) rfl t_X12_threat_57 ?_
    refine g_i2l h t_X12_threat_60 ?_
    refine g_callVV h 119 (As := [.long ((w6.1 119 28).toInt64)]) (st := []) my_X12_tell mi_X12_tell ml_12_260 rfl (by decide) rfl rfl rfl (Nat.le_of_ble_eq_true rfl) (by decide) t_X12_threat_61 hD (fun _ e => S_X12_tell hρ  e) (fun w7 hD => ?_)
    refine g_iload_n h 0 t_X12_threat_64 rfl ?_
    obtain rfl := Option.some.inj hD
    exact hR _ _ t_X12_threat_65 rfl
def D_X12_risks (p1 : Int32) : Wd → Option (Int32 × Wd) := fun w =>
  bd (wI w 119 7 0) fun w1 => bc (D_X12_refuses 120 p1 w1) fun x3 w2 => if 0 ≤ x3 then (bv (D_X12_lay 120 129 0 w2) fun w4 => bv (D_X12_goMove 129 p1 w4) fun w5 => if ib 14 16 then (if ib 14 16 then (if (w5.1 129 (14 : Int32).toNatClampNeg) = (w5.1 120 (14 : Int32).toNatClampNeg) then (some (0, w5)) else (bc (D_X12_mostOf 129 w5) fun x7 w6 => some (x7, w6))) else none) else none) else (some (x3, w2))
set_option maxRecDepth 20000 in
theorem S_X12_risks {l0 : Launch} {ρ : Nat → Nat} {cs : Nat → ClassId} {G : va_G} (hρ : injN ρ) {p1 : Int32} {w : Wd} {rr : (Int32 × Wd)} (hD : D_X12_risks p1 w = some rr) : CtI l0 ρ cs G y_X12_risks prog_14_method_64_code 3 .int 5 [.ref (ρ 119), .int p1] w rr.1 rr.2 := by
  refine ctI_of hρ (by decide) (Nat.le_of_ble_eq_true rfl) (fun X hn h hR => ?_)
  unfold D_X12_risks at hD
  show gG ρ cs G X 0 [(0, .ref (ρ 119)), (1, .int p1)] [] w
  refine g_aload_n h 0 t_X12_risks_0 rfl ?_
  refine g_iconst (v := 0) h t_X12_risks_1 (by decide) ?_
  refine g_putI h 119 7 fl_12_109 fp_12_7 rfl (by decide) rfl t_X12_risks_2 hD (fun w1 hD => ?_)
  refine g_aload_n h 0 t_X12_risks_5 rfl ?_
  refine g_aload_n h 0 t_X12_risks_6 rfl ?_
  refine g_getR h 119 0 120 fl_12_9 rfl (by decide) rfl t_X12_risks_7 ?_
  refine g_iload_n h 1 t_X12_risks_10 rfl ?_
  refine g_callVI h 119 (As := [.ref (ρ 120), .int p1]) (st := []) my_X12_refuses mi_X12_refuses ml_12_264 rfl (by decide) rfl rfl rfl (Nat.le_of_ble_eq_true rfl) (by decide) t_X12_risks_11 hD (fun _ _ e => S_X12_refuses hρ (by decide) e) (fun x3 w2 hD => ?_)
  refine g_istore_n (L' := [(2, .int x3), (0, .ref (ρ 119)), (1, .int p1)]) h hn t_X12_risks_14 rfl (by decide) rfl ?_
  refine g_iload_n h 0 t_X12_risks_15 rfl ?_
  refine g_if_ge (tgt := 21) h t_X12_risks_16 (by decide) hD (fun hD => ?_) (fun hD => ?_)
  · refine g_aload_n h 1 t_X12_risks_21 rfl ?_
    refine g_getR h 119 0 120 fl_12_9 rfl (by decide) rfl t_X12_risks_22 ?_
    refine g_aload_n h 1 t_X12_risks_25 rfl ?_
    refine g_getR h 119 25 129 fl_12_46 rfl (by decide) rfl t_X12_risks_26 ?_
    refine g_iconst (v := 0) h t_X12_risks_29 (by decide) ?_
    refine g_callSV h (As := [.ref (ρ 120), .ref (ρ 129), .int 0]) (st := []) my_X12_lay ms_X12_lay ml_12_256 rfl rfl (Nat.le_of_ble_eq_true rfl) (by decide) t_X12_risks_30 hD (fun _ e => S_X12_lay hρ (by decide) (by decide) e) (fun w4 hD => ?_)
    refine g_aload_n h 1 t_X12_risks_33 rfl ?_
    refine g_aload_n h 1 t_X12_risks_34 rfl ?_
    refine g_getR h 119 25 129 fl_12_46 rfl (by decide) rfl t_X12_risks_35 ?_
    refine g_iload_n h 2 t_X12_risks_38 rfl ?_
    refine g_callVV h 119 (As := [.ref (ρ 129), .int p1]) (st := []) my_X12_goMove mi_X12_goMove ml_12_272 rfl (by decide) rfl rfl rfl (Nat.le_of_ble_eq_true rfl) (by decide) t_X12_risks_39 hD (fun _ e => S_X12_goMove hρ (by decide) e) (fun w5 hD => ?_)
    refine g_aload_n h 1 t_X12_risks_42 rfl ?_
    refine g_getR h 119 25 129 fl_12_46 rfl (by decide) rfl t_X12_risks_43 ?_
    refine g_bipush (v := 14) h t_X12_risks_46 (by decide) ?_
    refine g_iald h 129 rfl (by decide) t_X12_risks_48 hD (fun hD => ?_)
    refine g_aload_n h 1 t_X12_risks_49 rfl ?_
    refine g_getR h 119 0 120 fl_12_9 rfl (by decide) rfl t_X12_risks_50 ?_
    refine g_bipush (v := 14) h t_X12_risks_53 (by decide) ?_
    refine g_iald h 120 rfl (by decide) t_X12_risks_55 hD (fun hD => ?_)
    refine g_icmp_ne (tgt := 63) h t_X12_risks_56 (by decide) hD (fun hD => ?_) (fun hD => ?_)
    · refine g_aload_n h 1 t_X12_risks_63 rfl ?_
      refine g_aload_n h 1 t_X12_risks_64 rfl ?_
      refine g_getR h 119 25 129 fl_12_46 rfl (by decide) rfl t_X12_risks_65 ?_
      refine g_callVI h 119 (As := [.ref (ρ 129)]) (st := []) my_X12_mostOf mi_X12_mostOf ml_12_299 rfl (by decide) rfl rfl rfl (Nat.le_of_ble_eq_true rfl) (by decide) t_X12_risks_68 hD (fun _ _ e => S_X12_mostOf hρ (by decide) e) (fun x7 w6 hD => ?_)
      obtain rfl := Option.some.inj hD
      exact hR _ _ t_X12_risks_71 rfl
    · refine g_iconst (v := 0) h t_X12_risks_59 (by decide) ?_
      refine g_goto (tgt := 71) h t_X12_risks_60 (by decide) ?_
      obtain rfl := Option.some.inj hD
      exact hR _ _ t_X12_risks_71 rfl
  · refine g_iload_n h 0 t_X12_risks_19 rfl ?_
    obtain rfl := Option.some.inj hD
    exact hR _ _ t_X12_risks_20 rfl
def J_X12_starves_j72_1 (x4 : Int32) (k11 : Int32 → Wd → Option (Int32 × Wd)) : Int32 → Wd → Option (Int32 × Wd) := fun x17 w18 =>
  bd (x4 ||| x17) fun x20 => k11 x20 w18
def J_X12_starves_j74_2 (r9 : Int32 → Int32 → Wd → Option (Int32 × Wd)) (x5 : Int32) : Int32 → Wd → Option (Int32 × Wd) := fun x9 w10 =>
  bd (x5 + 1) fun x12 => r9 x9 x12 w10
def L_X12_starves_9 (k2 : Int32 → Wd → Option (Int32 × Wd)) : Nat → Int32 → Int32 → Wd → Option (Int32 × Wd)
  | 0, _, _, _ => none
  | n3 + 1, x4, x5, w6 =>
    if (w6.1 119 1) ≤ x5 then (k2 x4 w6) else (bc (D_X12_refuses 120 x5 w6) fun x8 w7 => bd (J_X12_starves_j74_2 (L_X12_starves_9 k2 n3) x5) fun k11 => if 0 ≤ x8 then (bv (D_X12_lay 120 129 0 w7) fun w13 => bv (D_X12_goMove 129 x5 w13) fun w14 => bc (D_X12_isOver 129 w14) fun x16 w15 => bd (J_X12_starves_j72_1 x4 k11) fun k19 => if x16 = 0 then (k19 0 w15) else (k19 (1 <<< (x5 &&& 31)) w15)) else (k11 x4 w7))
def J_X12_starves_x80_3  : Int32 → Wd → Option (Int32 × Wd) := fun x21 w22 =>
  bd (wI w22 119 6 0) fun w23 => bv (D_X12_tell x21.toInt64 w23) fun w24 => bc (D_J6_bitCount_0f7a4 x21 w24) fun x26 w25 => some (x26, w25)
def D_X12_starves  : Wd → Option (Int32 × Wd) := fun w =>
  bd (wI w 119 7 0) fun w1 => L_X12_starves_9 J_X12_starves_x80_3 FU 0 0 w1
set_option maxRecDepth 20000 in
theorem Q_X12_starves_9 {l0 : Launch} {ρ : Nat → Nat} {cs : Nat → ClassId} {G : va_G} {X : Cx} (hρ : injN ρ) (hn : X.2.2.2.2.2.2.2.2.2.2.1 = 3) (h : Okx l0 ρ cs G X prog_14_method_65_code "SowingBoardsModel" 4) {rr : (Int32 × Wd)} (hR : ∀ pc L, decode prog_14_method_65_code pc = .ok (.ireturn, 1) → narrow .int (.int rr.1) = .int rr.1 → gG ρ cs G X pc L [.int rr.1] rr.2)  {k2 : Int32 → Wd → Option (Int32 × Wd)} (hk2 : ∀ (z1 : Int32) (w1 : Wd), k2 z1 w1 = some rr → gG ρ cs G X 80 [(0, .ref (ρ 119)), (1, .int z1)] [] w1) : ∀ (n : Nat) (x4 : Int32) (x5 : Int32) (w : Wd), L_X12_starves_9 k2 n x4 x5 w = some rr → gG ρ cs G X 9 [(0, .ref (ρ 119)), (1, .int x4), (2, .int x5)] [] w := by
  intro n
  induction n with
  | zero =>
    intro x4 x5 w hD
    cases hD
  | succ n3 ih =>
    intro x4 x5 w6 hD
    unfold L_X12_starves_9 at hD
    refine g_iload_n h 2 t_X12_starves_9 rfl ?_
    refine g_aload_n h 0 t_X12_starves_10 rfl ?_
    refine g_getI h 119 1 fl_12_13 rfl (by decide) rfl t_X12_starves_11 ?_
    refine g_icmp_ge (tgt := 80) h t_X12_starves_14 (by decide) hD (fun hD => ?_) (fun hD => ?_)
    · refine g_loc (L' := [(0, .ref (ρ 119)), (1, .int x4)]) h [0, 1] rfl ?_
      exact hk2 x4 _ hD
    · refine g_aload_n h 0 t_X12_starves_17 rfl ?_
      refine g_aload_n h 0 t_X12_starves_18 rfl ?_
      refine g_getR h 119 0 120 fl_12_9 rfl (by decide) rfl t_X12_starves_19 ?_
      refine g_iload_n h 2 t_X12_starves_22 rfl ?_
      refine g_callVI h 119 (As := [.ref (ρ 120), .int x5]) (st := []) my_X12_refuses mi_X12_refuses ml_12_264 rfl (by decide) rfl rfl rfl (Nat.le_of_ble_eq_true rfl) (by decide) t_X12_starves_23 hD (fun _ _ e => S_X12_refuses hρ (by decide) e) (fun x8 w7 hD => ?_)
      refine g_join (P := fun k11 => ∀ (x9 : Int32) (w10 : Wd), k11 x9 w10 = some rr → gG ρ cs G X 74 [(0, .ref (ρ 119)), (1, .int x9), (2, .int x5)] [] w10) hD ?_ (fun k11 hk11 hD => ?_)
      · intro x9 w10 hD
        unfold J_X12_starves_j74_2 at hD
        obtain ⟨x12, ex12, hD⟩ := bd_ex hD
        refine g_iinc (v := x12) (L' := [(2, .int x12), (0, .ref (ρ 119)), (1, .int x9)]) h hn t_X12_starves_74 (k := 2) rfl (by rw [ex12]; rfl) (by decide) rfl ?_
        refine g_goto (tgt := 9) h t_X12_starves_77 (by decide) ?_
        refine g_loc (L' := [(0, .ref (ρ 119)), (1, .int x9), (2, .int x12)]) h [1, 2, 0] rfl ?_
        exact ih x9 x12 _ hD
      · refine g_if_ge (tgt := 32) h t_X12_starves_26 (by decide) hD (fun hD => ?_) (fun hD => ?_)
        · refine g_aload_n h 0 t_X12_starves_32 rfl ?_
          refine g_getR h 119 0 120 fl_12_9 rfl (by decide) rfl t_X12_starves_33 ?_
          refine g_aload_n h 0 t_X12_starves_36 rfl ?_
          refine g_getR h 119 25 129 fl_12_46 rfl (by decide) rfl t_X12_starves_37 ?_
          refine g_iconst (v := 0) h t_X12_starves_40 (by decide) ?_
          refine g_callSV h (As := [.ref (ρ 120), .ref (ρ 129), .int 0]) (st := []) my_X12_lay ms_X12_lay ml_12_256 rfl rfl (Nat.le_of_ble_eq_true rfl) (by decide) t_X12_starves_41 hD (fun _ e => S_X12_lay hρ (by decide) (by decide) e) (fun w13 hD => ?_)
          refine g_aload_n h 0 t_X12_starves_44 rfl ?_
          refine g_aload_n h 0 t_X12_starves_45 rfl ?_
          refine g_getR h 119 25 129 fl_12_46 rfl (by decide) rfl t_X12_starves_46 ?_
          refine g_iload_n h 2 t_X12_starves_49 rfl ?_
          refine g_callVV h 119 (As := [.ref (ρ 129), .int x5]) (st := []) my_X12_goMove mi_X12_goMove ml_12_272 rfl (by decide) rfl rfl rfl (Nat.le_of_ble_eq_true rfl) (by decide) t_X12_starves_50 hD (fun _ e => S_X12_goMove hρ (by decide) e) (fun w14 hD => ?_)
          refine g_iload_n h 1 t_X12_starves_53 rfl ?_
          refine g_aload_n h 0 t_X12_starves_54 rfl ?_
          refine g_aload_n h 0 t_X12_starves_55 rfl ?_
          refine g_getR h 119 25 129 fl_12_46 rfl (by decide) rfl t_X12_starves_56 ?_
          refine g_callVI h 119 (As := [.ref (ρ 129)]) (st := [.int x4]) my_X12_isOver mi_X12_isOver ml_12_282 rfl (by decide) rfl rfl rfl (Nat.le_of_ble_eq_true rfl) (by decide) t_X12_starves_59 hD (fun _ _ e => S_X12_isOver hρ (by decide) e) (fun x16 w15 hD => ?_)
          refine g_join (P := fun k19 => ∀ (x17 : Int32) (w18 : Wd), k19 x17 w18 = some rr → gG ρ cs G X 72 [(0, .ref (ρ 119)), (2, .int x5)] [.int x17, .int x4] w18) hD ?_ (fun k19 hk19 hD => ?_)
          · intro x17 w18 hD
            unfold J_X12_starves_j72_1 at hD
            refine g_ior h t_X12_starves_72 ?_
            refine g_bdI hD (fun x20 hD => ?_)
            refine g_istore_n (L' := [(1, .int x20), (0, .ref (ρ 119)), (2, .int x5)]) h hn t_X12_starves_73 rfl (by decide) rfl ?_
            refine g_loc (L' := [(0, .ref (ρ 119)), (1, .int x20), (2, .int x5)]) h [1, 0, 2] rfl ?_
            exact hk11 x20 _ hD
          · refine g_if_eq (tgt := 71) h t_X12_starves_62 (by decide) hD (fun hD => ?_) (fun hD => ?_)
            · refine g_iconst (v := 0) h t_X12_starves_71 (by decide) ?_
              refine g_loc (L' := [(0, .ref (ρ 119)), (2, .int x5)]) h [0, 2] rfl ?_
              exact hk19 0 _ hD
            · refine g_iconst (v := 1) h t_X12_starves_65 (by decide) ?_
              refine g_iload_n h 2 t_X12_starves_66 rfl ?_
              refine g_ishl h t_X12_starves_67 ?_
              refine g_goto (tgt := 72) h t_X12_starves_68 (by decide) ?_
              refine g_loc (L' := [(0, .ref (ρ 119)), (2, .int x5)]) h [0, 2] rfl ?_
              exact hk19 (1 <<< (x5 &&& 31)) _ hD
        · refine g_goto (tgt := 74) h t_X12_starves_29 (by decide) ?_
          refine g_loc (L' := [(0, .ref (ρ 119)), (1, .int x4), (2, .int x5)]) h [0, 1, 2] rfl ?_
          exact hk11 x4 _ hD
set_option maxRecDepth 20000 in
theorem S_X12_starves {l0 : Launch} {ρ : Nat → Nat} {cs : Nat → ClassId} {G : va_G} (hρ : injN ρ)  {w : Wd} {rr : (Int32 × Wd)} (hD : D_X12_starves w = some rr) : CtI l0 ρ cs G y_X12_starves prog_14_method_65_code 3 .int 4 [.ref (ρ 119)] w rr.1 rr.2 := by
  refine ctI_of hρ (by decide) (Nat.le_of_ble_eq_true rfl) (fun X hn h hR => ?_)
  unfold D_X12_starves at hD
  show gG ρ cs G X 0 [(0, .ref (ρ 119))] [] w
  refine g_aload_n h 0 t_X12_starves_0 rfl ?_
  refine g_iconst (v := 0) h t_X12_starves_1 (by decide) ?_
  refine g_putI h 119 7 fl_12_109 fp_12_7 rfl (by decide) rfl t_X12_starves_2 hD (fun w1 hD => ?_)
  refine g_iconst (v := 0) h t_X12_starves_5 (by decide) ?_
  refine g_istore_n (L' := [(1, .int 0), (0, .ref (ρ 119))]) h hn t_X12_starves_6 rfl (by decide) rfl ?_
  refine g_iconst (v := 0) h t_X12_starves_7 (by decide) ?_
  refine g_istore_n (L' := [(2, .int 0), (1, .int 0), (0, .ref (ρ 119))]) h hn t_X12_starves_8 rfl (by decide) rfl ?_
  refine g_loc (L' := [(0, .ref (ρ 119)), (1, .int 0), (2, .int 0)]) h [2, 1, 0] rfl ?_
  refine Q_X12_starves_9 hρ hn h hR  ?_ _ _ _ _ hD
  · intro x21 w22 hD
    unfold J_X12_starves_x80_3 at hD
    refine g_aload_n h 0 t_X12_starves_80 rfl ?_
    refine g_iconst (v := 0) h t_X12_starves_81 (by decide) ?_
    refine g_putI h 119 6 fl_12_112 fp_12_6 rfl (by decide) rfl t_X12_starves_82 hD (fun w23 hD => ?_)
    refine g_aload_n h 0 t_X12_starves_85 rfl ?_
    refine g_iload_n h 1 t_X12_starves_86 rfl ?_
    refine g_i2l h t_X12_starves_87 ?_
    refine g_callVV h 119 (As := [.long x21.toInt64]) (st := []) my_X12_tell mi_X12_tell ml_12_260 rfl (by decide) rfl rfl rfl (Nat.le_of_ble_eq_true rfl) (by decide) t_X12_starves_88 hD (fun _ e => S_X12_tell hρ  e) (fun w24 hD => ?_)
    refine g_iload_n h 1 t_X12_starves_91 rfl ?_
    refine g_callSI h (As := [.int x21]) (st := []) my_J6_bitCount_0f7a4 ms_J6_bitCount_0f7a4 ml_12_177 rfl rfl (Nat.le_of_ble_eq_true rfl) (by decide) t_X12_starves_92 hD (fun _ _ e => S_J6_bitCount_0f7a4 hρ  e) (fun x26 w25 hD => ?_)
    obtain rfl := Option.some.inj hD
    exact hR _ _ t_X12_starves_95 rfl
def L_X12_look_161 (rec : Int32 → Int32 → Wd → Option (Int32 × Wd)) (x35 : Int32) (x36 : Int32) (q37 : Nat) (x38 : Int32) (x39 : Int32) (x40 : Int32) (k41 : Wd → Option (Int32 × Wd)) : Nat → Int32 → Wd → Option (Int32 × Wd)
  | 0, _, _ => none
  | n42 + 1, x43, w44 =>
    if ib (x35 + 1) 5 then (if (w44.1 148 (x35 + 1).toNatClampNeg) ≤ x43 then (k41 w44) else (if ib x35 5 then bd (143 + x35.toNatClampNeg) (fun q45 => if ib (x35 + 1) 5 then bd (143 + (x35 + 1).toNatClampNeg) (fun q46 => if ib x43 (ln q46) then (if ib (x43 + 1) (ln q45) then bd (wI w44 q45 (x43 + 1).toNatClampNeg (w44.1 q46 x43.toNatClampNeg)) (fun w47 => bd (x43 + 1) fun x48 => L_X12_look_161 rec x35 x36 q37 x38 x39 x40 k41 n42 x48 w47) else none) else none) else none) else none)) else none
def J_X12_look_x202_1 (x8 : Int32) (k23 : Int32 → Int32 → Wd → Option (Int32 × Wd)) (x30 : Int32) : Wd → Option (Int32 × Wd) := fun w49 =>
  if ib (x8 + 1) 5 then (if ib x8 5 then bd (wI w49 148 x8.toNatClampNeg ((w49.1 148 (x8 + 1).toNatClampNeg) + 1)) (fun w50 => k23 x30 0 w50) else none) else none
def J_X12_look_j141_2 (x8 : Int32) (x16 : Int32) (rec : Int32 → Int32 → Wd → Option (Int32 × Wd)) (x9 : Int32) (q10 : Nat) (x11 : Int32) (x30 : Int32) (k23 : Int32 → Int32 → Wd → Option (Int32 × Wd)) : Wd → Option (Int32 × Wd) := fun w31 =>
  if ib x8 5 then bd (143 + x8.toNatClampNeg) (fun q33 => if ib 0 (ln q33) then bd (wI w31 q33 (0 : Int32).toNatClampNeg x16) (fun w34 => L_X12_look_161 rec x8 x9 q10 x11 x30 x16 (J_X12_look_x202_1 x8 k23 x30) FU 0 w34) else none) else none
def J_X12_look_j218_3 (r52 : Int32 → Int32 → Int32 → Wd → Option (Int32 × Wd)) (x16 : Int32) : Int32 → Int32 → Wd → Option (Int32 × Wd) := fun x20 x21 w22 =>
  bd (x16 + 1) fun x24 => r52 x20 x21 x24 w22
def L_X12_look_52 (rec : Int32 → Int32 → Wd → Option (Int32 × Wd)) (x8 : Int32) (x9 : Int32) (q10 : Nat) (x11 : Int32) (k12 : Int32 → Wd → Option (Int32 × Wd)) : Nat → Int32 → Int32 → Int32 → Wd → Option (Int32 × Wd)
  | 0, _, _, _, _ => none
  | n13 + 1, x14, x15, x16, w17 =>
    if (w17.1 119 1) ≤ x16 then (k12 x14 w17) else (bc (D_X12_refuses q10 x16 w17) fun x19 w18 => bd (J_X12_look_j218_3 (L_X12_look_52 rec x8 x9 q10 x11 k12 n13) x16) fun k23 => if 0 ≤ x19 then (if ib (x8 + 1) 7 then bd (133 + (x8 + 1).toNatClampNeg) (fun q25 => bv (D_X12_lay q10 q25 0 w18) fun w26 => if ib (x8 + 1) 7 then bd (133 + (x8 + 1).toNatClampNeg) (fun q27 => bv (D_X12_goMove q27 x16 w26) fun w28 => bc (rec (x8 + 1) x9 w28) fun x30 w29 => bd (J_X12_look_j141_2 x8 x16 rec x9 q10 x11 x30 k23) fun k32 => if x15 = 0 then (if x11 = 0 then (if x14 < x30 then (k32 w29) else (k23 x14 x15 w29)) else (if x30 < x14 then (k32 w29) else (k23 x14 x15 w29))) else (k32 w29)) else none) else none) else (k23 x14 x15 w18))
def J_X12_look_x224_4  : Int32 → Wd → Option (Int32 × Wd) := fun x51 w52 =>
  some (x51, w52)
def J_X12_look_j27_5 (q1 : Nat) : Wd → Option (Int32 × Wd) := fun w3 =>
  if ib 12 (ln q1) then (if ib 13 (ln q1) then (some ((w3.1 q1 (12 : Int32).toNatClampNeg) - (w3.1 q1 (13 : Int32).toNatClampNeg), w3)) else none) else none
def B_X12_look (rec : Int32 → Int32 → Wd → Option (Int32 × Wd)) (p1 : Int32) (p2 : Int32) : Wd → Option (Int32 × Wd) := fun w =>
  if ib p1 7 then bd (133 + p1.toNatClampNeg) (fun q1 => if ib p1 5 then bd (wI w 148 p1.toNatClampNeg 0) (fun w2 => bd (J_X12_look_j27_5 q1) fun k4 => if p1 = p2 then (k4 w2) else (bc (D_X12_isOver q1 w2) fun x6 w5 => if x6 = 0 then (if ib 14 (ln q1) then (bd (w5.1 q1 (14 : Int32).toNatClampNeg) fun x7 => L_X12_look_52 rec p1 p2 q1 x7 J_X12_look_x224_4 FU 0 1 0 w5) else none) else (k4 w5))) else none) else none
set_option maxRecDepth 20000 in
theorem Q_X12_look_161 {l0 : Launch} {ρ : Nat → Nat} {cs : Nat → ClassId} {G : va_G} {X : Cx} (hρ : injN ρ) {rec : Int32 → Int32 → Wd → Option (Int32 × Wd)} {dr d : Nat} (hdr : dr < d) (hbd : 4 ≤ d) (hrec : (∀ {p1 : Int32} {p2 : Int32} {w : Wd} {rr : (Int32 × Wd)}, rec p1 p2 w = some rr → CtI l0 ρ cs G y_X12_look prog_14_method_66_code 10 .int dr [.ref (ρ 119), .int p1, .int p2] w rr.1 rr.2)) (hn : X.2.2.2.2.2.2.2.2.2.2.1 = 10) (h : Okx l0 ρ cs G X prog_14_method_66_code "SowingBoardsModel" d) {rr : (Int32 × Wd)} (hR : ∀ pc L, decode prog_14_method_66_code pc = .ok (.ireturn, 1) → narrow .int (.int rr.1) = .int rr.1 → gG ρ cs G X pc L [.int rr.1] rr.2) {x35 : Int32} {x36 : Int32} {q37 : Nat} (hq37 : isIA q37) {x38 : Int32} {x39 : Int32} {x40 : Int32} {k41 : Wd → Option (Int32 × Wd)} (hk41 : ∀ (w1 : Wd), k41 w1 = some rr → gG ρ cs G X 202 [(0, .ref (ρ 119)), (1, .int x35), (2, .int x36), (3, .ref (ρ q37)), (4, .int x38), (5, .int x39), (6, .int 0), (7, .int x40)] [] w1) : ∀ (n : Nat) (x43 : Int32) (w : Wd), L_X12_look_161 rec x35 x36 q37 x38 x39 x40 k41 n x43 w = some rr → gG ρ cs G X 161 [(0, .ref (ρ 119)), (1, .int x35), (2, .int x36), (3, .ref (ρ q37)), (4, .int x38), (5, .int x39), (6, .int 0), (7, .int x40), (9, .int x43)] [] w := by
  intro n
  induction n with
  | zero =>
    intro x43 w hD
    cases hD
  | succ n42 ih =>
    intro x43 w44 hD
    unfold L_X12_look_161 at hD
    refine g_iload h 8 t_X12_look_161 rfl ?_
    refine g_aload_n h 0 t_X12_look_163 rfl ?_
    refine g_getR h 119 35 148 fl_12_69 rfl (by decide) rfl t_X12_look_164 ?_
    refine g_iload_n h 1 t_X12_look_167 rfl ?_
    refine g_iconst (v := 1) h t_X12_look_168 (by decide) ?_
    refine g_iadd h t_X12_look_169 ?_
    refine g_iald h 148 rfl (by decide) t_X12_look_170 hD (fun hD => ?_)
    refine g_icmp_ge (tgt := 202) h t_X12_look_171 (by decide) hD (fun hD => ?_) (fun hD => ?_)
    · refine g_loc (L' := [(0, .ref (ρ 119)), (1, .int x35), (2, .int x36), (3, .ref (ρ q37)), (4, .int x38), (5, .int x39), (6, .int 0), (7, .int x40)]) h [0, 1, 2, 3, 4, 5, 6, 7] rfl ?_
      exact hk41 _ hD
    · refine g_aload_n h 0 t_X12_look_174 rfl ?_
      refine g_getR h 119 34 142 fl_12_66 rfl (by decide) rfl t_X12_look_175 ?_
      refine g_iload_n h 1 t_X12_look_178 rfl ?_
      refine g_rald h 142 rfl (by decide) t_X12_look_179 hD (fun q45 eq45 lq45 hD => ?_)
      have hq45 : isIA q45 := iaA (f := 143) (by decide) eq45 lq45
      refine g_iload h 8 t_X12_look_180 rfl ?_
      refine g_iconst (v := 1) h t_X12_look_182 (by decide) ?_
      refine g_iadd h t_X12_look_183 ?_
      refine g_aload_n h 0 t_X12_look_184 rfl ?_
      refine g_getR h 119 34 142 fl_12_66 rfl (by decide) rfl t_X12_look_185 ?_
      refine g_iload_n h 1 t_X12_look_188 rfl ?_
      refine g_iconst (v := 1) h t_X12_look_189 (by decide) ?_
      refine g_iadd h t_X12_look_190 ?_
      refine g_rald h 142 rfl (by decide) t_X12_look_191 hD (fun q46 eq46 lq46 hD => ?_)
      have hq46 : isIA q46 := iaA (f := 143) (by decide) eq46 lq46
      refine g_iload h 8 t_X12_look_192 rfl ?_
      refine g_iald h q46 (isIA_sh hq46) (isIA_lt hq46) t_X12_look_194 hD (fun hD => ?_)
      refine g_iast h q45 (isIA_sh hq45) (isIA_lt hq45) t_X12_look_195 hD (fun w47 hD => ?_)
      obtain ⟨x48, ex48, hD⟩ := bd_ex hD
      refine g_iinc (v := x48) (L' := [(9, .int x48), (0, .ref (ρ 119)), (1, .int x35), (2, .int x36), (3, .ref (ρ q37)), (4, .int x38), (5, .int x39), (6, .int 0), (7, .int x40)]) h hn t_X12_look_196 (k := 8) rfl (by rw [ex48]; rfl) (by decide) rfl ?_
      refine g_goto (tgt := 161) h t_X12_look_199 (by decide) ?_
      refine g_loc (L' := [(0, .ref (ρ 119)), (1, .int x35), (2, .int x36), (3, .ref (ρ q37)), (4, .int x38), (5, .int x39), (6, .int 0), (7, .int x40), (9, .int x48)]) h [1, 2, 3, 4, 5, 6, 7, 8, 0] rfl ?_
      exact ih x48 _ hD
set_option maxRecDepth 20000 in
theorem Q_X12_look_52 {l0 : Launch} {ρ : Nat → Nat} {cs : Nat → ClassId} {G : va_G} {X : Cx} (hρ : injN ρ) {rec : Int32 → Int32 → Wd → Option (Int32 × Wd)} {dr d : Nat} (hdr : dr < d) (hbd : 4 ≤ d) (hrec : (∀ {p1 : Int32} {p2 : Int32} {w : Wd} {rr : (Int32 × Wd)}, rec p1 p2 w = some rr → CtI l0 ρ cs G y_X12_look prog_14_method_66_code 10 .int dr [.ref (ρ 119), .int p1, .int p2] w rr.1 rr.2)) (hn : X.2.2.2.2.2.2.2.2.2.2.1 = 10) (h : Okx l0 ρ cs G X prog_14_method_66_code "SowingBoardsModel" d) {rr : (Int32 × Wd)} (hR : ∀ pc L, decode prog_14_method_66_code pc = .ok (.ireturn, 1) → narrow .int (.int rr.1) = .int rr.1 → gG ρ cs G X pc L [.int rr.1] rr.2) {x8 : Int32} {x9 : Int32} {q10 : Nat} (hq10 : isIA q10) {x11 : Int32} {k12 : Int32 → Wd → Option (Int32 × Wd)} (hk12 : ∀ (z5 : Int32) (w1 : Wd), k12 z5 w1 = some rr → gG ρ cs G X 224 [(5, .int z5)] [] w1) : ∀ (n : Nat) (x14 : Int32) (x15 : Int32) (x16 : Int32) (w : Wd), L_X12_look_52 rec x8 x9 q10 x11 k12 n x14 x15 x16 w = some rr → gG ρ cs G X 52 [(0, .ref (ρ 119)), (1, .int x8), (2, .int x9), (3, .ref (ρ q10)), (4, .int x11), (5, .int x14), (6, .int x15), (7, .int x16)] [] w := by
  intro n
  induction n with
  | zero =>
    intro x14 x15 x16 w hD
    cases hD
  | succ n13 ih =>
    intro x14 x15 x16 w17 hD
    unfold L_X12_look_52 at hD
    refine g_iload h 7 t_X12_look_52 rfl ?_
    refine g_aload_n h 0 t_X12_look_54 rfl ?_
    refine g_getI h 119 1 fl_12_13 rfl (by decide) rfl t_X12_look_55 ?_
    refine g_icmp_ge (tgt := 224) h t_X12_look_58 (by decide) hD (fun hD => ?_) (fun hD => ?_)
    · refine g_loc (L' := [(5, .int x14)]) h [5] rfl ?_
      exact hk12 x14 _ hD
    · refine g_aload_n h 0 t_X12_look_61 rfl ?_
      refine g_aload_n h 3 t_X12_look_62 rfl ?_
      refine g_iload h 7 t_X12_look_63 rfl ?_
      refine g_callVI h 119 (As := [.ref (ρ q10), .int x16]) (st := []) my_X12_refuses mi_X12_refuses ml_12_264 rfl (by decide) rfl rfl rfl (Nat.le_of_ble_eq_true rfl) (by omega) t_X12_look_65 hD (fun _ _ e => S_X12_refuses hρ hq10 e) (fun x19 w18 hD => ?_)
      refine g_join (P := fun k23 => ∀ (x20 : Int32) (x21 : Int32) (w22 : Wd), k23 x20 x21 w22 = some rr → gG ρ cs G X 218 [(0, .ref (ρ 119)), (1, .int x8), (2, .int x9), (3, .ref (ρ q10)), (4, .int x11), (5, .int x20), (6, .int x21), (7, .int x16)] [] w22) hD ?_ (fun k23 hk23 hD => ?_)
      · intro x20 x21 w22 hD
        unfold J_X12_look_j218_3 at hD
        obtain ⟨x24, ex24, hD⟩ := bd_ex hD
        refine g_iinc (v := x24) (L' := [(7, .int x24), (0, .ref (ρ 119)), (1, .int x8), (2, .int x9), (3, .ref (ρ q10)), (4, .int x11), (5, .int x20), (6, .int x21)]) h hn t_X12_look_218 (k := 7) rfl (by rw [ex24]; rfl) (by decide) rfl ?_
        refine g_goto (tgt := 52) h t_X12_look_221 (by decide) ?_
        refine g_loc (L' := [(0, .ref (ρ 119)), (1, .int x8), (2, .int x9), (3, .ref (ρ q10)), (4, .int x11), (5, .int x20), (6, .int x21), (7, .int x24)]) h [1, 2, 3, 4, 5, 6, 7, 0] rfl ?_
        exact ih x20 x21 x24 _ hD
      · refine g_if_ge (tgt := 74) h t_X12_look_68 (by decide) hD (fun hD => ?_) (fun hD => ?_)
        · refine g_aload_n h 3 t_X12_look_74 rfl ?_
          refine g_aload_n h 0 t_X12_look_75 rfl ?_
          refine g_getR h 119 29 132 fl_12_57 rfl (by decide) rfl t_X12_look_76 ?_
          refine g_iload_n h 1 t_X12_look_79 rfl ?_
          refine g_iconst (v := 1) h t_X12_look_80 (by decide) ?_
          refine g_iadd h t_X12_look_81 ?_
          refine g_rald h 132 rfl (by decide) t_X12_look_82 hD (fun q25 eq25 lq25 hD => ?_)
          have hq25 : isIA q25 := iaA (f := 133) (by decide) eq25 lq25
          refine g_iconst (v := 0) h t_X12_look_83 (by decide) ?_
          refine g_callSV h (As := [.ref (ρ q10), .ref (ρ q25), .int 0]) (st := []) my_X12_lay ms_X12_lay ml_12_256 rfl rfl (Nat.le_of_ble_eq_true rfl) (by omega) t_X12_look_84 hD (fun _ e => S_X12_lay hρ hq10 hq25 e) (fun w26 hD => ?_)
          refine g_aload_n h 0 t_X12_look_87 rfl ?_
          refine g_aload_n h 0 t_X12_look_88 rfl ?_
          refine g_getR h 119 29 132 fl_12_57 rfl (by decide) rfl t_X12_look_89 ?_
          refine g_iload_n h 1 t_X12_look_92 rfl ?_
          refine g_iconst (v := 1) h t_X12_look_93 (by decide) ?_
          refine g_iadd h t_X12_look_94 ?_
          refine g_rald h 132 rfl (by decide) t_X12_look_95 hD (fun q27 eq27 lq27 hD => ?_)
          have hq27 : isIA q27 := iaA (f := 133) (by decide) eq27 lq27
          refine g_iload h 7 t_X12_look_96 rfl ?_
          refine g_callVV h 119 (As := [.ref (ρ q27), .int x16]) (st := []) my_X12_goMove mi_X12_goMove ml_12_272 rfl (by decide) rfl rfl rfl (Nat.le_of_ble_eq_true rfl) (by omega) t_X12_look_98 hD (fun _ e => S_X12_goMove hρ hq27 e) (fun w28 hD => ?_)
          refine g_aload_n h 0 t_X12_look_101 rfl ?_
          refine g_iload_n h 1 t_X12_look_102 rfl ?_
          refine g_iconst (v := 1) h t_X12_look_103 (by decide) ?_
          refine g_iadd h t_X12_look_104 ?_
          refine g_iload_n h 2 t_X12_look_105 rfl ?_
          refine g_callVI h 119 (As := [.int (x8 + 1), .int x9]) (st := []) my_X12_look mi_X12_look ml_12_316 rfl (by decide) rfl rfl rfl (Nat.le_of_ble_eq_true rfl) (by omega) t_X12_look_106 hD (fun _ _ e => hrec  e) (fun x30 w29 hD => ?_)
          refine g_istore (L' := [(8, .int x30), (0, .ref (ρ 119)), (1, .int x8), (2, .int x9), (3, .ref (ρ q10)), (4, .int x11), (5, .int x14), (6, .int x15), (7, .int x16)]) h hn t_X12_look_109 (by decide) rfl ?_
          refine g_iload h 7 t_X12_look_111 rfl ?_
          refine g_join (P := fun k32 => ∀ (w31 : Wd), k32 w31 = some rr → gG ρ cs G X 141 [(0, .ref (ρ 119)), (1, .int x8), (2, .int x9), (3, .ref (ρ q10)), (4, .int x11), (7, .int x16), (8, .int x30)] [] w31) hD ?_ (fun k32 hk32 hD => ?_)
          · intro w31 hD
            unfold J_X12_look_j141_2 at hD
            refine g_iconst (v := 0) h t_X12_look_141 (by decide) ?_
            refine g_istore (L' := [(6, .int 0), (0, .ref (ρ 119)), (1, .int x8), (2, .int x9), (3, .ref (ρ q10)), (4, .int x11), (7, .int x16), (8, .int x30)]) h hn t_X12_look_142 (by decide) rfl ?_
            refine g_iload h 7 t_X12_look_144 rfl ?_
            refine g_istore (L' := [(5, .int x30), (6, .int 0), (0, .ref (ρ 119)), (1, .int x8), (2, .int x9), (3, .ref (ρ q10)), (4, .int x11), (7, .int x16), (8, .int x30)]) h hn t_X12_look_146 (by decide) rfl ?_
            refine g_aload_n h 2 t_X12_look_148 rfl ?_
            refine g_getR h 119 34 142 fl_12_66 rfl (by decide) rfl t_X12_look_149 ?_
            refine g_iload_n h 3 t_X12_look_152 rfl ?_
            refine g_rald h 142 rfl (by decide) t_X12_look_153 hD (fun q33 eq33 lq33 hD => ?_)
            have hq33 : isIA q33 := iaA (f := 143) (by decide) eq33 lq33
            refine g_iconst (v := 0) h t_X12_look_154 (by decide) ?_
            refine g_iload h 7 t_X12_look_155 rfl ?_
            refine g_iast h q33 (isIA_sh hq33) (isIA_lt hq33) t_X12_look_157 hD (fun w34 hD => ?_)
            refine g_iconst (v := 0) h t_X12_look_158 (by decide) ?_
            refine g_istore (L' := [(9, .int 0), (5, .int x30), (6, .int 0), (0, .ref (ρ 119)), (1, .int x8), (2, .int x9), (3, .ref (ρ q10)), (4, .int x11), (7, .int x16), (8, .int x30)]) h hn t_X12_look_159 (by decide) rfl ?_
            refine g_loc (L' := [(0, .ref (ρ 119)), (1, .int x8), (2, .int x9), (3, .ref (ρ q10)), (4, .int x11), (5, .int x30), (6, .int 0), (7, .int x16), (9, .int 0)]) h [3, 4, 5, 6, 7, 1, 2, 8, 0] rfl ?_
            refine Q_X12_look_161 hρ hdr hbd hrec hn h hR hq10 ?_ _ _ _ hD
            · intro w49 hD
              unfold J_X12_look_x202_1 at hD
              refine g_aload_n h 0 t_X12_look_202 rfl ?_
              refine g_getR h 119 35 148 fl_12_69 rfl (by decide) rfl t_X12_look_203 ?_
              refine g_iload_n h 1 t_X12_look_206 rfl ?_
              refine g_aload_n h 0 t_X12_look_207 rfl ?_
              refine g_getR h 119 35 148 fl_12_69 rfl (by decide) rfl t_X12_look_208 ?_
              refine g_iload_n h 1 t_X12_look_211 rfl ?_
              refine g_iconst (v := 1) h t_X12_look_212 (by decide) ?_
              refine g_iadd h t_X12_look_213 ?_
              refine g_iald h 148 rfl (by decide) t_X12_look_214 hD (fun hD => ?_)
              refine g_iconst (v := 1) h t_X12_look_215 (by decide) ?_
              refine g_iadd h t_X12_look_216 ?_
              refine g_iast h 148 rfl (by decide) t_X12_look_217 hD (fun w50 hD => ?_)
              refine g_loc (L' := [(0, .ref (ρ 119)), (1, .int x8), (2, .int x9), (3, .ref (ρ q10)), (4, .int x11), (5, .int x30), (6, .int 0), (7, .int x16)]) h [0, 1, 2, 3, 4, 5, 6, 7] rfl ?_
              exact hk23 x30 0 _ hD
          · refine g_if_ne (tgt := 141) h t_X12_look_113 (by decide) hD (fun hD => ?_) (fun hD => ?_)
            · refine g_loc (L' := [(0, .ref (ρ 119)), (1, .int x8), (2, .int x9), (3, .ref (ρ q10)), (4, .int x11), (7, .int x16), (8, .int x30)]) h [1, 2, 3, 4, 5, 8, 0] rfl ?_
              exact hk32 _ hD
            · refine g_iload h 5 t_X12_look_116 rfl ?_
              refine g_if_ne (tgt := 131) h t_X12_look_118 (by decide) hD (fun hD => ?_) (fun hD => ?_)
              · refine g_iload h 0 t_X12_look_131 rfl ?_
                refine g_iload h 6 t_X12_look_133 rfl ?_
                refine g_icmp_lt (tgt := 141) h t_X12_look_135 (by decide) hD (fun hD => ?_) (fun hD => ?_)
                · refine g_loc (L' := [(0, .ref (ρ 119)), (1, .int x8), (2, .int x9), (3, .ref (ρ q10)), (4, .int x11), (7, .int x16), (8, .int x30)]) h [1, 2, 3, 4, 5, 8, 0] rfl ?_
                  exact hk32 _ hD
                · refine g_goto (tgt := 218) h t_X12_look_138 (by decide) ?_
                  refine g_loc (L' := [(0, .ref (ρ 119)), (1, .int x8), (2, .int x9), (3, .ref (ρ q10)), (4, .int x11), (5, .int x14), (6, .int x15), (7, .int x16)]) h [1, 2, 3, 4, 5, 6, 7, 8] rfl ?_
                  exact hk23 x14 x15 _ hD
              · refine g_iload h 0 t_X12_look_121 rfl ?_
                refine g_iload h 6 t_X12_look_123 rfl ?_
                refine g_icmp_gt (tgt := 141) h t_X12_look_125 (by decide) hD (fun hD => ?_) (fun hD => ?_)
                · refine g_loc (L' := [(0, .ref (ρ 119)), (1, .int x8), (2, .int x9), (3, .ref (ρ q10)), (4, .int x11), (7, .int x16), (8, .int x30)]) h [1, 2, 3, 4, 5, 8, 0] rfl ?_
                  exact hk32 _ hD
                · refine g_goto (tgt := 218) h t_X12_look_128 (by decide) ?_
                  refine g_loc (L' := [(0, .ref (ρ 119)), (1, .int x8), (2, .int x9), (3, .ref (ρ q10)), (4, .int x11), (5, .int x14), (6, .int x15), (7, .int x16)]) h [1, 2, 3, 4, 5, 6, 7, 8] rfl ?_
                  exact hk23 x14 x15 _ hD
        · refine g_goto (tgt := 218) h t_X12_look_71 (by decide) ?_
          refine g_loc (L' := [(0, .ref (ρ 119)), (1, .int x8), (2, .int x9), (3, .ref (ρ q10)), (4, .int x11), (5, .int x14), (6, .int x15), (7, .int x16)]) h [0, 1, 2, 3, 4, 5, 6, 7] rfl ?_
          exact hk23 x14 x15 _ hD
set_option maxRecDepth 20000 in
theorem SB_X12_look {l0 : Launch} {ρ : Nat → Nat} {cs : Nat → ClassId} {G : va_G} (hρ : injN ρ) {rec : Int32 → Int32 → Wd → Option (Int32 × Wd)} {dr d : Nat} (hdr : dr < d) (hbd : 4 ≤ d) (hrec : (∀ {p1 : Int32} {p2 : Int32} {w : Wd} {rr : (Int32 × Wd)}, rec p1 p2 w = some rr → CtI l0 ρ cs G y_X12_look prog_14_method_66_code 10 .int dr [.ref (ρ 119), .int p1, .int p2] w rr.1 rr.2)) {p1 : Int32} {p2 : Int32} {w : Wd} {rr : (Int32 × Wd)} (hD : B_X12_look rec p1 p2 w = some rr) : CtI l0 ρ cs G y_X12_look prog_14_method_66_code 10 .int d [.ref (ρ 119), .int p1, .int p2] w rr.1 rr.2 := by
  refine ctI_of hρ (by decide) (Nat.le_of_ble_eq_true rfl) (fun X hn h hR => ?_)
  unfold B_X12_look at hD
  show gG ρ cs G X 0 [(0, .ref (ρ 119)), (1, .int p1), (2, .int p2)] [] w
  refine g_aload_n h 0 t_X12_look_0 rfl ?_
  refine g_getR h 119 29 132 fl_12_57 rfl (by decide) rfl t_X12_look_1 ?_
  refine g_iload_n h 1 t_X12_look_4 rfl ?_
  refine g_rald h 132 rfl (by decide) t_X12_look_5 hD (fun q1 eq1 lq1 hD => ?_)
  have hq1 : isIA q1 := iaA (f := 133) (by decide) eq1 lq1
  refine g_astore_n (L' := [(3, .ref (ρ q1)), (0, .ref (ρ 119)), (1, .int p1), (2, .int p2)]) h hn t_X12_look_6 rfl (by decide) rfl ?_
  refine g_aload_n h 1 t_X12_look_7 rfl ?_
  refine g_getR h 119 35 148 fl_12_69 rfl (by decide) rfl t_X12_look_8 ?_
  refine g_iload_n h 2 t_X12_look_11 rfl ?_
  refine g_iconst (v := 0) h t_X12_look_12 (by decide) ?_
  refine g_iast h 148 rfl (by decide) t_X12_look_13 hD (fun w2 hD => ?_)
  refine g_iload_n h 2 t_X12_look_14 rfl ?_
  refine g_iload_n h 3 t_X12_look_15 rfl ?_
  refine g_join (P := fun k4 => ∀ (w3 : Wd), k4 w3 = some rr → gG ρ cs G X 27 [(3, .ref (ρ q1))] [] w3) hD ?_ (fun k4 hk4 hD => ?_)
  · intro w3 hD
    unfold J_X12_look_j27_5 at hD
    refine g_aload_n h 0 t_X12_look_27 rfl ?_
    refine g_bipush (v := 12) h t_X12_look_28 (by decide) ?_
    refine g_iald h q1 (isIA_sh hq1) (isIA_lt hq1) t_X12_look_30 hD (fun hD => ?_)
    refine g_aload_n h 0 t_X12_look_31 rfl ?_
    refine g_bipush (v := 13) h t_X12_look_32 (by decide) ?_
    refine g_iald h q1 (isIA_sh hq1) (isIA_lt hq1) t_X12_look_34 hD (fun hD => ?_)
    refine g_isub h t_X12_look_35 ?_
    obtain rfl := Option.some.inj hD
    exact hR _ _ t_X12_look_36 rfl
  · refine g_icmp_eq (tgt := 27) h t_X12_look_16 (by decide) hD (fun hD => ?_) (fun hD => ?_)
    · refine g_loc (L' := [(3, .ref (ρ q1))]) h [0] rfl ?_
      exact hk4 _ hD
    · refine g_aload_n h 1 t_X12_look_19 rfl ?_
      refine g_aload_n h 0 t_X12_look_20 rfl ?_
      refine g_callVI h 119 (As := [.ref (ρ q1)]) (st := []) my_X12_isOver mi_X12_isOver ml_12_282 rfl (by decide) rfl rfl rfl (Nat.le_of_ble_eq_true rfl) (by omega) t_X12_look_21 hD (fun _ _ e => S_X12_isOver hρ hq1 e) (fun x6 w5 hD => ?_)
      refine g_if_eq (tgt := 37) h t_X12_look_24 (by decide) hD (fun hD => ?_) (fun hD => ?_)
      · refine g_aload_n h 0 t_X12_look_37 rfl ?_
        refine g_bipush (v := 14) h t_X12_look_38 (by decide) ?_
        refine g_iald h q1 (isIA_sh hq1) (isIA_lt hq1) t_X12_look_40 hD (fun hD => ?_)
        refine g_bdI hD (fun x7 hD => ?_)
        refine g_istore (L' := [(4, .int x7), (3, .ref (ρ q1)), (0, .ref (ρ 119)), (1, .int p1), (2, .int p2)]) h hn t_X12_look_41 (by decide) rfl ?_
        refine g_iconst (v := 0) h t_X12_look_43 (by decide) ?_
        refine g_istore (L' := [(5, .int 0), (4, .int x7), (3, .ref (ρ q1)), (0, .ref (ρ 119)), (1, .int p1), (2, .int p2)]) h hn t_X12_look_44 (by decide) rfl ?_
        refine g_iconst (v := 1) h t_X12_look_46 (by decide) ?_
        refine g_istore (L' := [(6, .int 1), (5, .int 0), (4, .int x7), (3, .ref (ρ q1)), (0, .ref (ρ 119)), (1, .int p1), (2, .int p2)]) h hn t_X12_look_47 (by decide) rfl ?_
        refine g_iconst (v := 0) h t_X12_look_49 (by decide) ?_
        refine g_istore (L' := [(7, .int 0), (6, .int 1), (5, .int 0), (4, .int x7), (3, .ref (ρ q1)), (0, .ref (ρ 119)), (1, .int p1), (2, .int p2)]) h hn t_X12_look_50 (by decide) rfl ?_
        refine g_loc (L' := [(0, .ref (ρ 119)), (1, .int p1), (2, .int p2), (3, .ref (ρ q1)), (4, .int x7), (5, .int 0), (6, .int 1), (7, .int 0)]) h [5, 6, 7, 4, 3, 2, 1, 0] rfl ?_
        refine Q_X12_look_52 hρ hdr hbd hrec hn h hR hq1 ?_ _ _ _ _ _ hD
        · intro x51 w52 hD
          unfold J_X12_look_x224_4 at hD
          refine g_iload h 0 t_X12_look_224 rfl ?_
          obtain rfl := Option.some.inj hD
          exact hR _ _ t_X12_look_226 rfl
      · refine g_loc (L' := [(3, .ref (ρ q1))]) h [0] rfl ?_
        exact hk4 _ hD
def E_X12_look : Nat → Int32 → Int32 → Wd → Option (Int32 × Wd)
  | 0, _, _, _ => none
  | n + 1, p1, p2, w => B_X12_look (fun p1 p2 w => E_X12_look n p1 p2 w) p1 p2 w
set_option maxRecDepth 20000 in
theorem SE_X12_look {l0 : Launch} {ρ : Nat → Nat} {cs : Nat → ClassId} {G : va_G} (hρ : injN ρ) : ∀ n : Nat, (∀ {p1 : Int32} {p2 : Int32} {w : Wd} {rr : (Int32 × Wd)}, E_X12_look n p1 p2 w = some rr → CtI l0 ρ cs G y_X12_look prog_14_method_66_code 10 .int (4 + n) [.ref (ρ 119), .int p1, .int p2] w rr.1 rr.2) := by
  intro n
  induction n with
  | zero =>
    intros
    rename_i hD
    cases hD
  | succ n ih =>
    intros
    rename_i hD
    exact SB_X12_look hρ (rec := fun p1 p2 w => E_X12_look n p1 p2 w) (dr := 4 + n) (d := 4 + (n + 1)) (by omega) (by omega) ih hD
def D_X12_look (p1 : Int32) (p2 : Int32) : Wd → Option (Int32 × Wd) := fun w => E_X12_look 80 p1 p2 w
set_option maxRecDepth 20000 in
theorem S_X12_look {l0 : Launch} {ρ : Nat → Nat} {cs : Nat → ClassId} {G : va_G} (hρ : injN ρ) {p1 : Int32} {p2 : Int32} {w : Wd} {rr : (Int32 × Wd)} (hD : D_X12_look p1 p2 w = some rr) : CtI l0 ρ cs G y_X12_look prog_14_method_66_code 10 .int 84 [.ref (ρ 119), .int p1, .int p2] w rr.1 rr.2 := (SE_X12_look hρ 80) hD
def L_X12_looks_44 (x9 : Int32) (k10 : Wd → Option (Int32 × Wd)) : Nat → Int32 → Wd → Option (Int32 × Wd)
  | 0, _, _ => none
  | n11 + 1, x12, w13 =>
    if ib 0 5 then (if (w13.1 148 (0 : Int32).toNatClampNeg) ≤ x12 then (k10 w13) else (if ib 0 5 then bd (143 + (0 : Int32).toNatClampNeg) (fun q14 => if ib x12 (ln q14) then (bv (D_X12_tell ((w13.1 q14 x12.toNatClampNeg).toInt64) w13) fun w15 => bd (x12 + 1) fun x16 => L_X12_looks_44 x9 k10 n11 x16 w15) else none) else none)) else none
def J_X12_looks_x73_1 (x7 : Int32) : Wd → Option (Int32 × Wd) := fun w17 =>
  if ib 14 16 then (if (w17.1 120 (14 : Int32).toNatClampNeg) = 0 then (some (300 + x7, w17)) else (some (300 + (-x7), w17))) else none
def D_X12_looks (p1 : Int32) : Wd → Option (Int32 × Wd) := fun w =>
  bd (wI w 119 7 0) fun w1 => bc (D_X12_in p1 0 4 w1) fun x3 w2 => if x3 = 0 then (some ((-1), w2)) else (if ib 0 7 then bd (133 + (0 : Int32).toNatClampNeg) (fun q4 => bv (D_X12_lay 120 q4 0 w2) fun w5 => bc (D_X12_look 0 p1 w5) fun x7 w6 => bd (wI w6 119 6 0) fun w8 => L_X12_looks_44 x7 (J_X12_looks_x73_1 x7) FU 0 w8) else none)
set_option maxRecDepth 20000 in
theorem Q_X12_looks_44 {l0 : Launch} {ρ : Nat → Nat} {cs : Nat → ClassId} {G : va_G} {X : Cx} (hρ : injN ρ) (hn : X.2.2.2.2.2.2.2.2.2.2.1 = 4) (h : Okx l0 ρ cs G X prog_14_method_67_code "SowingBoardsModel" 85) {rr : (Int32 × Wd)} (hR : ∀ pc L, decode prog_14_method_67_code pc = .ok (.ireturn, 1) → narrow .int (.int rr.1) = .int rr.1 → gG ρ cs G X pc L [.int rr.1] rr.2) {x9 : Int32} {k10 : Wd → Option (Int32 × Wd)} (hk10 : ∀ (w1 : Wd), k10 w1 = some rr → gG ρ cs G X 73 [(0, .ref (ρ 119)), (2, .int x9)] [] w1) : ∀ (n : Nat) (x12 : Int32) (w : Wd), L_X12_looks_44 x9 k10 n x12 w = some rr → gG ρ cs G X 44 [(0, .ref (ρ 119)), (2, .int x9), (3, .int x12)] [] w := by
  intro n
  induction n with
  | zero =>
    intro x12 w hD
    cases hD
  | succ n11 ih =>
    intro x12 w13 hD
    unfold L_X12_looks_44 at hD
    refine g_iload_n h 2 t_X12_looks_44 rfl ?_
    refine g_aload_n h 0 t_X12_looks_45 rfl ?_
    refine g_getR h 119 35 148 fl_12_69 rfl (by decide) rfl t_X12_looks_46 ?_
    refine g_iconst (v := 0) h t_X12_looks_49 (by decide) ?_
    refine g_iald h 148 rfl (by decide) t_X12_looks_50 hD (fun hD => ?_)
    refine g_icmp_ge (tgt := 73) h t_X12_looks_51 (by decide) hD (fun hD => ?_) (fun hD => ?_)
    · refine g_loc (L' := [(0, .ref (ρ 119)), (2, .int x9)]) h [0, 1] rfl ?_
      exact hk10 _ hD
    · refine g_aload_n h 0 t_X12_looks_54 rfl ?_
      refine g_aload_n h 0 t_X12_looks_55 rfl ?_
      refine g_getR h 119 34 142 fl_12_66 rfl (by decide) rfl t_X12_looks_56 ?_
      refine g_iconst (v := 0) h t_X12_looks_59 (by decide) ?_
      refine g_rald h 142 rfl (by decide) t_X12_looks_60 hD (fun q14 eq14 lq14 hD => ?_)
      have hq14 : isIA q14 := iaA (f := 143) (by decide) eq14 lq14
      refine g_iload_n h 2 t_X12_looks_61 rfl ?_
      refine g_iald h q14 (isIA_sh hq14) (isIA_lt hq14) t_X12_looks_62 hD (fun hD => ?_)
      refine g_i2l h t_X12_looks_63 ?_
      refine g_callVV h 119 (As := [.long ((w13.1 q14 x12.toNatClampNeg).toInt64)]) (st := []) my_X12_tell mi_X12_tell ml_12_260 rfl (by decide) rfl rfl rfl (Nat.le_of_ble_eq_true rfl) (by decide) t_X12_looks_64 hD (fun _ e => S_X12_tell hρ  e) (fun w15 hD => ?_)
      obtain ⟨x16, ex16, hD⟩ := bd_ex hD
      refine g_iinc (v := x16) (L' := [(3, .int x16), (0, .ref (ρ 119)), (2, .int x9)]) h hn t_X12_looks_67 (k := 2) rfl (by rw [ex16]; rfl) (by decide) rfl ?_
      refine g_goto (tgt := 44) h t_X12_looks_70 (by decide) ?_
      refine g_loc (L' := [(0, .ref (ρ 119)), (2, .int x9), (3, .int x16)]) h [1, 2, 0] rfl ?_
      exact ih x16 _ hD
set_option maxRecDepth 20000 in
theorem S_X12_looks {l0 : Launch} {ρ : Nat → Nat} {cs : Nat → ClassId} {G : va_G} (hρ : injN ρ) {p1 : Int32} {w : Wd} {rr : (Int32 × Wd)} (hD : D_X12_looks p1 w = some rr) : CtI l0 ρ cs G y_X12_looks prog_14_method_67_code 4 .int 85 [.ref (ρ 119), .int p1] w rr.1 rr.2 := by
  refine ctI_of hρ (by decide) (Nat.le_of_ble_eq_true rfl) (fun X hn h hR => ?_)
  unfold D_X12_looks at hD
  show gG ρ cs G X 0 [(0, .ref (ρ 119)), (1, .int p1)] [] w
  refine g_aload_n h 0 t_X12_looks_0 rfl ?_
  refine g_iconst (v := 0) h t_X12_looks_1 (by decide) ?_
  refine g_putI h 119 7 fl_12_109 fp_12_7 rfl (by decide) rfl t_X12_looks_2 hD (fun w1 hD => ?_)
  refine g_iload_n h 1 t_X12_looks_5 rfl ?_
  refine g_iconst (v := 0) h t_X12_looks_6 (by decide) ?_
  refine g_iconst (v := 4) h t_X12_looks_7 (by decide) ?_
  refine g_callSI h (As := [.int p1, .int 0, .int 4]) (st := []) my_X12_in ms_X12_in ml_12_118 rfl rfl (Nat.le_of_ble_eq_true rfl) (by decide) t_X12_looks_8 hD (fun _ _ e => S_X12_in hρ  e) (fun x3 w2 hD => ?_)
  refine g_if_ne (tgt := 16) h t_X12_looks_11 (by decide) hD (fun hD => ?_) (fun hD => ?_)
  · refine g_aload_n h 0 t_X12_looks_16 rfl ?_
    refine g_getR h 119 0 120 fl_12_9 rfl (by decide) rfl t_X12_looks_17 ?_
    refine g_aload_n h 0 t_X12_looks_20 rfl ?_
    refine g_getR h 119 29 132 fl_12_57 rfl (by decide) rfl t_X12_looks_21 ?_
    refine g_iconst (v := 0) h t_X12_looks_24 (by decide) ?_
    refine g_rald h 132 rfl (by decide) t_X12_looks_25 hD (fun q4 eq4 lq4 hD => ?_)
    have hq4 : isIA q4 := iaA (f := 133) (by decide) eq4 lq4
    refine g_iconst (v := 0) h t_X12_looks_26 (by decide) ?_
    refine g_callSV h (As := [.ref (ρ 120), .ref (ρ q4), .int 0]) (st := []) my_X12_lay ms_X12_lay ml_12_256 rfl rfl (Nat.le_of_ble_eq_true rfl) (by decide) t_X12_looks_27 hD (fun _ e => S_X12_lay hρ (by decide) hq4 e) (fun w5 hD => ?_)
    refine g_aload_n h 0 t_X12_looks_30 rfl ?_
    refine g_iconst (v := 0) h t_X12_looks_31 (by decide) ?_
    refine g_iload_n h 1 t_X12_looks_32 rfl ?_
    refine g_callVI h 119 (As := [.int 0, .int p1]) (st := []) my_X12_look mi_X12_look ml_12_316 rfl (by decide) rfl rfl rfl (Nat.le_of_ble_eq_true rfl) (by decide) t_X12_looks_33 hD (fun _ _ e => S_X12_look hρ  e) (fun x7 w6 hD => ?_)
    refine g_istore_n (L' := [(2, .int x7), (0, .ref (ρ 119)), (1, .int p1)]) h hn t_X12_looks_36 rfl (by decide) rfl ?_
    refine g_aload_n h 1 t_X12_looks_37 rfl ?_
    refine g_iconst (v := 0) h t_X12_looks_38 (by decide) ?_
    refine g_putI h 119 6 fl_12_112 fp_12_6 rfl (by decide) rfl t_X12_looks_39 hD (fun w8 hD => ?_)
    refine g_iconst (v := 0) h t_X12_looks_42 (by decide) ?_
    refine g_istore_n (L' := [(3, .int 0), (2, .int x7), (0, .ref (ρ 119)), (1, .int p1)]) h hn t_X12_looks_43 rfl (by decide) rfl ?_
    refine g_loc (L' := [(0, .ref (ρ 119)), (2, .int x7), (3, .int 0)]) h [2, 1, 0] rfl ?_
    refine Q_X12_looks_44 hρ hn h hR  ?_ _ _ _ hD
    · intro w17 hD
      unfold J_X12_looks_x73_1 at hD
      refine g_sipush (v := 300) h t_X12_looks_73 (by decide) ?_
      refine g_aload_n h 0 t_X12_looks_76 rfl ?_
      refine g_getR h 119 0 120 fl_12_9 rfl (by decide) rfl t_X12_looks_77 ?_
      refine g_bipush (v := 14) h t_X12_looks_80 (by decide) ?_
      refine g_iald h 120 rfl (by decide) t_X12_looks_82 hD (fun hD => ?_)
      refine g_if_ne (tgt := 90) h t_X12_looks_83 (by decide) hD (fun hD => ?_) (fun hD => ?_)
      · refine g_iload_n h 1 t_X12_looks_90 rfl ?_
        refine g_ineg h t_X12_looks_91 ?_
        refine g_iadd h t_X12_looks_92 ?_
        obtain rfl := Option.some.inj hD
        exact hR _ _ t_X12_looks_93 rfl
      · refine g_iload_n h 1 t_X12_looks_86 rfl ?_
        refine g_goto (tgt := 92) h t_X12_looks_87 (by decide) ?_
        refine g_iadd h t_X12_looks_92 ?_
        obtain rfl := Option.some.inj hD
        exact hR _ _ t_X12_looks_93 rfl
  · refine g_iconst (v := (-1)) h t_X12_looks_14 (by decide) ?_
    obtain rfl := Option.some.inj hD
    exact hR _ _ t_X12_looks_15 rfl
def J_X12_goWays_j141_1 (r65 : Int32 → Wd → Option Wd) (x6 : Int32) : Wd → Option Wd := fun w11 =>
  bd (x6 + 1) fun x13 => r65 x13 w11
def L_X12_goWays_65 (rec : Int32 → Int32 → Int32 → Wd → Option Wd) (x1 : Int32) (x2 : Int32) (x3 : Int32) (k4 : Wd → Option Wd) : Nat → Int32 → Wd → Option Wd
  | 0, _, _ => none
  | n5 + 1, x6, w7 =>
    if (w7.1 119 1) ≤ x6 then (k4 w7) else (if ib x2 7 then bd (133 + x2.toNatClampNeg) (fun q8 => bc (D_X12_refuses q8 x6 w7) fun x10 w9 => bd (J_X12_goWays_j141_1 (L_X12_goWays_65 rec x1 x2 x3 k4 n5) x6) fun k12 => if 0 ≤ x10 then (if ib x2 7 then bd (133 + x2.toNatClampNeg) (fun q14 => if ib (x2 + 1) 7 then bd (133 + (x2 + 1).toNatClampNeg) (fun q15 => bv (D_X12_lay q14 q15 0 w9) fun w16 => if ib (x2 + 1) 7 then bd (133 + (x2 + 1).toNatClampNeg) (fun q17 => bv (D_X12_goMove q17 x6 w16) fun w18 => if ib x2 7 then bd (wI w18 140 x2.toNatClampNeg x6) (fun w19 => bv (rec x1 (x2 + 1) x3 w19) fun w20 => k12 w20) else none) else none) else none) else none) else (k12 w9)) else none)
def J_X12_goWays_x147_2  : Wd → Option Wd := fun w21 =>
  some w21
def L_X12_goWays_20 (rec : Int32 → Int32 → Int32 → Wd → Option Wd) (x23 : Int32) (k24 : Wd → Option Wd) : Nat → Int32 → Wd → Option Wd
  | 0, _, _ => none
  | n25 + 1, x26, w27 =>
    if x23 ≤ x26 then (k24 w27) else (if (w27.1 119 36) = 0 then (if ib x26 7 then (bv (D_X12_tell ((w27.1 140 x26.toNatClampNeg).toInt64) w27) fun w28 => bd (x26 + 1) fun x29 => L_X12_goWays_20 rec x23 k24 n25 x29 w28) else none) else (k24 w27))
def J_X12_goWays_x51_3  : Wd → Option Wd := fun w30 =>
  bd (wI w30 119 36 ((w30.1 119 36) + 1)) fun w31 => some w31
def B_X12_goWays (rec : Int32 → Int32 → Int32 → Wd → Option Wd) (p1 : Int32) (p2 : Int32) (p3 : Int32) : Wd → Option Wd := fun w =>
  if p2 = p3 then (if ib p2 7 then bd (133 + p2.toNatClampNeg) (fun q22 => if ib p1 (ln q22) then (if (w.1 q22 p1.toNatClampNeg) ≤ 0 then (L_X12_goWays_20 rec p3 J_X12_goWays_x51_3 FU 0 w) else (some w)) else none) else none) else (L_X12_goWays_65 rec p1 p2 p3 J_X12_goWays_x147_2 FU 0 w)
set_option maxRecDepth 20000 in
theorem Q_X12_goWays_65 {l0 : Launch} {ρ : Nat → Nat} {cs : Nat → ClassId} {G : va_G} {X : Cx} (hρ : injN ρ) {rec : Int32 → Int32 → Int32 → Wd → Option Wd} {dr d : Nat} (hdr : dr < d) (hbd : 4 ≤ d) (hrec : (∀ {p1 : Int32} {p2 : Int32} {p3 : Int32} {w : Wd} {rr : Wd}, rec p1 p2 p3 w = some rr → CtV l0 ρ cs G y_X12_goWays prog_14_method_68_code 5 dr [.ref (ρ 119), .int p1, .int p2, .int p3] w rr)) (hn : X.2.2.2.2.2.2.2.2.2.2.1 = 5) (h : Okx l0 ρ cs G X prog_14_method_68_code "SowingBoardsModel" d) {rr : Wd} (hR : ∀ pc L, decode prog_14_method_68_code pc = .ok (.return_, 1) → gG ρ cs G X pc L [] rr) {x1 : Int32} {x2 : Int32} {x3 : Int32} {k4 : Wd → Option Wd} (hk4 : ∀ (w1 : Wd), k4 w1 = some rr → gG ρ cs G X 147 [] [] w1) : ∀ (n : Nat) (x6 : Int32) (w : Wd), L_X12_goWays_65 rec x1 x2 x3 k4 n x6 w = some rr → gG ρ cs G X 65 [(0, .ref (ρ 119)), (1, .int x1), (2, .int x2), (3, .int x3), (4, .int x6)] [] w := by
  intro n
  induction n with
  | zero =>
    intro x6 w hD
    cases hD
  | succ n5 ih =>
    intro x6 w7 hD
    unfold L_X12_goWays_65 at hD
    refine g_iload h 4 t_X12_goWays_65 rfl ?_
    refine g_aload_n h 0 t_X12_goWays_67 rfl ?_
    refine g_getI h 119 1 fl_12_13 rfl (by decide) rfl t_X12_goWays_68 ?_
    refine g_icmp_ge (tgt := 147) h t_X12_goWays_71 (by decide) hD (fun hD => ?_) (fun hD => ?_)
    · refine g_loc (L' := []) h [] rfl ?_
      exact hk4 _ hD
    · refine g_aload_n h 0 t_X12_goWays_74 rfl ?_
      refine g_aload_n h 0 t_X12_goWays_75 rfl ?_
      refine g_getR h 119 29 132 fl_12_57 rfl (by decide) rfl t_X12_goWays_76 ?_
      refine g_iload_n h 2 t_X12_goWays_79 rfl ?_
      refine g_rald h 132 rfl (by decide) t_X12_goWays_80 hD (fun q8 eq8 lq8 hD => ?_)
      have hq8 : isIA q8 := iaA (f := 133) (by decide) eq8 lq8
      refine g_iload h 4 t_X12_goWays_81 rfl ?_
      refine g_callVI h 119 (As := [.ref (ρ q8), .int x6]) (st := []) my_X12_refuses mi_X12_refuses ml_12_264 rfl (by decide) rfl rfl rfl (Nat.le_of_ble_eq_true rfl) (by omega) t_X12_goWays_83 hD (fun _ _ e => S_X12_refuses hρ hq8 e) (fun x10 w9 hD => ?_)
      refine g_join (P := fun k12 => ∀ (w11 : Wd), k12 w11 = some rr → gG ρ cs G X 141 [(0, .ref (ρ 119)), (1, .int x1), (2, .int x2), (3, .int x3), (4, .int x6)] [] w11) hD ?_ (fun k12 hk12 hD => ?_)
      · intro w11 hD
        unfold J_X12_goWays_j141_1 at hD
        obtain ⟨x13, ex13, hD⟩ := bd_ex hD
        refine g_iinc (v := x13) (L' := [(4, .int x13), (0, .ref (ρ 119)), (1, .int x1), (2, .int x2), (3, .int x3)]) h hn t_X12_goWays_141 (k := 4) rfl (by rw [ex13]; rfl) (by decide) rfl ?_
        refine g_goto (tgt := 65) h t_X12_goWays_144 (by decide) ?_
        refine g_loc (L' := [(0, .ref (ρ 119)), (1, .int x1), (2, .int x2), (3, .int x3), (4, .int x13)]) h [1, 2, 3, 4, 0] rfl ?_
        exact ih x13 _ hD
      · refine g_if_ge (tgt := 92) h t_X12_goWays_86 (by decide) hD (fun hD => ?_) (fun hD => ?_)
        · refine g_aload_n h 0 t_X12_goWays_92 rfl ?_
          refine g_getR h 119 29 132 fl_12_57 rfl (by decide) rfl t_X12_goWays_93 ?_
          refine g_iload_n h 2 t_X12_goWays_96 rfl ?_
          refine g_rald h 132 rfl (by decide) t_X12_goWays_97 hD (fun q14 eq14 lq14 hD => ?_)
          have hq14 : isIA q14 := iaA (f := 133) (by decide) eq14 lq14
          refine g_aload_n h 0 t_X12_goWays_98 rfl ?_
          refine g_getR h 119 29 132 fl_12_57 rfl (by decide) rfl t_X12_goWays_99 ?_
          refine g_iload_n h 2 t_X12_goWays_102 rfl ?_
          refine g_iconst (v := 1) h t_X12_goWays_103 (by decide) ?_
          refine g_iadd h t_X12_goWays_104 ?_
          refine g_rald h 132 rfl (by decide) t_X12_goWays_105 hD (fun q15 eq15 lq15 hD => ?_)
          have hq15 : isIA q15 := iaA (f := 133) (by decide) eq15 lq15
          refine g_iconst (v := 0) h t_X12_goWays_106 (by decide) ?_
          refine g_callSV h (As := [.ref (ρ q14), .ref (ρ q15), .int 0]) (st := []) my_X12_lay ms_X12_lay ml_12_256 rfl rfl (Nat.le_of_ble_eq_true rfl) (by omega) t_X12_goWays_107 hD (fun _ e => S_X12_lay hρ hq14 hq15 e) (fun w16 hD => ?_)
          refine g_aload_n h 0 t_X12_goWays_110 rfl ?_
          refine g_aload_n h 0 t_X12_goWays_111 rfl ?_
          refine g_getR h 119 29 132 fl_12_57 rfl (by decide) rfl t_X12_goWays_112 ?_
          refine g_iload_n h 2 t_X12_goWays_115 rfl ?_
          refine g_iconst (v := 1) h t_X12_goWays_116 (by decide) ?_
          refine g_iadd h t_X12_goWays_117 ?_
          refine g_rald h 132 rfl (by decide) t_X12_goWays_118 hD (fun q17 eq17 lq17 hD => ?_)
          have hq17 : isIA q17 := iaA (f := 133) (by decide) eq17 lq17
          refine g_iload h 4 t_X12_goWays_119 rfl ?_
          refine g_callVV h 119 (As := [.ref (ρ q17), .int x6]) (st := []) my_X12_goMove mi_X12_goMove ml_12_272 rfl (by decide) rfl rfl rfl (Nat.le_of_ble_eq_true rfl) (by omega) t_X12_goWays_121 hD (fun _ e => S_X12_goMove hρ hq17 e) (fun w18 hD => ?_)
          refine g_aload_n h 0 t_X12_goWays_124 rfl ?_
          refine g_getR h 119 30 140 fl_12_60 rfl (by decide) rfl t_X12_goWays_125 ?_
          refine g_iload_n h 2 t_X12_goWays_128 rfl ?_
          refine g_iload h 4 t_X12_goWays_129 rfl ?_
          refine g_iast h 140 rfl (by decide) t_X12_goWays_131 hD (fun w19 hD => ?_)
          refine g_aload_n h 0 t_X12_goWays_132 rfl ?_
          refine g_iload_n h 1 t_X12_goWays_133 rfl ?_
          refine g_iload_n h 2 t_X12_goWays_134 rfl ?_
          refine g_iconst (v := 1) h t_X12_goWays_135 (by decide) ?_
          refine g_iadd h t_X12_goWays_136 ?_
          refine g_iload_n h 3 t_X12_goWays_137 rfl ?_
          refine g_callVV h 119 (As := [.int x1, .int (x2 + 1), .int x3]) (st := []) my_X12_goWays mi_X12_goWays ml_12_322 rfl (by decide) rfl rfl rfl (Nat.le_of_ble_eq_true rfl) (by omega) t_X12_goWays_138 hD (fun _ e => hrec  e) (fun w20 hD => ?_)
          refine g_loc (L' := [(0, .ref (ρ 119)), (1, .int x1), (2, .int x2), (3, .int x3), (4, .int x6)]) h [0, 1, 2, 3, 4] rfl ?_
          exact hk12 _ hD
        · refine g_goto (tgt := 141) h t_X12_goWays_89 (by decide) ?_
          refine g_loc (L' := [(0, .ref (ρ 119)), (1, .int x1), (2, .int x2), (3, .int x3), (4, .int x6)]) h [0, 1, 2, 3, 4] rfl ?_
          exact hk12 _ hD
set_option maxRecDepth 20000 in
theorem Q_X12_goWays_20 {l0 : Launch} {ρ : Nat → Nat} {cs : Nat → ClassId} {G : va_G} {X : Cx} (hρ : injN ρ) {rec : Int32 → Int32 → Int32 → Wd → Option Wd} {dr d : Nat} (hdr : dr < d) (hbd : 4 ≤ d) (hrec : (∀ {p1 : Int32} {p2 : Int32} {p3 : Int32} {w : Wd} {rr : Wd}, rec p1 p2 p3 w = some rr → CtV l0 ρ cs G y_X12_goWays prog_14_method_68_code 5 dr [.ref (ρ 119), .int p1, .int p2, .int p3] w rr)) (hn : X.2.2.2.2.2.2.2.2.2.2.1 = 5) (h : Okx l0 ρ cs G X prog_14_method_68_code "SowingBoardsModel" d) {rr : Wd} (hR : ∀ pc L, decode prog_14_method_68_code pc = .ok (.return_, 1) → gG ρ cs G X pc L [] rr) {x23 : Int32} {k24 : Wd → Option Wd} (hk24 : ∀ (w1 : Wd), k24 w1 = some rr → gG ρ cs G X 51 [(0, .ref (ρ 119))] [] w1) : ∀ (n : Nat) (x26 : Int32) (w : Wd), L_X12_goWays_20 rec x23 k24 n x26 w = some rr → gG ρ cs G X 20 [(0, .ref (ρ 119)), (3, .int x23), (4, .int x26)] [] w := by
  intro n
  induction n with
  | zero =>
    intro x26 w hD
    cases hD
  | succ n25 ih =>
    intro x26 w27 hD
    unfold L_X12_goWays_20 at hD
    refine g_iload h 2 t_X12_goWays_20 rfl ?_
    refine g_iload_n h 1 t_X12_goWays_22 rfl ?_
    refine g_icmp_ge (tgt := 51) h t_X12_goWays_23 (by decide) hD (fun hD => ?_) (fun hD => ?_)
    · refine g_loc (L' := [(0, .ref (ρ 119))]) h [0] rfl ?_
      exact hk24 _ hD
    · refine g_aload_n h 0 t_X12_goWays_26 rfl ?_
      refine g_getI h 119 36 fl_12_319 rfl (by decide) rfl t_X12_goWays_27 ?_
      refine g_if_ne (tgt := 51) h t_X12_goWays_30 (by decide) hD (fun hD => ?_) (fun hD => ?_)
      · refine g_loc (L' := [(0, .ref (ρ 119))]) h [0] rfl ?_
        exact hk24 _ hD
      · refine g_aload_n h 0 t_X12_goWays_33 rfl ?_
        refine g_aload_n h 0 t_X12_goWays_34 rfl ?_
        refine g_getR h 119 30 140 fl_12_60 rfl (by decide) rfl t_X12_goWays_35 ?_
        refine g_iload h 2 t_X12_goWays_38 rfl ?_
        refine g_iald h 140 rfl (by decide) t_X12_goWays_40 hD (fun hD => ?_)
        refine g_i2l h t_X12_goWays_41 ?_
        refine g_callVV h 119 (As := [.long ((w27.1 140 x26.toNatClampNeg).toInt64)]) (st := []) my_X12_tell mi_X12_tell ml_12_260 rfl (by decide) rfl rfl rfl (Nat.le_of_ble_eq_true rfl) (by omega) t_X12_goWays_42 hD (fun _ e => S_X12_tell hρ  e) (fun w28 hD => ?_)
        obtain ⟨x29, ex29, hD⟩ := bd_ex hD
        refine g_iinc (v := x29) (L' := [(4, .int x29), (0, .ref (ρ 119)), (3, .int x23)]) h hn t_X12_goWays_45 (k := 2) rfl (by rw [ex29]; rfl) (by decide) rfl ?_
        refine g_goto (tgt := 20) h t_X12_goWays_48 (by decide) ?_
        refine g_loc (L' := [(0, .ref (ρ 119)), (3, .int x23), (4, .int x29)]) h [1, 2, 0] rfl ?_
        exact ih x29 _ hD
set_option maxRecDepth 20000 in
theorem SB_X12_goWays {l0 : Launch} {ρ : Nat → Nat} {cs : Nat → ClassId} {G : va_G} (hρ : injN ρ) {rec : Int32 → Int32 → Int32 → Wd → Option Wd} {dr d : Nat} (hdr : dr < d) (hbd : 4 ≤ d) (hrec : (∀ {p1 : Int32} {p2 : Int32} {p3 : Int32} {w : Wd} {rr : Wd}, rec p1 p2 p3 w = some rr → CtV l0 ρ cs G y_X12_goWays prog_14_method_68_code 5 dr [.ref (ρ 119), .int p1, .int p2, .int p3] w rr)) {p1 : Int32} {p2 : Int32} {p3 : Int32} {w : Wd} {rr : Wd} (hD : B_X12_goWays rec p1 p2 p3 w = some rr) : CtV l0 ρ cs G y_X12_goWays prog_14_method_68_code 5 d [.ref (ρ 119), .int p1, .int p2, .int p3] w rr := by
  refine ctV_of hρ (by decide) (Nat.le_of_ble_eq_true rfl) (fun X hn h hR => ?_)
  unfold B_X12_goWays at hD
  show gG ρ cs G X 0 [(0, .ref (ρ 119)), (1, .int p1), (2, .int p2), (3, .int p3)] [] w
  refine g_iload_n h 2 t_X12_goWays_0 rfl ?_
  refine g_iload_n h 3 t_X12_goWays_1 rfl ?_
  refine g_icmp_ne (tgt := 62) h t_X12_goWays_2 (by decide) hD (fun hD => ?_) (fun hD => ?_)
  · refine g_iconst (v := 0) h t_X12_goWays_62 (by decide) ?_
    refine g_istore (L' := [(4, .int 0), (0, .ref (ρ 119)), (1, .int p1), (2, .int p2), (3, .int p3)]) h hn t_X12_goWays_63 (by decide) rfl ?_
    refine g_loc (L' := [(0, .ref (ρ 119)), (1, .int p1), (2, .int p2), (3, .int p3), (4, .int 0)]) h [1, 2, 3, 4, 0] rfl ?_
    refine Q_X12_goWays_65 hρ hdr hbd hrec hn h hR  ?_ _ _ _ hD
    · intro w21 hD
      unfold J_X12_goWays_x147_2 at hD
      obtain rfl := Option.some.inj hD
      exact hR _ _ t_X12_goWays_147
  · refine g_aload_n h 0 t_X12_goWays_5 rfl ?_
    refine g_getR h 119 29 132 fl_12_57 rfl (by decide) rfl t_X12_goWays_6 ?_
    refine g_iload_n h 2 t_X12_goWays_9 rfl ?_
    refine g_rald h 132 rfl (by decide) t_X12_goWays_10 hD (fun q22 eq22 lq22 hD => ?_)
    have hq22 : isIA q22 := iaA (f := 133) (by decide) eq22 lq22
    refine g_iload_n h 1 t_X12_goWays_11 rfl ?_
    refine g_iald h q22 (isIA_sh hq22) (isIA_lt hq22) t_X12_goWays_12 hD (fun hD => ?_)
    refine g_if_le (tgt := 17) h t_X12_goWays_13 (by decide) hD (fun hD => ?_) (fun hD => ?_)
    · refine g_iconst (v := 0) h t_X12_goWays_17 (by decide) ?_
      refine g_istore (L' := [(4, .int 0), (0, .ref (ρ 119)), (1, .int p1), (2, .int p2), (3, .int p3)]) h hn t_X12_goWays_18 (by decide) rfl ?_
      refine g_loc (L' := [(0, .ref (ρ 119)), (3, .int p3), (4, .int 0)]) h [1, 4, 0] rfl ?_
      refine Q_X12_goWays_20 hρ hdr hbd hrec hn h hR  ?_ _ _ _ hD
      · intro w30 hD
        unfold J_X12_goWays_x51_3 at hD
        refine g_aload_n h 0 t_X12_goWays_51 rfl ?_
        refine g_dup h t_X12_goWays_52 rfl ?_
        refine g_getI h 119 36 fl_12_319 rfl (by decide) rfl t_X12_goWays_53 ?_
        refine g_iconst (v := 1) h t_X12_goWays_56 (by decide) ?_
        refine g_iadd h t_X12_goWays_57 ?_
        refine g_putI h 119 36 fl_12_319 fp_12_36 rfl (by decide) rfl t_X12_goWays_58 hD (fun w31 hD => ?_)
        obtain rfl := Option.some.inj hD
        exact hR _ _ t_X12_goWays_61
    · obtain rfl := Option.some.inj hD
      exact hR _ _ t_X12_goWays_16
def E_X12_goWays : Nat → Int32 → Int32 → Int32 → Wd → Option Wd
  | 0, _, _, _, _ => none
  | n + 1, p1, p2, p3, w => B_X12_goWays (fun p1 p2 p3 w => E_X12_goWays n p1 p2 p3 w) p1 p2 p3 w
set_option maxRecDepth 20000 in
theorem SE_X12_goWays {l0 : Launch} {ρ : Nat → Nat} {cs : Nat → ClassId} {G : va_G} (hρ : injN ρ) : ∀ n : Nat, (∀ {p1 : Int32} {p2 : Int32} {p3 : Int32} {w : Wd} {rr : Wd}, E_X12_goWays n p1 p2 p3 w = some rr → CtV l0 ρ cs G y_X12_goWays prog_14_method_68_code 5 (4 + n) [.ref (ρ 119), .int p1, .int p2, .int p3] w rr) := by
  intro n
  induction n with
  | zero =>
    intros
    rename_i hD
    cases hD
  | succ n ih =>
    intros
    rename_i hD
    exact SB_X12_goWays hρ (rec := fun p1 p2 p3 w => E_X12_goWays n p1 p2 p3 w) (dr := 4 + n) (d := 4 + (n + 1)) (by omega) (by omega) ih hD
def D_X12_goWays (p1 : Int32) (p2 : Int32) (p3 : Int32) : Wd → Option Wd := fun w => E_X12_goWays 80 p1 p2 p3 w
set_option maxRecDepth 20000 in
theorem S_X12_goWays {l0 : Launch} {ρ : Nat → Nat} {cs : Nat → ClassId} {G : va_G} (hρ : injN ρ) {p1 : Int32} {p2 : Int32} {p3 : Int32} {w : Wd} {rr : Wd} (hD : D_X12_goWays p1 p2 p3 w = some rr) : CtV l0 ρ cs G y_X12_goWays prog_14_method_68_code 5 84 [.ref (ρ 119), .int p1, .int p2, .int p3] w rr := (SE_X12_goWays hρ 80) hD
def D_X12_ways (p1 : Int32) (p2 : Int32) : Wd → Option (Int32 × Wd) := fun w =>
  bd (wI w 119 7 0) fun w1 => bc (D_X12_pits w1) fun x3 w2 => bc (D_X12_in p1 0 (x3 - 1) w2) fun x5 w4 => if x5 = 0 then (some ((-1), w4)) else (bc (D_X12_in p2 0 4 w4) fun x7 w6 => if x7 = 0 then (some ((-1), w6)) else (bd (wI w6 119 36 0) fun w8 => bd (wI w8 119 6 0) fun w9 => if ib 0 7 then bd (133 + (0 : Int32).toNatClampNeg) (fun q10 => bv (D_X12_lay 120 q10 0 w9) fun w11 => bv (D_X12_goWays p1 0 p2 w11) fun w12 => some (w12.1 119 36, w12)) else none))
set_option maxRecDepth 20000 in
theorem S_X12_ways {l0 : Launch} {ρ : Nat → Nat} {cs : Nat → ClassId} {G : va_G} (hρ : injN ρ) {p1 : Int32} {p2 : Int32} {w : Wd} {rr : (Int32 × Wd)} (hD : D_X12_ways p1 p2 w = some rr) : CtI l0 ρ cs G y_X12_ways prog_14_method_69_code 3 .int 85 [.ref (ρ 119), .int p1, .int p2] w rr.1 rr.2 := by
  refine ctI_of hρ (by decide) (Nat.le_of_ble_eq_true rfl) (fun X hn h hR => ?_)
  unfold D_X12_ways at hD
  show gG ρ cs G X 0 [(0, .ref (ρ 119)), (1, .int p1), (2, .int p2)] [] w
  refine g_aload_n h 0 t_X12_ways_0 rfl ?_
  refine g_iconst (v := 0) h t_X12_ways_1 (by decide) ?_
  refine g_putI h 119 7 fl_12_109 fp_12_7 rfl (by decide) rfl t_X12_ways_2 hD (fun w1 hD => ?_)
  refine g_iload_n h 1 t_X12_ways_5 rfl ?_
  refine g_iconst (v := 0) h t_X12_ways_6 (by decide) ?_
  refine g_aload_n h 0 t_X12_ways_7 rfl ?_
  refine g_callVI h 119 (As := []) (st := [.int 0, .int p1]) my_X12_pits mi_X12_pits ml_12_214 rfl (by decide) rfl rfl rfl (Nat.le_of_ble_eq_true rfl) (by decide) t_X12_ways_8 hD (fun _ _ e => S_X12_pits hρ  e) (fun x3 w2 hD => ?_)
  refine g_iconst (v := 1) h t_X12_ways_11 (by decide) ?_
  refine g_isub h t_X12_ways_12 ?_
  refine g_callSI h (As := [.int p1, .int 0, .int (x3 - 1)]) (st := []) my_X12_in ms_X12_in ml_12_118 rfl rfl (Nat.le_of_ble_eq_true rfl) (by decide) t_X12_ways_13 hD (fun _ _ e => S_X12_in hρ  e) (fun x5 w4 hD => ?_)
  refine g_if_eq (tgt := 28) h t_X12_ways_16 (by decide) hD (fun hD => ?_) (fun hD => ?_)
  · refine g_iconst (v := (-1)) h t_X12_ways_28 (by decide) ?_
    obtain rfl := Option.some.inj hD
    exact hR _ _ t_X12_ways_29 rfl
  · refine g_iload_n h 2 t_X12_ways_19 rfl ?_
    refine g_iconst (v := 0) h t_X12_ways_20 (by decide) ?_
    refine g_iconst (v := 4) h t_X12_ways_21 (by decide) ?_
    refine g_callSI h (As := [.int p2, .int 0, .int 4]) (st := []) my_X12_in ms_X12_in ml_12_118 rfl rfl (Nat.le_of_ble_eq_true rfl) (by decide) t_X12_ways_22 hD (fun _ _ e => S_X12_in hρ  e) (fun x7 w6 hD => ?_)
    refine g_if_ne (tgt := 30) h t_X12_ways_25 (by decide) hD (fun hD => ?_) (fun hD => ?_)
    · refine g_aload_n h 0 t_X12_ways_30 rfl ?_
      refine g_iconst (v := 0) h t_X12_ways_31 (by decide) ?_
      refine g_putI h 119 36 fl_12_319 fp_12_36 rfl (by decide) rfl t_X12_ways_32 hD (fun w8 hD => ?_)
      refine g_aload_n h 0 t_X12_ways_35 rfl ?_
      refine g_iconst (v := 0) h t_X12_ways_36 (by decide) ?_
      refine g_putI h 119 6 fl_12_112 fp_12_6 rfl (by decide) rfl t_X12_ways_37 hD (fun w9 hD => ?_)
      refine g_aload_n h 0 t_X12_ways_40 rfl ?_
      refine g_getR h 119 0 120 fl_12_9 rfl (by decide) rfl t_X12_ways_41 ?_
      refine g_aload_n h 0 t_X12_ways_44 rfl ?_
      refine g_getR h 119 29 132 fl_12_57 rfl (by decide) rfl t_X12_ways_45 ?_
      refine g_iconst (v := 0) h t_X12_ways_48 (by decide) ?_
      refine g_rald h 132 rfl (by decide) t_X12_ways_49 hD (fun q10 eq10 lq10 hD => ?_)
      have hq10 : isIA q10 := iaA (f := 133) (by decide) eq10 lq10
      refine g_iconst (v := 0) h t_X12_ways_50 (by decide) ?_
      refine g_callSV h (As := [.ref (ρ 120), .ref (ρ q10), .int 0]) (st := []) my_X12_lay ms_X12_lay ml_12_256 rfl rfl (Nat.le_of_ble_eq_true rfl) (by decide) t_X12_ways_51 hD (fun _ e => S_X12_lay hρ (by decide) hq10 e) (fun w11 hD => ?_)
      refine g_aload_n h 0 t_X12_ways_54 rfl ?_
      refine g_iload_n h 1 t_X12_ways_55 rfl ?_
      refine g_iconst (v := 0) h t_X12_ways_56 (by decide) ?_
      refine g_iload_n h 2 t_X12_ways_57 rfl ?_
      refine g_callVV h 119 (As := [.int p1, .int 0, .int p2]) (st := []) my_X12_goWays mi_X12_goWays ml_12_322 rfl (by decide) rfl rfl rfl (Nat.le_of_ble_eq_true rfl) (by decide) t_X12_ways_58 hD (fun _ e => S_X12_goWays hρ  e) (fun w12 hD => ?_)
      refine g_aload_n h 0 t_X12_ways_61 rfl ?_
      refine g_getI h 119 36 fl_12_319 rfl (by decide) rfl t_X12_ways_62 ?_
      obtain rfl := Option.some.inj hD
      exact hR _ _ t_X12_ways_65 rfl
    · refine g_iconst (v := (-1)) h t_X12_ways_28 (by decide) ?_
      obtain rfl := Option.some.inj hD
      exact hR _ _ t_X12_ways_29 rfl
def L_X12_isReached_2 (q1 : Nat) (x2 : Int32) (k3 : Wd → Option (Int32 × Wd)) (k4 : Wd → Option (Int32 × Wd)) : Nat → Int32 → Wd → Option (Int32 × Wd)
  | 0, _, _ => none
  | n5 + 1, x6, w7 =>
    if 15 ≤ x6 then (k4 w7) else (if ib ((16 * x2) + x6) 3456 then (if ib x6 (ln q1) then (if (w7.1 149 ((16 * x2) + x6).toNatClampNeg) = (w7.1 q1 x6.toNatClampNeg) then (bd (x6 + 1) fun x8 => L_X12_isReached_2 q1 x2 k3 k4 n5 x8 w7) else (k3 w7)) else none) else none)
def J_X12_isReached_x25_1  : Wd → Option (Int32 × Wd) := fun w9 =>
  some (0, w9)
def J_X12_isReached_x33_2  : Wd → Option (Int32 × Wd) := fun w10 =>
  some (1, w10)
def D_X12_isReached (o1 : Nat) (p2 : Int32) : Wd → Option (Int32 × Wd) := fun w =>
  L_X12_isReached_2 o1 p2 J_X12_isReached_x25_1 J_X12_isReached_x33_2 FU 0 w
set_option maxRecDepth 20000 in
theorem Q_X12_isReached_2 {l0 : Launch} {ρ : Nat → Nat} {cs : Nat → ClassId} {G : va_G} {X : Cx} (hρ : injN ρ) (hn : X.2.2.2.2.2.2.2.2.2.2.1 = 4) (h : Okx l0 ρ cs G X prog_14_method_70_code "SowingBoardsModel" 0) {rr : (Int32 × Wd)} (hR : ∀ pc L, decode prog_14_method_70_code pc = .ok (.ireturn, 1) → narrow .boolean (.int rr.1) = .int rr.1 → gG ρ cs G X pc L [.int rr.1] rr.2) {q1 : Nat} (hq1 : isIA q1) {x2 : Int32} {k3 : Wd → Option (Int32 × Wd)} (hk3 : ∀ (w1 : Wd), k3 w1 = some rr → gG ρ cs G X 25 [] [] w1) {k4 : Wd → Option (Int32 × Wd)} (hk4 : ∀ (w1 : Wd), k4 w1 = some rr → gG ρ cs G X 33 [] [] w1) : ∀ (n : Nat) (x6 : Int32) (w : Wd), L_X12_isReached_2 q1 x2 k3 k4 n x6 w = some rr → gG ρ cs G X 2 [(0, .ref (ρ 119)), (1, .ref (ρ q1)), (2, .int x2), (3, .int x6)] [] w := by
  intro n
  induction n with
  | zero =>
    intro x6 w hD
    cases hD
  | succ n5 ih =>
    intro x6 w7 hD
    unfold L_X12_isReached_2 at hD
    refine g_iload_n h 3 t_X12_isReached_2 rfl ?_
    refine g_bipush (v := 15) h t_X12_isReached_3 (by decide) ?_
    refine g_icmp_ge (tgt := 33) h t_X12_isReached_5 (by decide) hD (fun hD => ?_) (fun hD => ?_)
    · refine g_loc (L' := []) h [] rfl ?_
      exact hk4 _ hD
    · refine g_aload_n h 0 t_X12_isReached_8 rfl ?_
      refine g_getR h 119 37 149 fl_12_72 rfl (by decide) rfl t_X12_isReached_9 ?_
      refine g_bipush (v := 16) h t_X12_isReached_12 (by decide) ?_
      refine g_iload_n h 2 t_X12_isReached_14 rfl ?_
      refine g_imul h t_X12_isReached_15 ?_
      refine g_iload_n h 3 t_X12_isReached_16 rfl ?_
      refine g_iadd h t_X12_isReached_17 ?_
      refine g_iald h 149 rfl (by decide) t_X12_isReached_18 hD (fun hD => ?_)
      refine g_aload_n h 1 t_X12_isReached_19 rfl ?_
      refine g_iload_n h 3 t_X12_isReached_20 rfl ?_
      refine g_iald h q1 (isIA_sh hq1) (isIA_lt hq1) t_X12_isReached_21 hD (fun hD => ?_)
      refine g_icmp_eq (tgt := 27) h t_X12_isReached_22 (by decide) hD (fun hD => ?_) (fun hD => ?_)
      · obtain ⟨x8, ex8, hD⟩ := bd_ex hD
        refine g_iinc (v := x8) (L' := [(3, .int x8), (0, .ref (ρ 119)), (1, .ref (ρ q1)), (2, .int x2)]) h hn t_X12_isReached_27 (k := 3) rfl (by rw [ex8]; rfl) (by decide) rfl ?_
        refine g_goto (tgt := 2) h t_X12_isReached_30 (by decide) ?_
        refine g_loc (L' := [(0, .ref (ρ 119)), (1, .ref (ρ q1)), (2, .int x2), (3, .int x8)]) h [1, 2, 3, 0] rfl ?_
        exact ih x8 _ hD
      · refine g_loc (L' := []) h [] rfl ?_
        exact hk3 _ hD
set_option maxRecDepth 20000 in
theorem S_X12_isReached {l0 : Launch} {ρ : Nat → Nat} {cs : Nat → ClassId} {G : va_G} (hρ : injN ρ) {o1 : Nat} (ho1 : isIA o1) {p2 : Int32} {w : Wd} {rr : (Int32 × Wd)} (hD : D_X12_isReached o1 p2 w = some rr) : CtI l0 ρ cs G y_X12_isReached prog_14_method_70_code 4 .boolean 0 [.ref (ρ 119), .ref (ρ o1), .int p2] w rr.1 rr.2 := by
  refine ctI_of hρ (by decide) (Nat.le_of_ble_eq_true rfl) (fun X hn h hR => ?_)
  unfold D_X12_isReached at hD
  show gG ρ cs G X 0 [(0, .ref (ρ 119)), (1, .ref (ρ o1)), (2, .int p2)] [] w
  refine g_iconst (v := 0) h t_X12_isReached_0 (by decide) ?_
  refine g_istore_n (L' := [(3, .int 0), (0, .ref (ρ 119)), (1, .ref (ρ o1)), (2, .int p2)]) h hn t_X12_isReached_1 rfl (by decide) rfl ?_
  refine g_loc (L' := [(0, .ref (ρ 119)), (1, .ref (ρ o1)), (2, .int p2), (3, .int 0)]) h [1, 2, 3, 0] rfl ?_
  refine Q_X12_isReached_2 hρ hn h hR ho1 ?_ ?_ _ _ _ hD
  · intro w9 hD
    unfold J_X12_isReached_x25_1 at hD
    refine g_iconst (v := 0) h t_X12_isReached_25 (by decide) ?_
    obtain rfl := Option.some.inj hD
    exact hR _ _ t_X12_isReached_26 (b01_n rfl)
  · intro w10 hD
    unfold J_X12_isReached_x33_2 at hD
    refine g_iconst (v := 1) h t_X12_isReached_33 (by decide) ?_
    obtain rfl := Option.some.inj hD
    exact hR _ _ t_X12_isReached_34 (b01_n rfl)
