def y_X12_thrown : MethodName := ⟨"SowingBoardsModel", "thrown", "()I"⟩
theorem t_X12_thrown_0 : decode prog_14_method_2_code 0 = .ok (.aload_n 0, 1) := by decide +kernel
theorem t_X12_thrown_1 : decode prog_14_method_2_code 1 = .ok (.getfield 109, 3) := by decide +kernel
theorem t_X12_thrown_4 : decode prog_14_method_2_code 4 = .ok (.ireturn, 1) := by decide +kernel
def y_X12_in : MethodName := ⟨"SowingBoardsModel", "in", "(III)Z"⟩
theorem t_X12_in_0 : decode prog_14_method_3_code 0 = .ok (.iload_n 0, 1) := by decide +kernel
theorem t_X12_in_1 : decode prog_14_method_3_code 1 = .ok (.iload_n 1, 1) := by decide +kernel
theorem t_X12_in_2 : decode prog_14_method_3_code 2 = .ok (.if_icmp .lt 12, 3) := by decide +kernel
theorem t_X12_in_5 : decode prog_14_method_3_code 5 = .ok (.iload_n 0, 1) := by decide +kernel
theorem t_X12_in_6 : decode prog_14_method_3_code 6 = .ok (.iload_n 2, 1) := by decide +kernel
theorem t_X12_in_7 : decode prog_14_method_3_code 7 = .ok (.if_icmp .gt 7, 3) := by decide +kernel
theorem t_X12_in_10 : decode prog_14_method_3_code 10 = .ok (.iconst 1, 1) := by decide +kernel
theorem t_X12_in_11 : decode prog_14_method_3_code 11 = .ok (.goto 4, 3) := by decide +kernel
theorem t_X12_in_14 : decode prog_14_method_3_code 14 = .ok (.iconst 0, 1) := by decide +kernel
theorem t_X12_in_15 : decode prog_14_method_3_code 15 = .ok (.ireturn, 1) := by decide +kernel
def y_X12_has : MethodName := ⟨"SowingBoardsModel", "has", "(II)Z"⟩
theorem t_X12_has_0 : decode prog_14_method_4_code 0 = .ok (.iload_n 0, 1) := by decide +kernel
theorem t_X12_has_1 : decode prog_14_method_4_code 1 = .ok (.iload_n 1, 1) := by decide +kernel
theorem t_X12_has_2 : decode prog_14_method_4_code 2 = .ok (.ishr, 1) := by decide +kernel
theorem t_X12_has_3 : decode prog_14_method_4_code 3 = .ok (.iconst 1, 1) := by decide +kernel
theorem t_X12_has_4 : decode prog_14_method_4_code 4 = .ok (.iand, 1) := by decide +kernel
theorem t_X12_has_5 : decode prog_14_method_4_code 5 = .ok (.iconst 1, 1) := by decide +kernel
theorem t_X12_has_6 : decode prog_14_method_4_code 6 = .ok (.if_icmp .ne 7, 3) := by decide +kernel
theorem t_X12_has_9 : decode prog_14_method_4_code 9 = .ok (.iconst 1, 1) := by decide +kernel
theorem t_X12_has_10 : decode prog_14_method_4_code 10 = .ok (.goto 4, 3) := by decide +kernel
theorem t_X12_has_13 : decode prog_14_method_4_code 13 = .ok (.iconst 0, 1) := by decide +kernel
theorem t_X12_has_14 : decode prog_14_method_4_code 14 = .ok (.ireturn, 1) := by decide +kernel
def y_X12_lost : MethodName := ⟨"SowingBoardsModel", "lost", "()I"⟩
theorem t_X12_lost_0 : decode prog_14_method_5_code 0 = .ok (.aload_n 0, 1) := by decide +kernel
theorem t_X12_lost_1 : decode prog_14_method_5_code 1 = .ok (.iconst 1, 1) := by decide +kernel
theorem t_X12_lost_2 : decode prog_14_method_5_code 2 = .ok (.putfield 109, 3) := by decide +kernel
theorem t_X12_lost_5 : decode prog_14_method_5_code 5 = .ok (.iconst 0, 1) := by decide +kernel
theorem t_X12_lost_6 : decode prog_14_method_5_code 6 = .ok (.ireturn, 1) := by decide +kernel
def y_X12_tell : MethodName := ⟨"SowingBoardsModel", "tell", "(J)V"⟩
theorem t_X12_tell_0 : decode prog_14_method_6_code 0 = .ok (.aload_n 0, 1) := by decide +kernel
theorem t_X12_tell_1 : decode prog_14_method_6_code 1 = .ok (.getfield 24, 3) := by decide +kernel
theorem t_X12_tell_4 : decode prog_14_method_6_code 4 = .ok (.aload_n 0, 1) := by decide +kernel
theorem t_X12_tell_5 : decode prog_14_method_6_code 5 = .ok (.getfield 112, 3) := by decide +kernel
theorem t_X12_tell_8 : decode prog_14_method_6_code 8 = .ok (.lload_n 1, 1) := by decide +kernel
theorem t_X12_tell_9 : decode prog_14_method_6_code 9 = .ok (.lastore, 1) := by decide +kernel
theorem t_X12_tell_10 : decode prog_14_method_6_code 10 = .ok (.aload_n 0, 1) := by decide +kernel
theorem t_X12_tell_11 : decode prog_14_method_6_code 11 = .ok (.dup, 1) := by decide +kernel
theorem t_X12_tell_12 : decode prog_14_method_6_code 12 = .ok (.getfield 112, 3) := by decide +kernel
theorem t_X12_tell_15 : decode prog_14_method_6_code 15 = .ok (.iconst 1, 1) := by decide +kernel
theorem t_X12_tell_16 : decode prog_14_method_6_code 16 = .ok (.iadd, 1) := by decide +kernel
theorem t_X12_tell_17 : decode prog_14_method_6_code 17 = .ok (.putfield 112, 3) := by decide +kernel
theorem t_X12_tell_20 : decode prog_14_method_6_code 20 = .ok (.return_, 1) := by decide +kernel
def y_X12_pits : MethodName := ⟨"SowingBoardsModel", "pits", "()I"⟩
theorem t_X12_pits_0 : decode prog_14_method_7_code 0 = .ok (.iconst 2, 1) := by decide +kernel
theorem t_X12_pits_1 : decode prog_14_method_7_code 1 = .ok (.aload_n 0, 1) := by decide +kernel
theorem t_X12_pits_2 : decode prog_14_method_7_code 2 = .ok (.getfield 13, 3) := by decide +kernel
theorem t_X12_pits_5 : decode prog_14_method_7_code 5 = .ok (.imul, 1) := by decide +kernel
theorem t_X12_pits_6 : decode prog_14_method_7_code 6 = .ok (.ireturn, 1) := by decide +kernel
def y_X12_sign : MethodName := ⟨"SowingBoardsModel", "sign", "(I)I"⟩
theorem t_X12_sign_0 : decode prog_14_method_8_code 0 = .ok (.aload_n 0, 1) := by decide +kernel
theorem t_X12_sign_1 : decode prog_14_method_8_code 1 = .ok (.iconst 0, 1) := by decide +kernel
theorem t_X12_sign_2 : decode prog_14_method_8_code 2 = .ok (.putfield 109, 3) := by decide +kernel
theorem t_X12_sign_5 : decode prog_14_method_8_code 5 = .ok (.aload_n 0, 1) := by decide +kernel
theorem t_X12_sign_6 : decode prog_14_method_8_code 6 = .ok (.getfield 115, 3) := by decide +kernel
theorem t_X12_sign_9 : decode prog_14_method_8_code 9 = .ok (.iconst 4, 1) := by decide +kernel
theorem t_X12_sign_10 : decode prog_14_method_8_code 10 = .ok (.iadd, 1) := by decide +kernel
theorem t_X12_sign_11 : decode prog_14_method_8_code 11 = .ok (.bipush 80, 2) := by decide +kernel
theorem t_X12_sign_13 : decode prog_14_method_8_code 13 = .ok (.if_icmp .le 5, 3) := by decide +kernel
theorem t_X12_sign_16 : decode prog_14_method_8_code 16 = .ok (.iconst (-1), 1) := by decide +kernel
theorem t_X12_sign_17 : decode prog_14_method_8_code 17 = .ok (.ireturn, 1) := by decide +kernel
theorem t_X12_sign_18 : decode prog_14_method_8_code 18 = .ok (.iconst 3, 1) := by decide +kernel
theorem t_X12_sign_19 : decode prog_14_method_8_code 19 = .ok (.istore_n 2, 1) := by decide +kernel
theorem t_X12_sign_20 : decode prog_14_method_8_code 20 = .ok (.iload_n 2, 1) := by decide +kernel
theorem t_X12_sign_21 : decode prog_14_method_8_code 21 = .ok (.ifCond .lt 32, 3) := by decide +kernel
theorem t_X12_sign_24 : decode prog_14_method_8_code 24 = .ok (.aload_n 0, 1) := by decide +kernel
theorem t_X12_sign_25 : decode prog_14_method_8_code 25 = .ok (.getfield 20, 3) := by decide +kernel
theorem t_X12_sign_28 : decode prog_14_method_8_code 28 = .ok (.aload_n 0, 1) := by decide +kernel
theorem t_X12_sign_29 : decode prog_14_method_8_code 29 = .ok (.dup, 1) := by decide +kernel
theorem t_X12_sign_30 : decode prog_14_method_8_code 30 = .ok (.getfield 115, 3) := by decide +kernel
theorem t_X12_sign_33 : decode prog_14_method_8_code 33 = .ok (.dup_x1, 1) := by decide +kernel
theorem t_X12_sign_34 : decode prog_14_method_8_code 34 = .ok (.iconst 1, 1) := by decide +kernel
theorem t_X12_sign_35 : decode prog_14_method_8_code 35 = .ok (.iadd, 1) := by decide +kernel
theorem t_X12_sign_36 : decode prog_14_method_8_code 36 = .ok (.putfield 115, 3) := by decide +kernel
theorem t_X12_sign_39 : decode prog_14_method_8_code 39 = .ok (.iload_n 1, 1) := by decide +kernel
theorem t_X12_sign_40 : decode prog_14_method_8_code 40 = .ok (.bipush 8, 2) := by decide +kernel
theorem t_X12_sign_42 : decode prog_14_method_8_code 42 = .ok (.iload_n 2, 1) := by decide +kernel
theorem t_X12_sign_43 : decode prog_14_method_8_code 43 = .ok (.imul, 1) := by decide +kernel
theorem t_X12_sign_44 : decode prog_14_method_8_code 44 = .ok (.ishr, 1) := by decide +kernel
theorem t_X12_sign_45 : decode prog_14_method_8_code 45 = .ok (.i2b, 1) := by decide +kernel
theorem t_X12_sign_46 : decode prog_14_method_8_code 46 = .ok (.bastore, 1) := by decide +kernel
theorem t_X12_sign_47 : decode prog_14_method_8_code 47 = .ok (.iinc 2 (-1), 3) := by decide +kernel
theorem t_X12_sign_50 : decode prog_14_method_8_code 50 = .ok (.goto (-30), 3) := by decide +kernel
theorem t_X12_sign_53 : decode prog_14_method_8_code 53 = .ok (.aload_n 0, 1) := by decide +kernel
theorem t_X12_sign_54 : decode prog_14_method_8_code 54 = .ok (.getfield 115, 3) := by decide +kernel
theorem t_X12_sign_57 : decode prog_14_method_8_code 57 = .ok (.ireturn, 1) := by decide +kernel
def y_X12_end : MethodName := ⟨"SowingBoardsModel", "end", "(I)Z"⟩
theorem t_X12_end_0 : decode prog_14_method_9_code 0 = .ok (.aload_n 0, 1) := by decide +kernel
theorem t_X12_end_1 : decode prog_14_method_9_code 1 = .ok (.iconst 0, 1) := by decide +kernel
theorem t_X12_end_2 : decode prog_14_method_9_code 2 = .ok (.putfield 109, 3) := by decide +kernel
theorem t_X12_end_5 : decode prog_14_method_9_code 5 = .ok (.iload_n 1, 1) := by decide +kernel
theorem t_X12_end_6 : decode prog_14_method_9_code 6 = .ok (.iconst 0, 1) := by decide +kernel
theorem t_X12_end_7 : decode prog_14_method_9_code 7 = .ok (.aload_n 0, 1) := by decide +kernel
theorem t_X12_end_8 : decode prog_14_method_9_code 8 = .ok (.getfield 115, 3) := by decide +kernel
theorem t_X12_end_11 : decode prog_14_method_9_code 11 = .ok (.invokestatic 118, 3) := by decide +kernel
theorem t_X12_end_14 : decode prog_14_method_9_code 14 = .ok (.ifCond .ne 5, 3) := by decide +kernel
theorem t_X12_end_17 : decode prog_14_method_9_code 17 = .ok (.iconst 0, 1) := by decide +kernel
theorem t_X12_end_18 : decode prog_14_method_9_code 18 = .ok (.ireturn, 1) := by decide +kernel
theorem t_X12_end_19 : decode prog_14_method_9_code 19 = .ok (.aload_n 0, 1) := by decide +kernel
theorem t_X12_end_20 : decode prog_14_method_9_code 20 = .ok (.iload_n 1, 1) := by decide +kernel
theorem t_X12_end_21 : decode prog_14_method_9_code 21 = .ok (.putfield 115, 3) := by decide +kernel
theorem t_X12_end_24 : decode prog_14_method_9_code 24 = .ok (.iconst 1, 1) := by decide +kernel
theorem t_X12_end_25 : decode prog_14_method_9_code 25 = .ok (.ireturn, 1) := by decide +kernel
def y_X12_begin : MethodName := ⟨"SowingBoardsModel", "begin", "([BII)V"⟩
theorem t_X12_begin_0 : decode prog_14_method_10_code 0 = .ok (.aload_n 0, 1) := by decide +kernel
theorem t_X12_begin_1 : decode prog_14_method_10_code 1 = .ok (.aload_n 1, 1) := by decide +kernel
theorem t_X12_begin_2 : decode prog_14_method_10_code 2 = .ok (.putfield 122, 3) := by decide +kernel
theorem t_X12_begin_5 : decode prog_14_method_10_code 5 = .ok (.aload_n 0, 1) := by decide +kernel
theorem t_X12_begin_6 : decode prog_14_method_10_code 6 = .ok (.iload_n 2, 1) := by decide +kernel
theorem t_X12_begin_7 : decode prog_14_method_10_code 7 = .ok (.putfield 125, 3) := by decide +kernel
theorem t_X12_begin_10 : decode prog_14_method_10_code 10 = .ok (.aload_n 0, 1) := by decide +kernel
theorem t_X12_begin_11 : decode prog_14_method_10_code 11 = .ok (.iload_n 3, 1) := by decide +kernel
theorem t_X12_begin_12 : decode prog_14_method_10_code 12 = .ok (.putfield 128, 3) := by decide +kernel
theorem t_X12_begin_15 : decode prog_14_method_10_code 15 = .ok (.aload_n 0, 1) := by decide +kernel
theorem t_X12_begin_16 : decode prog_14_method_10_code 16 = .ok (.iconst 0, 1) := by decide +kernel
theorem t_X12_begin_17 : decode prog_14_method_10_code 17 = .ok (.putfield 131, 3) := by decide +kernel
theorem t_X12_begin_20 : decode prog_14_method_10_code 20 = .ok (.aload_n 0, 1) := by decide +kernel
theorem t_X12_begin_21 : decode prog_14_method_10_code 21 = .ok (.iconst (-1), 1) := by decide +kernel
theorem t_X12_begin_22 : decode prog_14_method_10_code 22 = .ok (.putfield 134, 3) := by decide +kernel
theorem t_X12_begin_25 : decode prog_14_method_10_code 25 = .ok (.return_, 1) := by decide +kernel
def y_X12_beginText : MethodName := ⟨"SowingBoardsModel", "beginText", "(I)V"⟩
theorem t_X12_beginText_0 : decode prog_14_method_11_code 0 = .ok (.aload_n 0, 1) := by decide +kernel
theorem t_X12_beginText_1 : decode prog_14_method_11_code 1 = .ok (.aload_n 0, 1) := by decide +kernel
theorem t_X12_beginText_2 : decode prog_14_method_11_code 2 = .ok (.getfield 20, 3) := by decide +kernel
theorem t_X12_beginText_5 : decode prog_14_method_11_code 5 = .ok (.aload_n 0, 1) := by decide +kernel
theorem t_X12_beginText_6 : decode prog_14_method_11_code 6 = .ok (.getfield 115, 3) := by decide +kernel
theorem t_X12_beginText_9 : decode prog_14_method_11_code 9 = .ok (.iload_n 1, 1) := by decide +kernel
theorem t_X12_beginText_10 : decode prog_14_method_11_code 10 = .ok (.invokevirtual 137, 3) := by decide +kernel
theorem t_X12_beginText_13 : decode prog_14_method_11_code 13 = .ok (.aload_n 0, 1) := by decide +kernel
theorem t_X12_beginText_14 : decode prog_14_method_11_code 14 = .ok (.iconst 0, 1) := by decide +kernel
theorem t_X12_beginText_15 : decode prog_14_method_11_code 15 = .ok (.putfield 115, 3) := by decide +kernel
theorem t_X12_beginText_18 : decode prog_14_method_11_code 18 = .ok (.return_, 1) := by decide +kernel
def y_X12_here : MethodName := ⟨"SowingBoardsModel", "here", "()I"⟩
theorem t_X12_here_0 : decode prog_14_method_12_code 0 = .ok (.aload_n 0, 1) := by decide +kernel
theorem t_X12_here_1 : decode prog_14_method_12_code 1 = .ok (.getfield 131, 3) := by decide +kernel
theorem t_X12_here_4 : decode prog_14_method_12_code 4 = .ok (.aload_n 0, 1) := by decide +kernel
theorem t_X12_here_5 : decode prog_14_method_12_code 5 = .ok (.getfield 125, 3) := by decide +kernel
theorem t_X12_here_8 : decode prog_14_method_12_code 8 = .ok (.if_icmp .ge 30, 3) := by decide +kernel
theorem t_X12_here_11 : decode prog_14_method_12_code 11 = .ok (.aload_n 0, 1) := by decide +kernel
theorem t_X12_here_12 : decode prog_14_method_12_code 12 = .ok (.getfield 131, 3) := by decide +kernel
theorem t_X12_here_15 : decode prog_14_method_12_code 15 = .ok (.aload_n 0, 1) := by decide +kernel
theorem t_X12_here_16 : decode prog_14_method_12_code 16 = .ok (.getfield 128, 3) := by decide +kernel
theorem t_X12_here_19 : decode prog_14_method_12_code 19 = .ok (.if_icmp .ge 19, 3) := by decide +kernel
theorem t_X12_here_22 : decode prog_14_method_12_code 22 = .ok (.aload_n 0, 1) := by decide +kernel
theorem t_X12_here_23 : decode prog_14_method_12_code 23 = .ok (.getfield 122, 3) := by decide +kernel
theorem t_X12_here_26 : decode prog_14_method_12_code 26 = .ok (.aload_n 0, 1) := by decide +kernel
theorem t_X12_here_27 : decode prog_14_method_12_code 27 = .ok (.getfield 131, 3) := by decide +kernel
theorem t_X12_here_30 : decode prog_14_method_12_code 30 = .ok (.baload, 1) := by decide +kernel
theorem t_X12_here_31 : decode prog_14_method_12_code 31 = .ok (.sipush 255, 3) := by decide +kernel
theorem t_X12_here_34 : decode prog_14_method_12_code 34 = .ok (.iand, 1) := by decide +kernel
theorem t_X12_here_35 : decode prog_14_method_12_code 35 = .ok (.goto 4, 3) := by decide +kernel
theorem t_X12_here_38 : decode prog_14_method_12_code 38 = .ok (.iconst (-1), 1) := by decide +kernel
theorem t_X12_here_39 : decode prog_14_method_12_code 39 = .ok (.ireturn, 1) := by decide +kernel
def y_X12_fine : MethodName := ⟨"SowingBoardsModel", "fine", "()Z"⟩
theorem t_X12_fine_0 : decode prog_14_method_13_code 0 = .ok (.aload_n 0, 1) := by decide +kernel
theorem t_X12_fine_1 : decode prog_14_method_13_code 1 = .ok (.getfield 134, 3) := by decide +kernel
theorem t_X12_fine_4 : decode prog_14_method_13_code 4 = .ok (.iconst (-1), 1) := by decide +kernel
theorem t_X12_fine_5 : decode prog_14_method_13_code 5 = .ok (.if_icmp .ne 7, 3) := by decide +kernel
theorem t_X12_fine_8 : decode prog_14_method_13_code 8 = .ok (.iconst 1, 1) := by decide +kernel
theorem t_X12_fine_9 : decode prog_14_method_13_code 9 = .ok (.goto 4, 3) := by decide +kernel
theorem t_X12_fine_12 : decode prog_14_method_13_code 12 = .ok (.iconst 0, 1) := by decide +kernel
theorem t_X12_fine_13 : decode prog_14_method_13_code 13 = .ok (.ireturn, 1) := by decide +kernel
def y_X12_fault : MethodName := ⟨"SowingBoardsModel", "fault", "(I)V"⟩
theorem t_X12_fault_0 : decode prog_14_method_14_code 0 = .ok (.aload_n 0, 1) := by decide +kernel
theorem t_X12_fault_1 : decode prog_14_method_14_code 1 = .ok (.invokevirtual 141, 3) := by decide +kernel
theorem t_X12_fault_4 : decode prog_14_method_14_code 4 = .ok (.ifCond .eq 8, 3) := by decide +kernel
theorem t_X12_fault_7 : decode prog_14_method_14_code 7 = .ok (.aload_n 0, 1) := by decide +kernel
theorem t_X12_fault_8 : decode prog_14_method_14_code 8 = .ok (.iload_n 1, 1) := by decide +kernel
theorem t_X12_fault_9 : decode prog_14_method_14_code 9 = .ok (.putfield 134, 3) := by decide +kernel
theorem t_X12_fault_12 : decode prog_14_method_14_code 12 = .ok (.return_, 1) := by decide +kernel
def y_X12_passes : MethodName := ⟨"SowingBoardsModel", "passes", "(C)Z"⟩
theorem t_X12_passes_0 : decode prog_14_method_15_code 0 = .ok (.aload_n 0, 1) := by decide +kernel
theorem t_X12_passes_1 : decode prog_14_method_15_code 1 = .ok (.invokevirtual 141, 3) := by decide +kernel
theorem t_X12_passes_4 : decode prog_14_method_15_code 4 = .ok (.ifCond .eq 11, 3) := by decide +kernel
theorem t_X12_passes_7 : decode prog_14_method_15_code 7 = .ok (.aload_n 0, 1) := by decide +kernel
theorem t_X12_passes_8 : decode prog_14_method_15_code 8 = .ok (.invokevirtual 145, 3) := by decide +kernel
theorem t_X12_passes_11 : decode prog_14_method_15_code 11 = .ok (.iload_n 1, 1) := by decide +kernel
theorem t_X12_passes_12 : decode prog_14_method_15_code 12 = .ok (.if_icmp .eq 5, 3) := by decide +kernel
theorem t_X12_passes_15 : decode prog_14_method_15_code 15 = .ok (.iconst 0, 1) := by decide +kernel
theorem t_X12_passes_16 : decode prog_14_method_15_code 16 = .ok (.ireturn, 1) := by decide +kernel
theorem t_X12_passes_17 : decode prog_14_method_15_code 17 = .ok (.aload_n 0, 1) := by decide +kernel
theorem t_X12_passes_18 : decode prog_14_method_15_code 18 = .ok (.dup, 1) := by decide +kernel
theorem t_X12_passes_19 : decode prog_14_method_15_code 19 = .ok (.getfield 131, 3) := by decide +kernel
theorem t_X12_passes_22 : decode prog_14_method_15_code 22 = .ok (.iconst 1, 1) := by decide +kernel
theorem t_X12_passes_23 : decode prog_14_method_15_code 23 = .ok (.iadd, 1) := by decide +kernel
theorem t_X12_passes_24 : decode prog_14_method_15_code 24 = .ok (.putfield 131, 3) := by decide +kernel
theorem t_X12_passes_27 : decode prog_14_method_15_code 27 = .ok (.iconst 1, 1) := by decide +kernel
theorem t_X12_passes_28 : decode prog_14_method_15_code 28 = .ok (.ireturn, 1) := by decide +kernel
def y_X12_need : MethodName := ⟨"SowingBoardsModel", "need", "(C)V"⟩
theorem t_X12_need_0 : decode prog_14_method_16_code 0 = .ok (.aload_n 0, 1) := by decide +kernel
theorem t_X12_need_1 : decode prog_14_method_16_code 1 = .ok (.iload_n 1, 1) := by decide +kernel
theorem t_X12_need_2 : decode prog_14_method_16_code 2 = .ok (.invokevirtual 149, 3) := by decide +kernel
theorem t_X12_need_5 : decode prog_14_method_16_code 5 = .ok (.ifCond .ne 11, 3) := by decide +kernel
theorem t_X12_need_8 : decode prog_14_method_16_code 8 = .ok (.aload_n 0, 1) := by decide +kernel
theorem t_X12_need_9 : decode prog_14_method_16_code 9 = .ok (.aload_n 0, 1) := by decide +kernel
theorem t_X12_need_10 : decode prog_14_method_16_code 10 = .ok (.getfield 131, 3) := by decide +kernel
theorem t_X12_need_13 : decode prog_14_method_16_code 13 = .ok (.invokevirtual 153, 3) := by decide +kernel
theorem t_X12_need_16 : decode prog_14_method_16_code 16 = .ok (.return_, 1) := by decide +kernel
def y_X12_oneOf : MethodName := ⟨"SowingBoardsModel", "oneOf", "(CI)I"⟩
theorem t_X12_oneOf_0 : decode prog_14_method_17_code 0 = .ok (.aload_n 0, 1) := by decide +kernel
theorem t_X12_oneOf_1 : decode prog_14_method_17_code 1 = .ok (.invokevirtual 141, 3) := by decide +kernel
theorem t_X12_oneOf_4 : decode prog_14_method_17_code 4 = .ok (.ifCond .ne 5, 3) := by decide +kernel
theorem t_X12_oneOf_7 : decode prog_14_method_17_code 7 = .ok (.iconst 0, 1) := by decide +kernel
theorem t_X12_oneOf_8 : decode prog_14_method_17_code 8 = .ok (.ireturn, 1) := by decide +kernel
theorem t_X12_oneOf_9 : decode prog_14_method_17_code 9 = .ok (.aload_n 0, 1) := by decide +kernel
theorem t_X12_oneOf_10 : decode prog_14_method_17_code 10 = .ok (.invokevirtual 145, 3) := by decide +kernel
theorem t_X12_oneOf_13 : decode prog_14_method_17_code 13 = .ok (.iload_n 1, 1) := by decide +kernel
theorem t_X12_oneOf_14 : decode prog_14_method_17_code 14 = .ok (.iload_n 1, 1) := by decide +kernel
theorem t_X12_oneOf_15 : decode prog_14_method_17_code 15 = .ok (.iload_n 2, 1) := by decide +kernel
theorem t_X12_oneOf_16 : decode prog_14_method_17_code 16 = .ok (.iadd, 1) := by decide +kernel
theorem t_X12_oneOf_17 : decode prog_14_method_17_code 17 = .ok (.iconst 1, 1) := by decide +kernel
theorem t_X12_oneOf_18 : decode prog_14_method_17_code 18 = .ok (.isub, 1) := by decide +kernel
theorem t_X12_oneOf_19 : decode prog_14_method_17_code 19 = .ok (.invokestatic 118, 3) := by decide +kernel
theorem t_X12_oneOf_22 : decode prog_14_method_17_code 22 = .ok (.ifCond .ne 13, 3) := by decide +kernel
theorem t_X12_oneOf_25 : decode prog_14_method_17_code 25 = .ok (.aload_n 0, 1) := by decide +kernel
theorem t_X12_oneOf_26 : decode prog_14_method_17_code 26 = .ok (.aload_n 0, 1) := by decide +kernel
theorem t_X12_oneOf_27 : decode prog_14_method_17_code 27 = .ok (.getfield 131, 3) := by decide +kernel
theorem t_X12_oneOf_30 : decode prog_14_method_17_code 30 = .ok (.invokevirtual 153, 3) := by decide +kernel
theorem t_X12_oneOf_33 : decode prog_14_method_17_code 33 = .ok (.iconst 0, 1) := by decide +kernel
theorem t_X12_oneOf_34 : decode prog_14_method_17_code 34 = .ok (.ireturn, 1) := by decide +kernel
theorem t_X12_oneOf_35 : decode prog_14_method_17_code 35 = .ok (.aload_n 0, 1) := by decide +kernel
theorem t_X12_oneOf_36 : decode prog_14_method_17_code 36 = .ok (.dup, 1) := by decide +kernel
theorem t_X12_oneOf_37 : decode prog_14_method_17_code 37 = .ok (.getfield 131, 3) := by decide +kernel
theorem t_X12_oneOf_40 : decode prog_14_method_17_code 40 = .ok (.iconst 1, 1) := by decide +kernel
theorem t_X12_oneOf_41 : decode prog_14_method_17_code 41 = .ok (.iadd, 1) := by decide +kernel
theorem t_X12_oneOf_42 : decode prog_14_method_17_code 42 = .ok (.putfield 131, 3) := by decide +kernel
theorem t_X12_oneOf_45 : decode prog_14_method_17_code 45 = .ok (.aload_n 0, 1) := by decide +kernel
theorem t_X12_oneOf_46 : decode prog_14_method_17_code 46 = .ok (.getfield 122, 3) := by decide +kernel
theorem t_X12_oneOf_49 : decode prog_14_method_17_code 49 = .ok (.aload_n 0, 1) := by decide +kernel
theorem t_X12_oneOf_50 : decode prog_14_method_17_code 50 = .ok (.getfield 131, 3) := by decide +kernel
theorem t_X12_oneOf_53 : decode prog_14_method_17_code 53 = .ok (.iconst 1, 1) := by decide +kernel
theorem t_X12_oneOf_54 : decode prog_14_method_17_code 54 = .ok (.isub, 1) := by decide +kernel
theorem t_X12_oneOf_55 : decode prog_14_method_17_code 55 = .ok (.baload, 1) := by decide +kernel
theorem t_X12_oneOf_56 : decode prog_14_method_17_code 56 = .ok (.iload_n 1, 1) := by decide +kernel
theorem t_X12_oneOf_57 : decode prog_14_method_17_code 57 = .ok (.isub, 1) := by decide +kernel
theorem t_X12_oneOf_58 : decode prog_14_method_17_code 58 = .ok (.ireturn, 1) := by decide +kernel
def y_X12_number : MethodName := ⟨"SowingBoardsModel", "number", "(I)I"⟩
theorem t_X12_number_0 : decode prog_14_method_18_code 0 = .ok (.aload_n 0, 1) := by decide +kernel
theorem t_X12_number_1 : decode prog_14_method_18_code 1 = .ok (.bipush 48, 2) := by decide +kernel
theorem t_X12_number_3 : decode prog_14_method_18_code 3 = .ok (.bipush 10, 2) := by decide +kernel
theorem t_X12_number_5 : decode prog_14_method_18_code 5 = .ok (.invokevirtual 157, 3) := by decide +kernel
theorem t_X12_number_8 : decode prog_14_method_18_code 8 = .ok (.istore_n 2, 1) := by decide +kernel
theorem t_X12_number_9 : decode prog_14_method_18_code 9 = .ok (.iconst 1, 1) := by decide +kernel
theorem t_X12_number_10 : decode prog_14_method_18_code 10 = .ok (.istore_n 3, 1) := by decide +kernel
theorem t_X12_number_11 : decode prog_14_method_18_code 11 = .ok (.iload_n 3, 1) := by decide +kernel
theorem t_X12_number_12 : decode prog_14_method_18_code 12 = .ok (.iload_n 1, 1) := by decide +kernel
theorem t_X12_number_13 : decode prog_14_method_18_code 13 = .ok (.if_icmp .ge 44, 3) := by decide +kernel
theorem t_X12_number_16 : decode prog_14_method_18_code 16 = .ok (.aload_n 0, 1) := by decide +kernel
theorem t_X12_number_17 : decode prog_14_method_18_code 17 = .ok (.invokevirtual 141, 3) := by decide +kernel
theorem t_X12_number_20 : decode prog_14_method_18_code 20 = .ok (.ifCond .eq 37, 3) := by decide +kernel
theorem t_X12_number_23 : decode prog_14_method_18_code 23 = .ok (.aload_n 0, 1) := by decide +kernel
theorem t_X12_number_24 : decode prog_14_method_18_code 24 = .ok (.invokevirtual 145, 3) := by decide +kernel
theorem t_X12_number_27 : decode prog_14_method_18_code 27 = .ok (.bipush 48, 2) := by decide +kernel
theorem t_X12_number_29 : decode prog_14_method_18_code 29 = .ok (.bipush 57, 2) := by decide +kernel
theorem t_X12_number_31 : decode prog_14_method_18_code 31 = .ok (.invokestatic 118, 3) := by decide +kernel
theorem t_X12_number_34 : decode prog_14_method_18_code 34 = .ok (.ifCond .eq 23, 3) := by decide +kernel
theorem t_X12_number_37 : decode prog_14_method_18_code 37 = .ok (.bipush 10, 2) := by decide +kernel
theorem t_X12_number_39 : decode prog_14_method_18_code 39 = .ok (.iload_n 2, 1) := by decide +kernel
theorem t_X12_number_40 : decode prog_14_method_18_code 40 = .ok (.imul, 1) := by decide +kernel
theorem t_X12_number_41 : decode prog_14_method_18_code 41 = .ok (.aload_n 0, 1) := by decide +kernel
theorem t_X12_number_42 : decode prog_14_method_18_code 42 = .ok (.bipush 48, 2) := by decide +kernel
theorem t_X12_number_44 : decode prog_14_method_18_code 44 = .ok (.bipush 10, 2) := by decide +kernel
theorem t_X12_number_46 : decode prog_14_method_18_code 46 = .ok (.invokevirtual 157, 3) := by decide +kernel
theorem t_X12_number_49 : decode prog_14_method_18_code 49 = .ok (.iadd, 1) := by decide +kernel
theorem t_X12_number_50 : decode prog_14_method_18_code 50 = .ok (.istore_n 2, 1) := by decide +kernel
theorem t_X12_number_51 : decode prog_14_method_18_code 51 = .ok (.iinc 3 1, 3) := by decide +kernel
theorem t_X12_number_54 : decode prog_14_method_18_code 54 = .ok (.goto (-43), 3) := by decide +kernel
theorem t_X12_number_57 : decode prog_14_method_18_code 57 = .ok (.iload_n 2, 1) := by decide +kernel
theorem t_X12_number_58 : decode prog_14_method_18_code 58 = .ok (.ireturn, 1) := by decide +kernel
def y_X12_wasRight : MethodName := ⟨"SowingBoardsModel", "wasRight", "()Z"⟩
theorem t_X12_wasRight_0 : decode prog_14_method_19_code 0 = .ok (.aload_n 0, 1) := by decide +kernel
theorem t_X12_wasRight_1 : decode prog_14_method_19_code 1 = .ok (.getfield 131, 3) := by decide +kernel
theorem t_X12_wasRight_4 : decode prog_14_method_19_code 4 = .ok (.aload_n 0, 1) := by decide +kernel
theorem t_X12_wasRight_5 : decode prog_14_method_19_code 5 = .ok (.getfield 125, 3) := by decide +kernel
theorem t_X12_wasRight_8 : decode prog_14_method_19_code 8 = .ok (.if_icmp .ge 11, 3) := by decide +kernel
theorem t_X12_wasRight_11 : decode prog_14_method_19_code 11 = .ok (.aload_n 0, 1) := by decide +kernel
theorem t_X12_wasRight_12 : decode prog_14_method_19_code 12 = .ok (.aload_n 0, 1) := by decide +kernel
theorem t_X12_wasRight_13 : decode prog_14_method_19_code 13 = .ok (.getfield 131, 3) := by decide +kernel
theorem t_X12_wasRight_16 : decode prog_14_method_19_code 16 = .ok (.invokevirtual 153, 3) := by decide +kernel
theorem t_X12_wasRight_19 : decode prog_14_method_19_code 19 = .ok (.aload_n 0, 1) := by decide +kernel
theorem t_X12_wasRight_20 : decode prog_14_method_19_code 20 = .ok (.invokevirtual 141, 3) := by decide +kernel
theorem t_X12_wasRight_23 : decode prog_14_method_19_code 23 = .ok (.ireturn, 1) := by decide +kernel
def y_X12_board : MethodName := ⟨"SowingBoardsModel", "board", "()I"⟩
theorem t_X12_board_0 : decode prog_14_method_20_code 0 = .ok (.aload_n 0, 1) := by decide +kernel
theorem t_X12_board_1 : decode prog_14_method_20_code 1 = .ok (.iconst 0, 1) := by decide +kernel
theorem t_X12_board_2 : decode prog_14_method_20_code 2 = .ok (.putfield 109, 3) := by decide +kernel
theorem t_X12_board_5 : decode prog_14_method_20_code 5 = .ok (.aload_n 0, 1) := by decide +kernel
theorem t_X12_board_6 : decode prog_14_method_20_code 6 = .ok (.bipush 13, 2) := by decide +kernel
theorem t_X12_board_8 : decode prog_14_method_20_code 8 = .ok (.invokevirtual 161, 3) := by decide +kernel
theorem t_X12_board_11 : decode prog_14_method_20_code 11 = .ok (.aload_n 0, 1) := by decide +kernel
theorem t_X12_board_12 : decode prog_14_method_20_code 12 = .ok (.bipush 50, 2) := by decide +kernel
theorem t_X12_board_14 : decode prog_14_method_20_code 14 = .ok (.iconst 5, 1) := by decide +kernel
theorem t_X12_board_15 : decode prog_14_method_20_code 15 = .ok (.invokevirtual 157, 3) := by decide +kernel
theorem t_X12_board_18 : decode prog_14_method_20_code 18 = .ok (.iconst 2, 1) := by decide +kernel
theorem t_X12_board_19 : decode prog_14_method_20_code 19 = .ok (.iadd, 1) := by decide +kernel
theorem t_X12_board_20 : decode prog_14_method_20_code 20 = .ok (.istore_n 1, 1) := by decide +kernel
theorem t_X12_board_21 : decode prog_14_method_20_code 21 = .ok (.iconst 0, 1) := by decide +kernel
theorem t_X12_board_22 : decode prog_14_method_20_code 22 = .ok (.istore_n 2, 1) := by decide +kernel
theorem t_X12_board_23 : decode prog_14_method_20_code 23 = .ok (.iload_n 2, 1) := by decide +kernel
theorem t_X12_board_24 : decode prog_14_method_20_code 24 = .ok (.iconst 2, 1) := by decide +kernel
theorem t_X12_board_25 : decode prog_14_method_20_code 25 = .ok (.iload_n 1, 1) := by decide +kernel
theorem t_X12_board_26 : decode prog_14_method_20_code 26 = .ok (.imul, 1) := by decide +kernel
theorem t_X12_board_27 : decode prog_14_method_20_code 27 = .ok (.if_icmp .ge 30, 3) := by decide +kernel
theorem t_X12_board_30 : decode prog_14_method_20_code 30 = .ok (.aload_n 0, 1) := by decide +kernel
theorem t_X12_board_31 : decode prog_14_method_20_code 31 = .ok (.invokevirtual 141, 3) := by decide +kernel
theorem t_X12_board_34 : decode prog_14_method_20_code 34 = .ok (.ifCond .eq 23, 3) := by decide +kernel
theorem t_X12_board_37 : decode prog_14_method_20_code 37 = .ok (.aload_n 0, 1) := by decide +kernel
theorem t_X12_board_38 : decode prog_14_method_20_code 38 = .ok (.getfield 28, 3) := by decide +kernel
theorem t_X12_board_41 : decode prog_14_method_20_code 41 = .ok (.iload_n 2, 1) := by decide +kernel
theorem t_X12_board_42 : decode prog_14_method_20_code 42 = .ok (.aload_n 0, 1) := by decide +kernel
theorem t_X12_board_43 : decode prog_14_method_20_code 43 = .ok (.bipush 48, 2) := by decide +kernel
theorem t_X12_board_45 : decode prog_14_method_20_code 45 = .ok (.bipush 10, 2) := by decide +kernel
theorem t_X12_board_47 : decode prog_14_method_20_code 47 = .ok (.invokevirtual 157, 3) := by decide +kernel
theorem t_X12_board_50 : decode prog_14_method_20_code 50 = .ok (.iastore, 1) := by decide +kernel
theorem t_X12_board_51 : decode prog_14_method_20_code 51 = .ok (.iinc 2 1, 3) := by decide +kernel
theorem t_X12_board_54 : decode prog_14_method_20_code 54 = .ok (.goto (-31), 3) := by decide +kernel
theorem t_X12_board_57 : decode prog_14_method_20_code 57 = .ok (.aload_n 0, 1) := by decide +kernel
theorem t_X12_board_58 : decode prog_14_method_20_code 58 = .ok (.invokevirtual 164, 3) := by decide +kernel
theorem t_X12_board_61 : decode prog_14_method_20_code 61 = .ok (.ifCond .ne 10, 3) := by decide +kernel
theorem t_X12_board_64 : decode prog_14_method_20_code 64 = .ok (.iconst (-1), 1) := by decide +kernel
theorem t_X12_board_65 : decode prog_14_method_20_code 65 = .ok (.aload_n 0, 1) := by decide +kernel
theorem t_X12_board_66 : decode prog_14_method_20_code 66 = .ok (.getfield 134, 3) := by decide +kernel
theorem t_X12_board_69 : decode prog_14_method_20_code 69 = .ok (.isub, 1) := by decide +kernel
theorem t_X12_board_70 : decode prog_14_method_20_code 70 = .ok (.ireturn, 1) := by decide +kernel
theorem t_X12_board_71 : decode prog_14_method_20_code 71 = .ok (.aload_n 0, 1) := by decide +kernel
theorem t_X12_board_72 : decode prog_14_method_20_code 72 = .ok (.iload_n 1, 1) := by decide +kernel
theorem t_X12_board_73 : decode prog_14_method_20_code 73 = .ok (.putfield 13, 3) := by decide +kernel
theorem t_X12_board_76 : decode prog_14_method_20_code 76 = .ok (.iconst 0, 1) := by decide +kernel
theorem t_X12_board_77 : decode prog_14_method_20_code 77 = .ok (.istore_n 2, 1) := by decide +kernel
theorem t_X12_board_78 : decode prog_14_method_20_code 78 = .ok (.iconst 0, 1) := by decide +kernel
theorem t_X12_board_79 : decode prog_14_method_20_code 79 = .ok (.istore_n 3, 1) := by decide +kernel
theorem t_X12_board_80 : decode prog_14_method_20_code 80 = .ok (.iload_n 3, 1) := by decide +kernel
theorem t_X12_board_81 : decode prog_14_method_20_code 81 = .ok (.bipush 16, 2) := by decide +kernel
theorem t_X12_board_83 : decode prog_14_method_20_code 83 = .ok (.if_icmp .ge 32, 3) := by decide +kernel
theorem t_X12_board_86 : decode prog_14_method_20_code 86 = .ok (.aload_n 0, 1) := by decide +kernel
theorem t_X12_board_87 : decode prog_14_method_20_code 87 = .ok (.getfield 9, 3) := by decide +kernel
theorem t_X12_board_90 : decode prog_14_method_20_code 90 = .ok (.iload_n 3, 1) := by decide +kernel
theorem t_X12_board_91 : decode prog_14_method_20_code 91 = .ok (.iload_n 3, 1) := by decide +kernel
theorem t_X12_board_92 : decode prog_14_method_20_code 92 = .ok (.iconst 2, 1) := by decide +kernel
theorem t_X12_board_93 : decode prog_14_method_20_code 93 = .ok (.iload_n 1, 1) := by decide +kernel
theorem t_X12_board_94 : decode prog_14_method_20_code 94 = .ok (.imul, 1) := by decide +kernel
theorem t_X12_board_95 : decode prog_14_method_20_code 95 = .ok (.if_icmp .ge 12, 3) := by decide +kernel
theorem t_X12_board_98 : decode prog_14_method_20_code 98 = .ok (.aload_n 0, 1) := by decide +kernel
theorem t_X12_board_99 : decode prog_14_method_20_code 99 = .ok (.getfield 28, 3) := by decide +kernel
theorem t_X12_board_102 : decode prog_14_method_20_code 102 = .ok (.iload_n 3, 1) := by decide +kernel
theorem t_X12_board_103 : decode prog_14_method_20_code 103 = .ok (.iaload, 1) := by decide +kernel
theorem t_X12_board_104 : decode prog_14_method_20_code 104 = .ok (.goto 4, 3) := by decide +kernel
theorem t_X12_board_107 : decode prog_14_method_20_code 107 = .ok (.iconst 0, 1) := by decide +kernel
theorem t_X12_board_108 : decode prog_14_method_20_code 108 = .ok (.iastore, 1) := by decide +kernel
theorem t_X12_board_109 : decode prog_14_method_20_code 109 = .ok (.iinc 3 1, 3) := by decide +kernel
theorem t_X12_board_112 : decode prog_14_method_20_code 112 = .ok (.goto (-32), 3) := by decide +kernel
theorem t_X12_board_115 : decode prog_14_method_20_code 115 = .ok (.iconst 0, 1) := by decide +kernel
theorem t_X12_board_116 : decode prog_14_method_20_code 116 = .ok (.istore_n 3, 1) := by decide +kernel
theorem t_X12_board_117 : decode prog_14_method_20_code 117 = .ok (.iload_n 3, 1) := by decide +kernel
theorem t_X12_board_118 : decode prog_14_method_20_code 118 = .ok (.iconst 2, 1) := by decide +kernel
theorem t_X12_board_119 : decode prog_14_method_20_code 119 = .ok (.iload_n 1, 1) := by decide +kernel
theorem t_X12_board_120 : decode prog_14_method_20_code 120 = .ok (.imul, 1) := by decide +kernel
theorem t_X12_board_121 : decode prog_14_method_20_code 121 = .ok (.if_icmp .ge 18, 3) := by decide +kernel
theorem t_X12_board_124 : decode prog_14_method_20_code 124 = .ok (.iload_n 2, 1) := by decide +kernel
theorem t_X12_board_125 : decode prog_14_method_20_code 125 = .ok (.aload_n 0, 1) := by decide +kernel
theorem t_X12_board_126 : decode prog_14_method_20_code 126 = .ok (.getfield 28, 3) := by decide +kernel
theorem t_X12_board_129 : decode prog_14_method_20_code 129 = .ok (.iload_n 3, 1) := by decide +kernel
theorem t_X12_board_130 : decode prog_14_method_20_code 130 = .ok (.iaload, 1) := by decide +kernel
theorem t_X12_board_131 : decode prog_14_method_20_code 131 = .ok (.iadd, 1) := by decide +kernel
theorem t_X12_board_132 : decode prog_14_method_20_code 132 = .ok (.istore_n 2, 1) := by decide +kernel
theorem t_X12_board_133 : decode prog_14_method_20_code 133 = .ok (.iinc 3 1, 3) := by decide +kernel
theorem t_X12_board_136 : decode prog_14_method_20_code 136 = .ok (.goto (-19), 3) := by decide +kernel
theorem t_X12_board_139 : decode prog_14_method_20_code 139 = .ok (.aload_n 0, 1) := by decide +kernel
theorem t_X12_board_140 : decode prog_14_method_20_code 140 = .ok (.iconst 0, 1) := by decide +kernel
theorem t_X12_board_141 : decode prog_14_method_20_code 141 = .ok (.putfield 167, 3) := by decide +kernel
theorem t_X12_board_144 : decode prog_14_method_20_code 144 = .ok (.aload_n 0, 1) := by decide +kernel
theorem t_X12_board_145 : decode prog_14_method_20_code 145 = .ok (.dup, 1) := by decide +kernel
theorem t_X12_board_146 : decode prog_14_method_20_code 146 = .ok (.getfield 170, 3) := by decide +kernel
theorem t_X12_board_149 : decode prog_14_method_20_code 149 = .ok (.iconst 1, 1) := by decide +kernel
theorem t_X12_board_150 : decode prog_14_method_20_code 150 = .ok (.iadd, 1) := by decide +kernel
theorem t_X12_board_151 : decode prog_14_method_20_code 151 = .ok (.putfield 170, 3) := by decide +kernel
theorem t_X12_board_154 : decode prog_14_method_20_code 154 = .ok (.iload_n 2, 1) := by decide +kernel
theorem t_X12_board_155 : decode prog_14_method_20_code 155 = .ok (.ireturn, 1) := by decide +kernel
def y_X12_lawOf : MethodName := ⟨"SowingBoardsModel", "lawOf", "(I)I"⟩
theorem t_X12_lawOf_0 : decode prog_14_method_21_code 0 = .ok (.iload_n 0, 1) := by decide +kernel
theorem t_X12_lawOf_1 : decode prog_14_method_21_code 1 = .ok (.bipush 115, 2) := by decide +kernel
theorem t_X12_lawOf_3 : decode prog_14_method_21_code 3 = .ok (.if_icmp .ne 7, 3) := by decide +kernel
theorem t_X12_lawOf_6 : decode prog_14_method_21_code 6 = .ok (.iconst 1, 1) := by decide +kernel
theorem t_X12_lawOf_7 : decode prog_14_method_21_code 7 = .ok (.goto 57, 3) := by decide +kernel
theorem t_X12_lawOf_10 : decode prog_14_method_21_code 10 = .ok (.iload_n 0, 1) := by decide +kernel
theorem t_X12_lawOf_11 : decode prog_14_method_21_code 11 = .ok (.bipush 114, 2) := by decide +kernel
theorem t_X12_lawOf_13 : decode prog_14_method_21_code 13 = .ok (.if_icmp .ne 7, 3) := by decide +kernel
theorem t_X12_lawOf_16 : decode prog_14_method_21_code 16 = .ok (.iconst 2, 1) := by decide +kernel
theorem t_X12_lawOf_17 : decode prog_14_method_21_code 17 = .ok (.goto 47, 3) := by decide +kernel
theorem t_X12_lawOf_20 : decode prog_14_method_21_code 20 = .ok (.iload_n 0, 1) := by decide +kernel
theorem t_X12_lawOf_21 : decode prog_14_method_21_code 21 = .ok (.bipush 99, 2) := by decide +kernel
theorem t_X12_lawOf_23 : decode prog_14_method_21_code 23 = .ok (.if_icmp .ne 7, 3) := by decide +kernel
theorem t_X12_lawOf_26 : decode prog_14_method_21_code 26 = .ok (.iconst 4, 1) := by decide +kernel
theorem t_X12_lawOf_27 : decode prog_14_method_21_code 27 = .ok (.goto 37, 3) := by decide +kernel
theorem t_X12_lawOf_30 : decode prog_14_method_21_code 30 = .ok (.iload_n 0, 1) := by decide +kernel
theorem t_X12_lawOf_31 : decode prog_14_method_21_code 31 = .ok (.bipush 107, 2) := by decide +kernel
theorem t_X12_lawOf_33 : decode prog_14_method_21_code 33 = .ok (.if_icmp .ne 8, 3) := by decide +kernel
theorem t_X12_lawOf_36 : decode prog_14_method_21_code 36 = .ok (.bipush 8, 2) := by decide +kernel
theorem t_X12_lawOf_38 : decode prog_14_method_21_code 38 = .ok (.goto 26, 3) := by decide +kernel
theorem t_X12_lawOf_41 : decode prog_14_method_21_code 41 = .ok (.iload_n 0, 1) := by decide +kernel
theorem t_X12_lawOf_42 : decode prog_14_method_21_code 42 = .ok (.bipush 120, 2) := by decide +kernel
theorem t_X12_lawOf_44 : decode prog_14_method_21_code 44 = .ok (.if_icmp .ne 8, 3) := by decide +kernel
theorem t_X12_lawOf_47 : decode prog_14_method_21_code 47 = .ok (.bipush 16, 2) := by decide +kernel
theorem t_X12_lawOf_49 : decode prog_14_method_21_code 49 = .ok (.goto 15, 3) := by decide +kernel
theorem t_X12_lawOf_52 : decode prog_14_method_21_code 52 = .ok (.iload_n 0, 1) := by decide +kernel
theorem t_X12_lawOf_53 : decode prog_14_method_21_code 53 = .ok (.bipush 116, 2) := by decide +kernel
theorem t_X12_lawOf_55 : decode prog_14_method_21_code 55 = .ok (.if_icmp .ne 8, 3) := by decide +kernel
theorem t_X12_lawOf_58 : decode prog_14_method_21_code 58 = .ok (.bipush 32, 2) := by decide +kernel
theorem t_X12_lawOf_60 : decode prog_14_method_21_code 60 = .ok (.goto 4, 3) := by decide +kernel
theorem t_X12_lawOf_63 : decode prog_14_method_21_code 63 = .ok (.iconst 0, 1) := by decide +kernel
theorem t_X12_lawOf_64 : decode prog_14_method_21_code 64 = .ok (.ireturn, 1) := by decide +kernel
def y_X12_laws : MethodName := ⟨"SowingBoardsModel", "laws", "()I"⟩
theorem t_X12_laws_0 : decode prog_14_method_22_code 0 = .ok (.aload_n 0, 1) := by decide +kernel
theorem t_X12_laws_1 : decode prog_14_method_22_code 1 = .ok (.iconst 0, 1) := by decide +kernel
theorem t_X12_laws_2 : decode prog_14_method_22_code 2 = .ok (.putfield 109, 3) := by decide +kernel
theorem t_X12_laws_5 : decode prog_14_method_22_code 5 = .ok (.aload_n 0, 1) := by decide +kernel
theorem t_X12_laws_6 : decode prog_14_method_22_code 6 = .ok (.bipush 6, 2) := by decide +kernel
theorem t_X12_laws_8 : decode prog_14_method_22_code 8 = .ok (.invokevirtual 161, 3) := by decide +kernel
theorem t_X12_laws_11 : decode prog_14_method_22_code 11 = .ok (.iconst 0, 1) := by decide +kernel
theorem t_X12_laws_12 : decode prog_14_method_22_code 12 = .ok (.istore_n 1, 1) := by decide +kernel
theorem t_X12_laws_13 : decode prog_14_method_22_code 13 = .ok (.aload_n 0, 1) := by decide +kernel
theorem t_X12_laws_14 : decode prog_14_method_22_code 14 = .ok (.invokevirtual 141, 3) := by decide +kernel
theorem t_X12_laws_17 : decode prog_14_method_22_code 17 = .ok (.ifCond .eq 57, 3) := by decide +kernel
theorem t_X12_laws_20 : decode prog_14_method_22_code 20 = .ok (.aload_n 0, 1) := by decide +kernel
theorem t_X12_laws_21 : decode prog_14_method_22_code 21 = .ok (.invokevirtual 145, 3) := by decide +kernel
theorem t_X12_laws_24 : decode prog_14_method_22_code 24 = .ok (.iconst (-1), 1) := by decide +kernel
theorem t_X12_laws_25 : decode prog_14_method_22_code 25 = .ok (.if_icmp .eq 49, 3) := by decide +kernel
theorem t_X12_laws_28 : decode prog_14_method_22_code 28 = .ok (.aload_n 0, 1) := by decide +kernel
theorem t_X12_laws_29 : decode prog_14_method_22_code 29 = .ok (.invokevirtual 145, 3) := by decide +kernel
theorem t_X12_laws_32 : decode prog_14_method_22_code 32 = .ok (.invokestatic 173, 3) := by decide +kernel
theorem t_X12_laws_35 : decode prog_14_method_22_code 35 = .ok (.istore_n 2, 1) := by decide +kernel
theorem t_X12_laws_36 : decode prog_14_method_22_code 36 = .ok (.iload_n 2, 1) := by decide +kernel
theorem t_X12_laws_37 : decode prog_14_method_22_code 37 = .ok (.ifCond .eq 9, 3) := by decide +kernel
theorem t_X12_laws_40 : decode prog_14_method_22_code 40 = .ok (.iload_n 1, 1) := by decide +kernel
theorem t_X12_laws_41 : decode prog_14_method_22_code 41 = .ok (.iload_n 2, 1) := by decide +kernel
theorem t_X12_laws_42 : decode prog_14_method_22_code 42 = .ok (.iand, 1) := by decide +kernel
theorem t_X12_laws_43 : decode prog_14_method_22_code 43 = .ok (.ifCond .eq 14, 3) := by decide +kernel
theorem t_X12_laws_46 : decode prog_14_method_22_code 46 = .ok (.aload_n 0, 1) := by decide +kernel
theorem t_X12_laws_47 : decode prog_14_method_22_code 47 = .ok (.aload_n 0, 1) := by decide +kernel
theorem t_X12_laws_48 : decode prog_14_method_22_code 48 = .ok (.getfield 131, 3) := by decide +kernel
theorem t_X12_laws_51 : decode prog_14_method_22_code 51 = .ok (.invokevirtual 153, 3) := by decide +kernel
theorem t_X12_laws_54 : decode prog_14_method_22_code 54 = .ok (.goto 17, 3) := by decide +kernel
theorem t_X12_laws_57 : decode prog_14_method_22_code 57 = .ok (.iload_n 1, 1) := by decide +kernel
theorem t_X12_laws_58 : decode prog_14_method_22_code 58 = .ok (.iload_n 2, 1) := by decide +kernel
theorem t_X12_laws_59 : decode prog_14_method_22_code 59 = .ok (.ior, 1) := by decide +kernel
theorem t_X12_laws_60 : decode prog_14_method_22_code 60 = .ok (.istore_n 1, 1) := by decide +kernel
theorem t_X12_laws_61 : decode prog_14_method_22_code 61 = .ok (.aload_n 0, 1) := by decide +kernel
theorem t_X12_laws_62 : decode prog_14_method_22_code 62 = .ok (.dup, 1) := by decide +kernel
theorem t_X12_laws_63 : decode prog_14_method_22_code 63 = .ok (.getfield 131, 3) := by decide +kernel
theorem t_X12_laws_66 : decode prog_14_method_22_code 66 = .ok (.iconst 1, 1) := by decide +kernel
theorem t_X12_laws_67 : decode prog_14_method_22_code 67 = .ok (.iadd, 1) := by decide +kernel
theorem t_X12_laws_68 : decode prog_14_method_22_code 68 = .ok (.putfield 131, 3) := by decide +kernel
theorem t_X12_laws_71 : decode prog_14_method_22_code 71 = .ok (.goto (-58), 3) := by decide +kernel
theorem t_X12_laws_74 : decode prog_14_method_22_code 74 = .ok (.aload_n 0, 1) := by decide +kernel
theorem t_X12_laws_75 : decode prog_14_method_22_code 75 = .ok (.invokevirtual 164, 3) := by decide +kernel
theorem t_X12_laws_78 : decode prog_14_method_22_code 78 = .ok (.ifCond .ne 10, 3) := by decide +kernel
theorem t_X12_laws_81 : decode prog_14_method_22_code 81 = .ok (.iconst (-1), 1) := by decide +kernel
theorem t_X12_laws_82 : decode prog_14_method_22_code 82 = .ok (.aload_n 0, 1) := by decide +kernel
theorem t_X12_laws_83 : decode prog_14_method_22_code 83 = .ok (.getfield 134, 3) := by decide +kernel
theorem t_X12_laws_86 : decode prog_14_method_22_code 86 = .ok (.isub, 1) := by decide +kernel
theorem t_X12_laws_87 : decode prog_14_method_22_code 87 = .ok (.ireturn, 1) := by decide +kernel
theorem t_X12_laws_88 : decode prog_14_method_22_code 88 = .ok (.aload_n 0, 1) := by decide +kernel
theorem t_X12_laws_89 : decode prog_14_method_22_code 89 = .ok (.iload_n 1, 1) := by decide +kernel
theorem t_X12_laws_90 : decode prog_14_method_22_code 90 = .ok (.putfield 17, 3) := by decide +kernel
theorem t_X12_laws_93 : decode prog_14_method_22_code 93 = .ok (.iload_n 1, 1) := by decide +kernel
theorem t_X12_laws_94 : decode prog_14_method_22_code 94 = .ok (.invokestatic 177, 3) := by decide +kernel
theorem t_X12_laws_97 : decode prog_14_method_22_code 97 = .ok (.ireturn, 1) := by decide +kernel
def y_X12_letterOf : MethodName := ⟨"SowingBoardsModel", "letterOf", "(I)I"⟩
theorem t_X12_letterOf_0 : decode prog_14_method_26_code 0 = .ok (.iload_n 0, 1) := by decide +kernel
theorem t_X12_letterOf_1 : decode prog_14_method_26_code 1 = .ok (.bipush 116, 2) := by decide +kernel
theorem t_X12_letterOf_3 : decode prog_14_method_26_code 3 = .ok (.if_icmp .ne 7, 3) := by decide +kernel
theorem t_X12_letterOf_6 : decode prog_14_method_26_code 6 = .ok (.iconst 0, 1) := by decide +kernel
theorem t_X12_letterOf_7 : decode prog_14_method_26_code 7 = .ok (.goto 65, 3) := by decide +kernel
theorem t_X12_letterOf_10 : decode prog_14_method_26_code 10 = .ok (.iload_n 0, 1) := by decide +kernel
theorem t_X12_letterOf_11 : decode prog_14_method_26_code 11 = .ok (.bipush 97, 2) := by decide +kernel
theorem t_X12_letterOf_13 : decode prog_14_method_26_code 13 = .ok (.if_icmp .ne 7, 3) := by decide +kernel
theorem t_X12_letterOf_16 : decode prog_14_method_26_code 16 = .ok (.iconst 1, 1) := by decide +kernel
theorem t_X12_letterOf_17 : decode prog_14_method_26_code 17 = .ok (.goto 55, 3) := by decide +kernel
theorem t_X12_letterOf_20 : decode prog_14_method_26_code 20 = .ok (.iload_n 0, 1) := by decide +kernel
theorem t_X12_letterOf_21 : decode prog_14_method_26_code 21 = .ok (.bipush 112, 2) := by decide +kernel
theorem t_X12_letterOf_23 : decode prog_14_method_26_code 23 = .ok (.if_icmp .ne 7, 3) := by decide +kernel
theorem t_X12_letterOf_26 : decode prog_14_method_26_code 26 = .ok (.iconst 2, 1) := by decide +kernel
theorem t_X12_letterOf_27 : decode prog_14_method_26_code 27 = .ok (.goto 45, 3) := by decide +kernel
theorem t_X12_letterOf_30 : decode prog_14_method_26_code 30 = .ok (.iload_n 0, 1) := by decide +kernel
theorem t_X12_letterOf_31 : decode prog_14_method_26_code 31 = .ok (.bipush 110, 2) := by decide +kernel
theorem t_X12_letterOf_33 : decode prog_14_method_26_code 33 = .ok (.if_icmp .ne 7, 3) := by decide +kernel
theorem t_X12_letterOf_36 : decode prog_14_method_26_code 36 = .ok (.iconst 3, 1) := by decide +kernel
theorem t_X12_letterOf_37 : decode prog_14_method_26_code 37 = .ok (.goto 35, 3) := by decide +kernel
theorem t_X12_letterOf_40 : decode prog_14_method_26_code 40 = .ok (.iload_n 0, 1) := by decide +kernel
theorem t_X12_letterOf_41 : decode prog_14_method_26_code 41 = .ok (.bipush 108, 2) := by decide +kernel
theorem t_X12_letterOf_43 : decode prog_14_method_26_code 43 = .ok (.if_icmp .ne 7, 3) := by decide +kernel
theorem t_X12_letterOf_46 : decode prog_14_method_26_code 46 = .ok (.iconst 4, 1) := by decide +kernel
theorem t_X12_letterOf_47 : decode prog_14_method_26_code 47 = .ok (.goto 25, 3) := by decide +kernel
theorem t_X12_letterOf_50 : decode prog_14_method_26_code 50 = .ok (.iload_n 0, 1) := by decide +kernel
theorem t_X12_letterOf_51 : decode prog_14_method_26_code 51 = .ok (.bipush 101, 2) := by decide +kernel
theorem t_X12_letterOf_53 : decode prog_14_method_26_code 53 = .ok (.if_icmp .ne 7, 3) := by decide +kernel
theorem t_X12_letterOf_56 : decode prog_14_method_26_code 56 = .ok (.iconst 5, 1) := by decide +kernel
theorem t_X12_letterOf_57 : decode prog_14_method_26_code 57 = .ok (.goto 15, 3) := by decide +kernel
theorem t_X12_letterOf_60 : decode prog_14_method_26_code 60 = .ok (.iload_n 0, 1) := by decide +kernel
theorem t_X12_letterOf_61 : decode prog_14_method_26_code 61 = .ok (.bipush 111, 2) := by decide +kernel
theorem t_X12_letterOf_63 : decode prog_14_method_26_code 63 = .ok (.if_icmp .ne 8, 3) := by decide +kernel
theorem t_X12_letterOf_66 : decode prog_14_method_26_code 66 = .ok (.bipush 6, 2) := by decide +kernel
theorem t_X12_letterOf_68 : decode prog_14_method_26_code 68 = .ok (.goto 4, 3) := by decide +kernel
theorem t_X12_letterOf_71 : decode prog_14_method_26_code 71 = .ok (.iconst (-1), 1) := by decide +kernel
theorem t_X12_letterOf_72 : decode prog_14_method_26_code 72 = .ok (.ireturn, 1) := by decide +kernel
def y_X12_held : MethodName := ⟨"SowingBoardsModel", "held", "(I)I"⟩
theorem t_X12_held_0 : decode prog_14_method_23_code 0 = .ok (.aload_n 0, 1) := by decide +kernel
theorem t_X12_held_1 : decode prog_14_method_23_code 1 = .ok (.iload_n 1, 1) := by decide +kernel
theorem t_X12_held_2 : decode prog_14_method_23_code 2 = .ok (.invokevirtual 182, 3) := by decide +kernel
theorem t_X12_held_5 : decode prog_14_method_23_code 5 = .ok (.istore_n 2, 1) := by decide +kernel
theorem t_X12_held_6 : decode prog_14_method_23_code 6 = .ok (.aload_n 0, 1) := by decide +kernel
theorem t_X12_held_7 : decode prog_14_method_23_code 7 = .ok (.bipush 60, 2) := by decide +kernel
theorem t_X12_held_9 : decode prog_14_method_23_code 9 = .ok (.invokevirtual 149, 3) := by decide +kernel
theorem t_X12_held_12 : decode prog_14_method_23_code 12 = .ok (.ifCond .eq 18, 3) := by decide +kernel
theorem t_X12_held_15 : decode prog_14_method_23_code 15 = .ok (.iload_n 2, 1) := by decide +kernel
theorem t_X12_held_16 : decode prog_14_method_23_code 16 = .ok (.aload_n 0, 1) := by decide +kernel
theorem t_X12_held_17 : decode prog_14_method_23_code 17 = .ok (.iload_n 1, 1) := by decide +kernel
theorem t_X12_held_18 : decode prog_14_method_23_code 18 = .ok (.invokevirtual 182, 3) := by decide +kernel
theorem t_X12_held_21 : decode prog_14_method_23_code 21 = .ok (.if_icmp .ge 7, 3) := by decide +kernel
theorem t_X12_held_24 : decode prog_14_method_23_code 24 = .ok (.iconst 1, 1) := by decide +kernel
theorem t_X12_held_25 : decode prog_14_method_23_code 25 = .ok (.goto 4, 3) := by decide +kernel
theorem t_X12_held_28 : decode prog_14_method_23_code 28 = .ok (.iconst 0, 1) := by decide +kernel
theorem t_X12_held_29 : decode prog_14_method_23_code 29 = .ok (.ireturn, 1) := by decide +kernel
theorem t_X12_held_30 : decode prog_14_method_23_code 30 = .ok (.aload_n 0, 1) := by decide +kernel
theorem t_X12_held_31 : decode prog_14_method_23_code 31 = .ok (.bipush 62, 2) := by decide +kernel
theorem t_X12_held_33 : decode prog_14_method_23_code 33 = .ok (.invokevirtual 149, 3) := by decide +kernel
theorem t_X12_held_36 : decode prog_14_method_23_code 36 = .ok (.ifCond .eq 18, 3) := by decide +kernel
theorem t_X12_held_39 : decode prog_14_method_23_code 39 = .ok (.iload_n 2, 1) := by decide +kernel
theorem t_X12_held_40 : decode prog_14_method_23_code 40 = .ok (.aload_n 0, 1) := by decide +kernel
theorem t_X12_held_41 : decode prog_14_method_23_code 41 = .ok (.iload_n 1, 1) := by decide +kernel
theorem t_X12_held_42 : decode prog_14_method_23_code 42 = .ok (.invokevirtual 182, 3) := by decide +kernel
theorem t_X12_held_45 : decode prog_14_method_23_code 45 = .ok (.if_icmp .le 7, 3) := by decide +kernel
theorem t_X12_held_48 : decode prog_14_method_23_code 48 = .ok (.iconst 1, 1) := by decide +kernel
theorem t_X12_held_49 : decode prog_14_method_23_code 49 = .ok (.goto 4, 3) := by decide +kernel
theorem t_X12_held_52 : decode prog_14_method_23_code 52 = .ok (.iconst 0, 1) := by decide +kernel
theorem t_X12_held_53 : decode prog_14_method_23_code 53 = .ok (.ireturn, 1) := by decide +kernel
theorem t_X12_held_54 : decode prog_14_method_23_code 54 = .ok (.aload_n 0, 1) := by decide +kernel
theorem t_X12_held_55 : decode prog_14_method_23_code 55 = .ok (.bipush 61, 2) := by decide +kernel
theorem t_X12_held_57 : decode prog_14_method_23_code 57 = .ok (.invokevirtual 149, 3) := by decide +kernel
theorem t_X12_held_60 : decode prog_14_method_23_code 60 = .ok (.ifCond .eq 18, 3) := by decide +kernel
theorem t_X12_held_63 : decode prog_14_method_23_code 63 = .ok (.iload_n 2, 1) := by decide +kernel
theorem t_X12_held_64 : decode prog_14_method_23_code 64 = .ok (.aload_n 0, 1) := by decide +kernel
theorem t_X12_held_65 : decode prog_14_method_23_code 65 = .ok (.iload_n 1, 1) := by decide +kernel
theorem t_X12_held_66 : decode prog_14_method_23_code 66 = .ok (.invokevirtual 182, 3) := by decide +kernel
theorem t_X12_held_69 : decode prog_14_method_23_code 69 = .ok (.if_icmp .ne 7, 3) := by decide +kernel
theorem t_X12_held_72 : decode prog_14_method_23_code 72 = .ok (.iconst 1, 1) := by decide +kernel
theorem t_X12_held_73 : decode prog_14_method_23_code 73 = .ok (.goto 4, 3) := by decide +kernel
theorem t_X12_held_76 : decode prog_14_method_23_code 76 = .ok (.iconst 0, 1) := by decide +kernel
theorem t_X12_held_77 : decode prog_14_method_23_code 77 = .ok (.ireturn, 1) := by decide +kernel
theorem t_X12_held_78 : decode prog_14_method_23_code 78 = .ok (.iload_n 2, 1) := by decide +kernel
theorem t_X12_held_79 : decode prog_14_method_23_code 79 = .ok (.ireturn, 1) := by decide +kernel
def y_X12_sum : MethodName := ⟨"SowingBoardsModel", "sum", "(I)I"⟩
theorem t_X12_sum_0 : decode prog_14_method_24_code 0 = .ok (.aload_n 0, 1) := by decide +kernel
theorem t_X12_sum_1 : decode prog_14_method_24_code 1 = .ok (.iload_n 1, 1) := by decide +kernel
theorem t_X12_sum_2 : decode prog_14_method_24_code 2 = .ok (.invokevirtual 185, 3) := by decide +kernel
theorem t_X12_sum_5 : decode prog_14_method_24_code 5 = .ok (.istore_n 2, 1) := by decide +kernel
theorem t_X12_sum_6 : decode prog_14_method_24_code 6 = .ok (.aload_n 0, 1) := by decide +kernel
theorem t_X12_sum_7 : decode prog_14_method_24_code 7 = .ok (.invokevirtual 141, 3) := by decide +kernel
theorem t_X12_sum_10 : decode prog_14_method_24_code 10 = .ok (.ifCond .eq 72, 3) := by decide +kernel
theorem t_X12_sum_13 : decode prog_14_method_24_code 13 = .ok (.aload_n 0, 1) := by decide +kernel
theorem t_X12_sum_14 : decode prog_14_method_24_code 14 = .ok (.invokevirtual 145, 3) := by decide +kernel
theorem t_X12_sum_17 : decode prog_14_method_24_code 17 = .ok (.bipush 43, 2) := by decide +kernel
theorem t_X12_sum_19 : decode prog_14_method_24_code 19 = .ok (.if_icmp .eq 12, 3) := by decide +kernel
theorem t_X12_sum_22 : decode prog_14_method_24_code 22 = .ok (.aload_n 0, 1) := by decide +kernel
theorem t_X12_sum_23 : decode prog_14_method_24_code 23 = .ok (.invokevirtual 145, 3) := by decide +kernel
theorem t_X12_sum_26 : decode prog_14_method_24_code 26 = .ok (.bipush 45, 2) := by decide +kernel
theorem t_X12_sum_28 : decode prog_14_method_24_code 28 = .ok (.if_icmp .ne 54, 3) := by decide +kernel
theorem t_X12_sum_31 : decode prog_14_method_24_code 31 = .ok (.aload_n 0, 1) := by decide +kernel
theorem t_X12_sum_32 : decode prog_14_method_24_code 32 = .ok (.invokevirtual 145, 3) := by decide +kernel
theorem t_X12_sum_35 : decode prog_14_method_24_code 35 = .ok (.bipush 43, 2) := by decide +kernel
theorem t_X12_sum_37 : decode prog_14_method_24_code 37 = .ok (.if_icmp .ne 7, 3) := by decide +kernel
theorem t_X12_sum_40 : decode prog_14_method_24_code 40 = .ok (.iconst 1, 1) := by decide +kernel
theorem t_X12_sum_41 : decode prog_14_method_24_code 41 = .ok (.goto 4, 3) := by decide +kernel
theorem t_X12_sum_44 : decode prog_14_method_24_code 44 = .ok (.iconst 0, 1) := by decide +kernel
theorem t_X12_sum_45 : decode prog_14_method_24_code 45 = .ok (.istore_n 3, 1) := by decide +kernel
theorem t_X12_sum_46 : decode prog_14_method_24_code 46 = .ok (.aload_n 0, 1) := by decide +kernel
theorem t_X12_sum_47 : decode prog_14_method_24_code 47 = .ok (.dup, 1) := by decide +kernel
theorem t_X12_sum_48 : decode prog_14_method_24_code 48 = .ok (.getfield 131, 3) := by decide +kernel
theorem t_X12_sum_51 : decode prog_14_method_24_code 51 = .ok (.iconst 1, 1) := by decide +kernel
theorem t_X12_sum_52 : decode prog_14_method_24_code 52 = .ok (.iadd, 1) := by decide +kernel
theorem t_X12_sum_53 : decode prog_14_method_24_code 53 = .ok (.putfield 131, 3) := by decide +kernel
theorem t_X12_sum_56 : decode prog_14_method_24_code 56 = .ok (.aload_n 0, 1) := by decide +kernel
theorem t_X12_sum_57 : decode prog_14_method_24_code 57 = .ok (.iload_n 1, 1) := by decide +kernel
theorem t_X12_sum_58 : decode prog_14_method_24_code 58 = .ok (.invokevirtual 185, 3) := by decide +kernel
theorem t_X12_sum_61 : decode prog_14_method_24_code 61 = .ok (.istore 4, 2) := by decide +kernel
theorem t_X12_sum_63 : decode prog_14_method_24_code 63 = .ok (.iload_n 3, 1) := by decide +kernel
theorem t_X12_sum_64 : decode prog_14_method_24_code 64 = .ok (.ifCond .eq 10, 3) := by decide +kernel
theorem t_X12_sum_67 : decode prog_14_method_24_code 67 = .ok (.iload_n 2, 1) := by decide +kernel
theorem t_X12_sum_68 : decode prog_14_method_24_code 68 = .ok (.iload 4, 2) := by decide +kernel
theorem t_X12_sum_70 : decode prog_14_method_24_code 70 = .ok (.iadd, 1) := by decide +kernel
theorem t_X12_sum_71 : decode prog_14_method_24_code 71 = .ok (.goto 7, 3) := by decide +kernel
theorem t_X12_sum_74 : decode prog_14_method_24_code 74 = .ok (.iload_n 2, 1) := by decide +kernel
theorem t_X12_sum_75 : decode prog_14_method_24_code 75 = .ok (.iload 4, 2) := by decide +kernel
theorem t_X12_sum_77 : decode prog_14_method_24_code 77 = .ok (.isub, 1) := by decide +kernel
theorem t_X12_sum_78 : decode prog_14_method_24_code 78 = .ok (.istore_n 2, 1) := by decide +kernel
theorem t_X12_sum_79 : decode prog_14_method_24_code 79 = .ok (.goto (-73), 3) := by decide +kernel
theorem t_X12_sum_82 : decode prog_14_method_24_code 82 = .ok (.iload_n 2, 1) := by decide +kernel
theorem t_X12_sum_83 : decode prog_14_method_24_code 83 = .ok (.ireturn, 1) := by decide +kernel
def y_X12_product : MethodName := ⟨"SowingBoardsModel", "product", "(I)I"⟩
theorem t_X12_product_0 : decode prog_14_method_25_code 0 = .ok (.aload_n 0, 1) := by decide +kernel
theorem t_X12_product_1 : decode prog_14_method_25_code 1 = .ok (.iload_n 1, 1) := by decide +kernel
theorem t_X12_product_2 : decode prog_14_method_25_code 2 = .ok (.invokevirtual 188, 3) := by decide +kernel
theorem t_X12_product_5 : decode prog_14_method_25_code 5 = .ok (.istore_n 2, 1) := by decide +kernel
theorem t_X12_product_6 : decode prog_14_method_25_code 6 = .ok (.aload_n 0, 1) := by decide +kernel
theorem t_X12_product_7 : decode prog_14_method_25_code 7 = .ok (.invokevirtual 141, 3) := by decide +kernel
theorem t_X12_product_10 : decode prog_14_method_25_code 10 = .ok (.ifCond .eq 81, 3) := by decide +kernel
theorem t_X12_product_13 : decode prog_14_method_25_code 13 = .ok (.aload_n 0, 1) := by decide +kernel
theorem t_X12_product_14 : decode prog_14_method_25_code 14 = .ok (.invokevirtual 145, 3) := by decide +kernel
theorem t_X12_product_17 : decode prog_14_method_25_code 17 = .ok (.bipush 42, 2) := by decide +kernel
theorem t_X12_product_19 : decode prog_14_method_25_code 19 = .ok (.if_icmp .eq 12, 3) := by decide +kernel
theorem t_X12_product_22 : decode prog_14_method_25_code 22 = .ok (.aload_n 0, 1) := by decide +kernel
theorem t_X12_product_23 : decode prog_14_method_25_code 23 = .ok (.invokevirtual 145, 3) := by decide +kernel
theorem t_X12_product_26 : decode prog_14_method_25_code 26 = .ok (.bipush 47, 2) := by decide +kernel
theorem t_X12_product_28 : decode prog_14_method_25_code 28 = .ok (.if_icmp .ne 63, 3) := by decide +kernel
theorem t_X12_product_31 : decode prog_14_method_25_code 31 = .ok (.aload_n 0, 1) := by decide +kernel
theorem t_X12_product_32 : decode prog_14_method_25_code 32 = .ok (.invokevirtual 145, 3) := by decide +kernel
theorem t_X12_product_35 : decode prog_14_method_25_code 35 = .ok (.bipush 42, 2) := by decide +kernel
theorem t_X12_product_37 : decode prog_14_method_25_code 37 = .ok (.if_icmp .ne 7, 3) := by decide +kernel
theorem t_X12_product_40 : decode prog_14_method_25_code 40 = .ok (.iconst 1, 1) := by decide +kernel
theorem t_X12_product_41 : decode prog_14_method_25_code 41 = .ok (.goto 4, 3) := by decide +kernel
theorem t_X12_product_44 : decode prog_14_method_25_code 44 = .ok (.iconst 0, 1) := by decide +kernel
theorem t_X12_product_45 : decode prog_14_method_25_code 45 = .ok (.istore_n 3, 1) := by decide +kernel
theorem t_X12_product_46 : decode prog_14_method_25_code 46 = .ok (.aload_n 0, 1) := by decide +kernel
theorem t_X12_product_47 : decode prog_14_method_25_code 47 = .ok (.dup, 1) := by decide +kernel
theorem t_X12_product_48 : decode prog_14_method_25_code 48 = .ok (.getfield 131, 3) := by decide +kernel
theorem t_X12_product_51 : decode prog_14_method_25_code 51 = .ok (.iconst 1, 1) := by decide +kernel
theorem t_X12_product_52 : decode prog_14_method_25_code 52 = .ok (.iadd, 1) := by decide +kernel
theorem t_X12_product_53 : decode prog_14_method_25_code 53 = .ok (.putfield 131, 3) := by decide +kernel
theorem t_X12_product_56 : decode prog_14_method_25_code 56 = .ok (.aload_n 0, 1) := by decide +kernel
theorem t_X12_product_57 : decode prog_14_method_25_code 57 = .ok (.iload_n 1, 1) := by decide +kernel
theorem t_X12_product_58 : decode prog_14_method_25_code 58 = .ok (.invokevirtual 188, 3) := by decide +kernel
theorem t_X12_product_61 : decode prog_14_method_25_code 61 = .ok (.istore 4, 2) := by decide +kernel
theorem t_X12_product_63 : decode prog_14_method_25_code 63 = .ok (.iload_n 3, 1) := by decide +kernel
theorem t_X12_product_64 : decode prog_14_method_25_code 64 = .ok (.ifCond .eq 10, 3) := by decide +kernel
theorem t_X12_product_67 : decode prog_14_method_25_code 67 = .ok (.iload_n 2, 1) := by decide +kernel
theorem t_X12_product_68 : decode prog_14_method_25_code 68 = .ok (.iload 4, 2) := by decide +kernel
theorem t_X12_product_70 : decode prog_14_method_25_code 70 = .ok (.imul, 1) := by decide +kernel
theorem t_X12_product_71 : decode prog_14_method_25_code 71 = .ok (.goto 16, 3) := by decide +kernel
theorem t_X12_product_74 : decode prog_14_method_25_code 74 = .ok (.iload 4, 2) := by decide +kernel
theorem t_X12_product_76 : decode prog_14_method_25_code 76 = .ok (.ifCond .ne 7, 3) := by decide +kernel
theorem t_X12_product_79 : decode prog_14_method_25_code 79 = .ok (.iconst 0, 1) := by decide +kernel
theorem t_X12_product_80 : decode prog_14_method_25_code 80 = .ok (.goto 7, 3) := by decide +kernel
theorem t_X12_product_83 : decode prog_14_method_25_code 83 = .ok (.iload_n 2, 1) := by decide +kernel
theorem t_X12_product_84 : decode prog_14_method_25_code 84 = .ok (.iload 4, 2) := by decide +kernel
theorem t_X12_product_86 : decode prog_14_method_25_code 86 = .ok (.idiv, 1) := by decide +kernel
theorem t_X12_product_87 : decode prog_14_method_25_code 87 = .ok (.istore_n 2, 1) := by decide +kernel
theorem t_X12_product_88 : decode prog_14_method_25_code 88 = .ok (.goto (-82), 3) := by decide +kernel
theorem t_X12_product_91 : decode prog_14_method_25_code 91 = .ok (.iload_n 2, 1) := by decide +kernel
theorem t_X12_product_92 : decode prog_14_method_25_code 92 = .ok (.ireturn, 1) := by decide +kernel
def y_X12_thing : MethodName := ⟨"SowingBoardsModel", "thing", "(I)I"⟩
theorem t_X12_thing_0 : decode prog_14_method_27_code 0 = .ok (.aload_n 0, 1) := by decide +kernel
theorem t_X12_thing_1 : decode prog_14_method_27_code 1 = .ok (.bipush 45, 2) := by decide +kernel
theorem t_X12_thing_3 : decode prog_14_method_27_code 3 = .ok (.invokevirtual 149, 3) := by decide +kernel
theorem t_X12_thing_6 : decode prog_14_method_27_code 6 = .ok (.ifCond .eq 10, 3) := by decide +kernel
theorem t_X12_thing_9 : decode prog_14_method_27_code 9 = .ok (.aload_n 0, 1) := by decide +kernel
theorem t_X12_thing_10 : decode prog_14_method_27_code 10 = .ok (.iload_n 1, 1) := by decide +kernel
theorem t_X12_thing_11 : decode prog_14_method_27_code 11 = .ok (.invokevirtual 188, 3) := by decide +kernel
theorem t_X12_thing_14 : decode prog_14_method_27_code 14 = .ok (.ineg, 1) := by decide +kernel
theorem t_X12_thing_15 : decode prog_14_method_27_code 15 = .ok (.ireturn, 1) := by decide +kernel
theorem t_X12_thing_16 : decode prog_14_method_27_code 16 = .ok (.aload_n 0, 1) := by decide +kernel
theorem t_X12_thing_17 : decode prog_14_method_27_code 17 = .ok (.invokevirtual 141, 3) := by decide +kernel
theorem t_X12_thing_20 : decode prog_14_method_27_code 20 = .ok (.ifCond .ne 5, 3) := by decide +kernel
theorem t_X12_thing_23 : decode prog_14_method_27_code 23 = .ok (.iconst 0, 1) := by decide +kernel
theorem t_X12_thing_24 : decode prog_14_method_27_code 24 = .ok (.ireturn, 1) := by decide +kernel
theorem t_X12_thing_25 : decode prog_14_method_27_code 25 = .ok (.aload_n 0, 1) := by decide +kernel
theorem t_X12_thing_26 : decode prog_14_method_27_code 26 = .ok (.invokevirtual 145, 3) := by decide +kernel
theorem t_X12_thing_29 : decode prog_14_method_27_code 29 = .ok (.istore_n 2, 1) := by decide +kernel
theorem t_X12_thing_30 : decode prog_14_method_27_code 30 = .ok (.iload_n 2, 1) := by decide +kernel
theorem t_X12_thing_31 : decode prog_14_method_27_code 31 = .ok (.bipush 40, 2) := by decide +kernel
theorem t_X12_thing_33 : decode prog_14_method_27_code 33 = .ok (.if_icmp .ne 34, 3) := by decide +kernel
theorem t_X12_thing_36 : decode prog_14_method_27_code 36 = .ok (.iload_n 1, 1) := by decide +kernel
theorem t_X12_thing_37 : decode prog_14_method_27_code 37 = .ok (.iconst 4, 1) := by decide +kernel
theorem t_X12_thing_38 : decode prog_14_method_27_code 38 = .ok (.if_icmp .ge 29, 3) := by decide +kernel
theorem t_X12_thing_41 : decode prog_14_method_27_code 41 = .ok (.aload_n 0, 1) := by decide +kernel
theorem t_X12_thing_42 : decode prog_14_method_27_code 42 = .ok (.dup, 1) := by decide +kernel
theorem t_X12_thing_43 : decode prog_14_method_27_code 43 = .ok (.getfield 131, 3) := by decide +kernel
theorem t_X12_thing_46 : decode prog_14_method_27_code 46 = .ok (.iconst 1, 1) := by decide +kernel
theorem t_X12_thing_47 : decode prog_14_method_27_code 47 = .ok (.iadd, 1) := by decide +kernel
theorem t_X12_thing_48 : decode prog_14_method_27_code 48 = .ok (.putfield 131, 3) := by decide +kernel
theorem t_X12_thing_51 : decode prog_14_method_27_code 51 = .ok (.aload_n 0, 1) := by decide +kernel
theorem t_X12_thing_52 : decode prog_14_method_27_code 52 = .ok (.iload_n 1, 1) := by decide +kernel
theorem t_X12_thing_53 : decode prog_14_method_27_code 53 = .ok (.iconst 1, 1) := by decide +kernel
theorem t_X12_thing_54 : decode prog_14_method_27_code 54 = .ok (.iadd, 1) := by decide +kernel
theorem t_X12_thing_55 : decode prog_14_method_27_code 55 = .ok (.invokevirtual 191, 3) := by decide +kernel
theorem t_X12_thing_58 : decode prog_14_method_27_code 58 = .ok (.istore_n 3, 1) := by decide +kernel
theorem t_X12_thing_59 : decode prog_14_method_27_code 59 = .ok (.aload_n 0, 1) := by decide +kernel
theorem t_X12_thing_60 : decode prog_14_method_27_code 60 = .ok (.bipush 41, 2) := by decide +kernel
theorem t_X12_thing_62 : decode prog_14_method_27_code 62 = .ok (.invokevirtual 194, 3) := by decide +kernel
theorem t_X12_thing_65 : decode prog_14_method_27_code 65 = .ok (.iload_n 3, 1) := by decide +kernel
theorem t_X12_thing_66 : decode prog_14_method_27_code 66 = .ok (.ireturn, 1) := by decide +kernel
theorem t_X12_thing_67 : decode prog_14_method_27_code 67 = .ok (.iload_n 2, 1) := by decide +kernel
theorem t_X12_thing_68 : decode prog_14_method_27_code 68 = .ok (.bipush 48, 2) := by decide +kernel
theorem t_X12_thing_70 : decode prog_14_method_27_code 70 = .ok (.bipush 57, 2) := by decide +kernel
theorem t_X12_thing_72 : decode prog_14_method_27_code 72 = .ok (.invokestatic 118, 3) := by decide +kernel
theorem t_X12_thing_75 : decode prog_14_method_27_code 75 = .ok (.ifCond .eq 9, 3) := by decide +kernel
theorem t_X12_thing_78 : decode prog_14_method_27_code 78 = .ok (.aload_n 0, 1) := by decide +kernel
theorem t_X12_thing_79 : decode prog_14_method_27_code 79 = .ok (.iconst 3, 1) := by decide +kernel
theorem t_X12_thing_80 : decode prog_14_method_27_code 80 = .ok (.invokevirtual 198, 3) := by decide +kernel
theorem t_X12_thing_83 : decode prog_14_method_27_code 83 = .ok (.ireturn, 1) := by decide +kernel
theorem t_X12_thing_84 : decode prog_14_method_27_code 84 = .ok (.iload_n 2, 1) := by decide +kernel
theorem t_X12_thing_85 : decode prog_14_method_27_code 85 = .ok (.invokestatic 201, 3) := by decide +kernel
theorem t_X12_thing_88 : decode prog_14_method_27_code 88 = .ok (.iconst (-1), 1) := by decide +kernel
theorem t_X12_thing_89 : decode prog_14_method_27_code 89 = .ok (.if_icmp .ne 13, 3) := by decide +kernel
theorem t_X12_thing_92 : decode prog_14_method_27_code 92 = .ok (.aload_n 0, 1) := by decide +kernel
theorem t_X12_thing_93 : decode prog_14_method_27_code 93 = .ok (.aload_n 0, 1) := by decide +kernel
theorem t_X12_thing_94 : decode prog_14_method_27_code 94 = .ok (.getfield 131, 3) := by decide +kernel
theorem t_X12_thing_97 : decode prog_14_method_27_code 97 = .ok (.invokevirtual 153, 3) := by decide +kernel
theorem t_X12_thing_100 : decode prog_14_method_27_code 100 = .ok (.iconst 0, 1) := by decide +kernel
theorem t_X12_thing_101 : decode prog_14_method_27_code 101 = .ok (.ireturn, 1) := by decide +kernel
theorem t_X12_thing_102 : decode prog_14_method_27_code 102 = .ok (.aload_n 0, 1) := by decide +kernel
theorem t_X12_thing_103 : decode prog_14_method_27_code 103 = .ok (.dup, 1) := by decide +kernel
theorem t_X12_thing_104 : decode prog_14_method_27_code 104 = .ok (.getfield 131, 3) := by decide +kernel
theorem t_X12_thing_107 : decode prog_14_method_27_code 107 = .ok (.iconst 1, 1) := by decide +kernel
theorem t_X12_thing_108 : decode prog_14_method_27_code 108 = .ok (.iadd, 1) := by decide +kernel
theorem t_X12_thing_109 : decode prog_14_method_27_code 109 = .ok (.putfield 131, 3) := by decide +kernel
theorem t_X12_thing_112 : decode prog_14_method_27_code 112 = .ok (.aload_n 0, 1) := by decide +kernel
theorem t_X12_thing_113 : decode prog_14_method_27_code 113 = .ok (.getfield 204, 3) := by decide +kernel
theorem t_X12_thing_116 : decode prog_14_method_27_code 116 = .ok (.ifCond .eq 15, 3) := by decide +kernel
theorem t_X12_thing_119 : decode prog_14_method_27_code 119 = .ok (.aload_n 0, 1) := by decide +kernel
theorem t_X12_thing_120 : decode prog_14_method_27_code 120 = .ok (.getfield 37, 3) := by decide +kernel
theorem t_X12_thing_123 : decode prog_14_method_27_code 123 = .ok (.iload_n 2, 1) := by decide +kernel
theorem t_X12_thing_124 : decode prog_14_method_27_code 124 = .ok (.invokestatic 201, 3) := by decide +kernel
theorem t_X12_thing_127 : decode prog_14_method_27_code 127 = .ok (.iaload, 1) := by decide +kernel
theorem t_X12_thing_128 : decode prog_14_method_27_code 128 = .ok (.goto 4, 3) := by decide +kernel
theorem t_X12_thing_131 : decode prog_14_method_27_code 131 = .ok (.iconst 0, 1) := by decide +kernel
theorem t_X12_thing_132 : decode prog_14_method_27_code 132 = .ok (.ireturn, 1) := by decide +kernel
def y_X12_readRule : MethodName := ⟨"SowingBoardsModel", "readRule", "()Z"⟩
theorem t_X12_readRule_0 : decode prog_14_method_28_code 0 = .ok (.aload_n 0, 1) := by decide +kernel
theorem t_X12_readRule_1 : decode prog_14_method_28_code 1 = .ok (.bipush 40, 2) := by decide +kernel
theorem t_X12_readRule_3 : decode prog_14_method_28_code 3 = .ok (.invokevirtual 161, 3) := by decide +kernel
theorem t_X12_readRule_6 : decode prog_14_method_28_code 6 = .ok (.aload_n 0, 1) := by decide +kernel
theorem t_X12_readRule_7 : decode prog_14_method_28_code 7 = .ok (.iconst 0, 1) := by decide +kernel
theorem t_X12_readRule_8 : decode prog_14_method_28_code 8 = .ok (.putfield 204, 3) := by decide +kernel
theorem t_X12_readRule_11 : decode prog_14_method_28_code 11 = .ok (.aload_n 0, 1) := by decide +kernel
theorem t_X12_readRule_12 : decode prog_14_method_28_code 12 = .ok (.getfield 125, 3) := by decide +kernel
theorem t_X12_readRule_15 : decode prog_14_method_28_code 15 = .ok (.ifCond .le 9, 3) := by decide +kernel
theorem t_X12_readRule_18 : decode prog_14_method_28_code 18 = .ok (.aload_n 0, 1) := by decide +kernel
theorem t_X12_readRule_19 : decode prog_14_method_28_code 19 = .ok (.iconst 0, 1) := by decide +kernel
theorem t_X12_readRule_20 : decode prog_14_method_28_code 20 = .ok (.invokevirtual 191, 3) := by decide +kernel
theorem t_X12_readRule_23 : decode prog_14_method_28_code 23 = .ok (.pop, 1) := by decide +kernel
theorem t_X12_readRule_24 : decode prog_14_method_28_code 24 = .ok (.aload_n 0, 1) := by decide +kernel
theorem t_X12_readRule_25 : decode prog_14_method_28_code 25 = .ok (.invokevirtual 164, 3) := by decide +kernel
theorem t_X12_readRule_28 : decode prog_14_method_28_code 28 = .ok (.ireturn, 1) := by decide +kernel
def y_X12_rule : MethodName := ⟨"SowingBoardsModel", "rule", "()I"⟩
theorem t_X12_rule_0 : decode prog_14_method_29_code 0 = .ok (.aload_n 0, 1) := by decide +kernel
theorem t_X12_rule_1 : decode prog_14_method_29_code 1 = .ok (.iconst 0, 1) := by decide +kernel
theorem t_X12_rule_2 : decode prog_14_method_29_code 2 = .ok (.putfield 109, 3) := by decide +kernel
theorem t_X12_rule_5 : decode prog_14_method_29_code 5 = .ok (.aload_n 0, 1) := by decide +kernel
theorem t_X12_rule_6 : decode prog_14_method_29_code 6 = .ok (.getfield 115, 3) := by decide +kernel
theorem t_X12_rule_9 : decode prog_14_method_29_code 9 = .ok (.istore_n 1, 1) := by decide +kernel
theorem t_X12_rule_10 : decode prog_14_method_29_code 10 = .ok (.aload_n 0, 1) := by decide +kernel
theorem t_X12_rule_11 : decode prog_14_method_29_code 11 = .ok (.invokevirtual 208, 3) := by decide +kernel
theorem t_X12_rule_14 : decode prog_14_method_29_code 14 = .ok (.ifCond .ne 10, 3) := by decide +kernel
theorem t_X12_rule_17 : decode prog_14_method_29_code 17 = .ok (.iconst (-1), 1) := by decide +kernel
theorem t_X12_rule_18 : decode prog_14_method_29_code 18 = .ok (.aload_n 0, 1) := by decide +kernel
theorem t_X12_rule_19 : decode prog_14_method_29_code 19 = .ok (.getfield 134, 3) := by decide +kernel
theorem t_X12_rule_22 : decode prog_14_method_29_code 22 = .ok (.isub, 1) := by decide +kernel
theorem t_X12_rule_23 : decode prog_14_method_29_code 23 = .ok (.ireturn, 1) := by decide +kernel
theorem t_X12_rule_24 : decode prog_14_method_29_code 24 = .ok (.iconst 0, 1) := by decide +kernel
theorem t_X12_rule_25 : decode prog_14_method_29_code 25 = .ok (.istore_n 2, 1) := by decide +kernel
theorem t_X12_rule_26 : decode prog_14_method_29_code 26 = .ok (.iload_n 2, 1) := by decide +kernel
theorem t_X12_rule_27 : decode prog_14_method_29_code 27 = .ok (.iload_n 1, 1) := by decide +kernel
theorem t_X12_rule_28 : decode prog_14_method_29_code 28 = .ok (.if_icmp .ge 21, 3) := by decide +kernel
theorem t_X12_rule_31 : decode prog_14_method_29_code 31 = .ok (.aload_n 0, 1) := by decide +kernel
theorem t_X12_rule_32 : decode prog_14_method_29_code 32 = .ok (.getfield 31, 3) := by decide +kernel
theorem t_X12_rule_35 : decode prog_14_method_29_code 35 = .ok (.iload_n 2, 1) := by decide +kernel
theorem t_X12_rule_36 : decode prog_14_method_29_code 36 = .ok (.aload_n 0, 1) := by decide +kernel
theorem t_X12_rule_37 : decode prog_14_method_29_code 37 = .ok (.getfield 20, 3) := by decide +kernel
theorem t_X12_rule_40 : decode prog_14_method_29_code 40 = .ok (.iload_n 2, 1) := by decide +kernel
theorem t_X12_rule_41 : decode prog_14_method_29_code 41 = .ok (.baload, 1) := by decide +kernel
theorem t_X12_rule_42 : decode prog_14_method_29_code 42 = .ok (.bastore, 1) := by decide +kernel
theorem t_X12_rule_43 : decode prog_14_method_29_code 43 = .ok (.iinc 2 1, 3) := by decide +kernel
theorem t_X12_rule_46 : decode prog_14_method_29_code 46 = .ok (.goto (-20), 3) := by decide +kernel
theorem t_X12_rule_49 : decode prog_14_method_29_code 49 = .ok (.aload_n 0, 1) := by decide +kernel
theorem t_X12_rule_50 : decode prog_14_method_29_code 50 = .ok (.iload_n 1, 1) := by decide +kernel
theorem t_X12_rule_51 : decode prog_14_method_29_code 51 = .ok (.putfield 211, 3) := by decide +kernel
theorem t_X12_rule_54 : decode prog_14_method_29_code 54 = .ok (.iconst 0, 1) := by decide +kernel
theorem t_X12_rule_55 : decode prog_14_method_29_code 55 = .ok (.ireturn, 1) := by decide +kernel
def y_X12_pit : MethodName := ⟨"SowingBoardsModel", "pit", "(I)I"⟩
theorem t_X12_pit_0 : decode prog_14_method_30_code 0 = .ok (.aload_n 0, 1) := by decide +kernel
theorem t_X12_pit_1 : decode prog_14_method_30_code 1 = .ok (.iconst 0, 1) := by decide +kernel
theorem t_X12_pit_2 : decode prog_14_method_30_code 2 = .ok (.putfield 109, 3) := by decide +kernel
theorem t_X12_pit_5 : decode prog_14_method_30_code 5 = .ok (.iload_n 1, 1) := by decide +kernel
theorem t_X12_pit_6 : decode prog_14_method_30_code 6 = .ok (.iconst 0, 1) := by decide +kernel
theorem t_X12_pit_7 : decode prog_14_method_30_code 7 = .ok (.aload_n 0, 1) := by decide +kernel
theorem t_X12_pit_8 : decode prog_14_method_30_code 8 = .ok (.invokevirtual 214, 3) := by decide +kernel
theorem t_X12_pit_11 : decode prog_14_method_30_code 11 = .ok (.iconst 1, 1) := by decide +kernel
theorem t_X12_pit_12 : decode prog_14_method_30_code 12 = .ok (.isub, 1) := by decide +kernel
theorem t_X12_pit_13 : decode prog_14_method_30_code 13 = .ok (.invokestatic 118, 3) := by decide +kernel
theorem t_X12_pit_16 : decode prog_14_method_30_code 16 = .ok (.ifCond .eq 12, 3) := by decide +kernel
theorem t_X12_pit_19 : decode prog_14_method_30_code 19 = .ok (.aload_n 0, 1) := by decide +kernel
theorem t_X12_pit_20 : decode prog_14_method_30_code 20 = .ok (.getfield 9, 3) := by decide +kernel
theorem t_X12_pit_23 : decode prog_14_method_30_code 23 = .ok (.iload_n 1, 1) := by decide +kernel
theorem t_X12_pit_24 : decode prog_14_method_30_code 24 = .ok (.iaload, 1) := by decide +kernel
theorem t_X12_pit_25 : decode prog_14_method_30_code 25 = .ok (.goto 7, 3) := by decide +kernel
theorem t_X12_pit_28 : decode prog_14_method_30_code 28 = .ok (.aload_n 0, 1) := by decide +kernel
theorem t_X12_pit_29 : decode prog_14_method_30_code 29 = .ok (.invokevirtual 217, 3) := by decide +kernel
theorem t_X12_pit_32 : decode prog_14_method_30_code 32 = .ok (.ireturn, 1) := by decide +kernel
def y_X12_store : MethodName := ⟨"SowingBoardsModel", "store", "(I)I"⟩
theorem t_X12_store_0 : decode prog_14_method_31_code 0 = .ok (.aload_n 0, 1) := by decide +kernel
theorem t_X12_store_1 : decode prog_14_method_31_code 1 = .ok (.iconst 0, 1) := by decide +kernel
theorem t_X12_store_2 : decode prog_14_method_31_code 2 = .ok (.putfield 109, 3) := by decide +kernel
theorem t_X12_store_5 : decode prog_14_method_31_code 5 = .ok (.iload_n 1, 1) := by decide +kernel
theorem t_X12_store_6 : decode prog_14_method_31_code 6 = .ok (.iconst 0, 1) := by decide +kernel
theorem t_X12_store_7 : decode prog_14_method_31_code 7 = .ok (.iconst 1, 1) := by decide +kernel
theorem t_X12_store_8 : decode prog_14_method_31_code 8 = .ok (.invokestatic 118, 3) := by decide +kernel
theorem t_X12_store_11 : decode prog_14_method_31_code 11 = .ok (.ifCond .eq 15, 3) := by decide +kernel
theorem t_X12_store_14 : decode prog_14_method_31_code 14 = .ok (.aload_n 0, 1) := by decide +kernel
theorem t_X12_store_15 : decode prog_14_method_31_code 15 = .ok (.getfield 9, 3) := by decide +kernel
theorem t_X12_store_18 : decode prog_14_method_31_code 18 = .ok (.bipush 12, 2) := by decide +kernel
theorem t_X12_store_20 : decode prog_14_method_31_code 20 = .ok (.iload_n 1, 1) := by decide +kernel
theorem t_X12_store_21 : decode prog_14_method_31_code 21 = .ok (.iadd, 1) := by decide +kernel
theorem t_X12_store_22 : decode prog_14_method_31_code 22 = .ok (.iaload, 1) := by decide +kernel
theorem t_X12_store_23 : decode prog_14_method_31_code 23 = .ok (.goto 7, 3) := by decide +kernel
theorem t_X12_store_26 : decode prog_14_method_31_code 26 = .ok (.aload_n 0, 1) := by decide +kernel
theorem t_X12_store_27 : decode prog_14_method_31_code 27 = .ok (.invokevirtual 217, 3) := by decide +kernel
theorem t_X12_store_30 : decode prog_14_method_31_code 30 = .ok (.ireturn, 1) := by decide +kernel
def y_X12_seeds : MethodName := ⟨"SowingBoardsModel", "seeds", "([III)I"⟩
theorem t_X12_seeds_0 : decode prog_14_method_32_code 0 = .ok (.iconst 0, 1) := by decide +kernel
theorem t_X12_seeds_1 : decode prog_14_method_32_code 1 = .ok (.istore 4, 2) := by decide +kernel
theorem t_X12_seeds_3 : decode prog_14_method_32_code 3 = .ok (.iconst 0, 1) := by decide +kernel
theorem t_X12_seeds_4 : decode prog_14_method_32_code 4 = .ok (.istore 5, 2) := by decide +kernel
theorem t_X12_seeds_6 : decode prog_14_method_32_code 6 = .ok (.iload 5, 2) := by decide +kernel
theorem t_X12_seeds_8 : decode prog_14_method_32_code 8 = .ok (.iload_n 3, 1) := by decide +kernel
theorem t_X12_seeds_9 : decode prog_14_method_32_code 9 = .ok (.if_icmp .ge 20, 3) := by decide +kernel
theorem t_X12_seeds_12 : decode prog_14_method_32_code 12 = .ok (.iload 4, 2) := by decide +kernel
theorem t_X12_seeds_14 : decode prog_14_method_32_code 14 = .ok (.aload_n 1, 1) := by decide +kernel
theorem t_X12_seeds_15 : decode prog_14_method_32_code 15 = .ok (.iload_n 2, 1) := by decide +kernel
theorem t_X12_seeds_16 : decode prog_14_method_32_code 16 = .ok (.iload 5, 2) := by decide +kernel
theorem t_X12_seeds_18 : decode prog_14_method_32_code 18 = .ok (.iadd, 1) := by decide +kernel
theorem t_X12_seeds_19 : decode prog_14_method_32_code 19 = .ok (.iaload, 1) := by decide +kernel
theorem t_X12_seeds_20 : decode prog_14_method_32_code 20 = .ok (.iadd, 1) := by decide +kernel
theorem t_X12_seeds_21 : decode prog_14_method_32_code 21 = .ok (.istore 4, 2) := by decide +kernel
theorem t_X12_seeds_23 : decode prog_14_method_32_code 23 = .ok (.iinc 5 1, 3) := by decide +kernel
theorem t_X12_seeds_26 : decode prog_14_method_32_code 26 = .ok (.goto (-20), 3) := by decide +kernel
theorem t_X12_seeds_29 : decode prog_14_method_32_code 29 = .ok (.iload 4, 2) := by decide +kernel
theorem t_X12_seeds_31 : decode prog_14_method_32_code 31 = .ok (.ireturn, 1) := by decide +kernel
def y_X12_sheet : MethodName := ⟨"SowingBoardsModel", "sheet", "(IIII)I"⟩
theorem t_X12_sheet_0 : decode prog_14_method_33_code 0 = .ok (.aload_n 0, 1) := by decide +kernel
theorem t_X12_sheet_1 : decode prog_14_method_33_code 1 = .ok (.iconst 0, 1) := by decide +kernel
theorem t_X12_sheet_2 : decode prog_14_method_33_code 2 = .ok (.putfield 109, 3) := by decide +kernel
theorem t_X12_sheet_5 : decode prog_14_method_33_code 5 = .ok (.iload_n 1, 1) := by decide +kernel
theorem t_X12_sheet_6 : decode prog_14_method_33_code 6 = .ok (.iconst 0, 1) := by decide +kernel
theorem t_X12_sheet_7 : decode prog_14_method_33_code 7 = .ok (.iconst 3, 1) := by decide +kernel
theorem t_X12_sheet_8 : decode prog_14_method_33_code 8 = .ok (.invokestatic 118, 3) := by decide +kernel
theorem t_X12_sheet_11 : decode prog_14_method_33_code 11 = .ok (.ifCond .eq 9, 3) := by decide +kernel
theorem t_X12_sheet_14 : decode prog_14_method_33_code 14 = .ok (.iload_n 2, 1) := by decide +kernel
theorem t_X12_sheet_15 : decode prog_14_method_33_code 15 = .ok (.bipush 12, 2) := by decide +kernel
theorem t_X12_sheet_17 : decode prog_14_method_33_code 17 = .ok (.if_icmp .le 5, 3) := by decide +kernel
theorem t_X12_sheet_20 : decode prog_14_method_33_code 20 = .ok (.iconst (-1), 1) := by decide +kernel
theorem t_X12_sheet_21 : decode prog_14_method_33_code 21 = .ok (.ireturn, 1) := by decide +kernel
theorem t_X12_sheet_22 : decode prog_14_method_33_code 22 = .ok (.iload_n 1, 1) := by decide +kernel
theorem t_X12_sheet_23 : decode prog_14_method_33_code 23 = .ok (.iconst 3, 1) := by decide +kernel
theorem t_X12_sheet_24 : decode prog_14_method_33_code 24 = .ok (.if_icmp .ge 10, 3) := by decide +kernel
theorem t_X12_sheet_27 : decode prog_14_method_33_code 27 = .ok (.iload_n 2, 1) := by decide +kernel
theorem t_X12_sheet_28 : decode prog_14_method_33_code 28 = .ok (.ifCond .ge 6, 3) := by decide +kernel
theorem t_X12_sheet_31 : decode prog_14_method_33_code 31 = .ok (.bipush (-2), 2) := by decide +kernel
theorem t_X12_sheet_33 : decode prog_14_method_33_code 33 = .ok (.ireturn, 1) := by decide +kernel
theorem t_X12_sheet_34 : decode prog_14_method_33_code 34 = .ok (.iload_n 3, 1) := by decide +kernel
theorem t_X12_sheet_35 : decode prog_14_method_33_code 35 = .ok (.istore 5, 2) := by decide +kernel
theorem t_X12_sheet_37 : decode prog_14_method_33_code 37 = .ok (.iconst 0, 1) := by decide +kernel
theorem t_X12_sheet_38 : decode prog_14_method_33_code 38 = .ok (.istore 6, 2) := by decide +kernel
theorem t_X12_sheet_40 : decode prog_14_method_33_code 40 = .ok (.iload 6, 2) := by decide +kernel
theorem t_X12_sheet_42 : decode prog_14_method_33_code 42 = .ok (.aload_n 0, 1) := by decide +kernel
theorem t_X12_sheet_43 : decode prog_14_method_33_code 43 = .ok (.invokevirtual 214, 3) := by decide +kernel
theorem t_X12_sheet_46 : decode prog_14_method_33_code 46 = .ok (.if_icmp .ge 74, 3) := by decide +kernel
theorem t_X12_sheet_49 : decode prog_14_method_33_code 49 = .ok (.iload_n 1, 1) := by decide +kernel
theorem t_X12_sheet_50 : decode prog_14_method_33_code 50 = .ok (.ifCond .ne 9, 3) := by decide +kernel
theorem t_X12_sheet_53 : decode prog_14_method_33_code 53 = .ok (.iload 5, 2) := by decide +kernel
theorem t_X12_sheet_55 : decode prog_14_method_33_code 55 = .ok (.i2b, 1) := by decide +kernel
theorem t_X12_sheet_56 : decode prog_14_method_33_code 56 = .ok (.goto 16, 3) := by decide +kernel
theorem t_X12_sheet_59 : decode prog_14_method_33_code 59 = .ok (.iload_n 1, 1) := by decide +kernel
theorem t_X12_sheet_60 : decode prog_14_method_33_code 60 = .ok (.iconst 1, 1) := by decide +kernel
theorem t_X12_sheet_61 : decode prog_14_method_33_code 61 = .ok (.if_icmp .ne 9, 3) := by decide +kernel
theorem t_X12_sheet_64 : decode prog_14_method_33_code 64 = .ok (.iload 5, 2) := by decide +kernel
theorem t_X12_sheet_66 : decode prog_14_method_33_code 66 = .ok (.i2s, 1) := by decide +kernel
theorem t_X12_sheet_67 : decode prog_14_method_33_code 67 = .ok (.goto 5, 3) := by decide +kernel
theorem t_X12_sheet_70 : decode prog_14_method_33_code 70 = .ok (.iload 5, 2) := by decide +kernel
theorem t_X12_sheet_72 : decode prog_14_method_33_code 72 = .ok (.istore 7, 2) := by decide +kernel
theorem t_X12_sheet_74 : decode prog_14_method_33_code 74 = .ok (.aload_n 0, 1) := by decide +kernel
theorem t_X12_sheet_75 : decode prog_14_method_33_code 75 = .ok (.getfield 9, 3) := by decide +kernel
theorem t_X12_sheet_78 : decode prog_14_method_33_code 78 = .ok (.iload 6, 2) := by decide +kernel
theorem t_X12_sheet_80 : decode prog_14_method_33_code 80 = .ok (.iload_n 1, 1) := by decide +kernel
theorem t_X12_sheet_81 : decode prog_14_method_33_code 81 = .ok (.iconst 3, 1) := by decide +kernel
theorem t_X12_sheet_82 : decode prog_14_method_33_code 82 = .ok (.if_icmp .eq 9, 3) := by decide +kernel
theorem t_X12_sheet_85 : decode prog_14_method_33_code 85 = .ok (.iload 6, 2) := by decide +kernel
theorem t_X12_sheet_87 : decode prog_14_method_33_code 87 = .ok (.iload_n 2, 1) := by decide +kernel
theorem t_X12_sheet_88 : decode prog_14_method_33_code 88 = .ok (.if_icmp .lt 7, 3) := by decide +kernel
theorem t_X12_sheet_91 : decode prog_14_method_33_code 91 = .ok (.iconst 0, 1) := by decide +kernel
theorem t_X12_sheet_92 : decode prog_14_method_33_code 92 = .ok (.goto 14, 3) := by decide +kernel
theorem t_X12_sheet_95 : decode prog_14_method_33_code 95 = .ok (.iconst 0, 1) := by decide +kernel
theorem t_X12_sheet_96 : decode prog_14_method_33_code 96 = .ok (.bipush 9, 2) := by decide +kernel
theorem t_X12_sheet_98 : decode prog_14_method_33_code 98 = .ok (.iload 7, 2) := by decide +kernel
theorem t_X12_sheet_100 : decode prog_14_method_33_code 100 = .ok (.invokestatic 220, 3) := by decide +kernel
theorem t_X12_sheet_103 : decode prog_14_method_33_code 103 = .ok (.invokestatic 226, 3) := by decide +kernel
theorem t_X12_sheet_106 : decode prog_14_method_33_code 106 = .ok (.iastore, 1) := by decide +kernel
theorem t_X12_sheet_107 : decode prog_14_method_33_code 107 = .ok (.iload 5, 2) := by decide +kernel
theorem t_X12_sheet_109 : decode prog_14_method_33_code 109 = .ok (.iload 4, 2) := by decide +kernel
theorem t_X12_sheet_111 : decode prog_14_method_33_code 111 = .ok (.iadd, 1) := by decide +kernel
theorem t_X12_sheet_112 : decode prog_14_method_33_code 112 = .ok (.istore 5, 2) := by decide +kernel
theorem t_X12_sheet_114 : decode prog_14_method_33_code 114 = .ok (.iinc 6 1, 3) := by decide +kernel
theorem t_X12_sheet_117 : decode prog_14_method_33_code 117 = .ok (.goto (-77), 3) := by decide +kernel
theorem t_X12_sheet_120 : decode prog_14_method_33_code 120 = .ok (.iload_n 1, 1) := by decide +kernel
theorem t_X12_sheet_121 : decode prog_14_method_33_code 121 = .ok (.iconst 3, 1) := by decide +kernel
theorem t_X12_sheet_122 : decode prog_14_method_33_code 122 = .ok (.if_icmp .ne 8, 3) := by decide +kernel
theorem t_X12_sheet_125 : decode prog_14_method_33_code 125 = .ok (.bipush (-3), 2) := by decide +kernel
theorem t_X12_sheet_127 : decode prog_14_method_33_code 127 = .ok (.goto 16, 3) := by decide +kernel
theorem t_X12_sheet_130 : decode prog_14_method_33_code 130 = .ok (.aload_n 0, 1) := by decide +kernel
theorem t_X12_sheet_131 : decode prog_14_method_33_code 131 = .ok (.aload_n 0, 1) := by decide +kernel
theorem t_X12_sheet_132 : decode prog_14_method_33_code 132 = .ok (.getfield 9, 3) := by decide +kernel
theorem t_X12_sheet_135 : decode prog_14_method_33_code 135 = .ok (.iconst 0, 1) := by decide +kernel
theorem t_X12_sheet_136 : decode prog_14_method_33_code 136 = .ok (.aload_n 0, 1) := by decide +kernel
theorem t_X12_sheet_137 : decode prog_14_method_33_code 137 = .ok (.invokevirtual 214, 3) := by decide +kernel
theorem t_X12_sheet_140 : decode prog_14_method_33_code 140 = .ok (.invokevirtual 229, 3) := by decide +kernel
theorem t_X12_sheet_143 : decode prog_14_method_33_code 143 = .ok (.ireturn, 1) := by decide +kernel
theorem fl_12_9 : FLk "SowingBoardsModel" 9 12 0 := ⟨_, rfl, by decide, Or.inl (vtb_at 1338 (by decide +kernel) rfl)⟩
theorem fl_12_13 : FLk "SowingBoardsModel" 13 12 1 := ⟨_, rfl, by decide, Or.inl (vtb_at 1339 (by decide +kernel) rfl)⟩
theorem fl_12_17 : FLk "SowingBoardsModel" 17 12 2 := ⟨_, rfl, by decide, Or.inl (vtb_at 1340 (by decide +kernel) rfl)⟩
theorem fl_12_20 : FLk "SowingBoardsModel" 20 12 3 := ⟨_, rfl, by decide, Or.inl (vtb_at 1341 (by decide +kernel) rfl)⟩
theorem fl_12_24 : FLk "SowingBoardsModel" 24 12 5 := ⟨_, rfl, by decide, Or.inl (vtb_at 1343 (by decide +kernel) rfl)⟩
theorem fl_12_28 : FLk "SowingBoardsModel" 28 12 13 := ⟨_, rfl, by decide, Or.inl (vtb_at 1351 (by decide +kernel) rfl)⟩
theorem fl_12_31 : FLk "SowingBoardsModel" 31 12 14 := ⟨_, rfl, by decide, Or.inl (vtb_at 1352 (by decide +kernel) rfl)⟩
theorem fl_12_37 : FLk "SowingBoardsModel" 37 12 18 := ⟨_, rfl, by decide, Or.inl (vtb_at 1356 (by decide +kernel) rfl)⟩
theorem fl_12_109 : FLk "SowingBoardsModel" 109 12 7 := ⟨_, rfl, by decide, Or.inl (vtb_at 1345 (by decide +kernel) rfl)⟩
theorem fl_12_112 : FLk "SowingBoardsModel" 112 12 6 := ⟨_, rfl, by decide, Or.inl (vtb_at 1344 (by decide +kernel) rfl)⟩
theorem fl_12_115 : FLk "SowingBoardsModel" 115 12 4 := ⟨_, rfl, by decide, Or.inl (vtb_at 1342 (by decide +kernel) rfl)⟩
theorem fl_12_122 : FLk "SowingBoardsModel" 122 12 8 := ⟨_, rfl, by decide, Or.inl (vtb_at 1346 (by decide +kernel) rfl)⟩
theorem fl_12_125 : FLk "SowingBoardsModel" 125 12 9 := ⟨_, rfl, by decide, Or.inl (vtb_at 1347 (by decide +kernel) rfl)⟩
theorem fl_12_128 : FLk "SowingBoardsModel" 128 12 10 := ⟨_, rfl, by decide, Or.inl (vtb_at 1348 (by decide +kernel) rfl)⟩
theorem fl_12_131 : FLk "SowingBoardsModel" 131 12 11 := ⟨_, rfl, by decide, Or.inl (vtb_at 1349 (by decide +kernel) rfl)⟩
theorem fl_12_134 : FLk "SowingBoardsModel" 134 12 12 := ⟨_, rfl, by decide, Or.inl (vtb_at 1350 (by decide +kernel) rfl)⟩
theorem fl_12_167 : FLk "SowingBoardsModel" 167 12 23 := ⟨_, rfl, by decide, Or.inl (vtb_at 1361 (by decide +kernel) rfl)⟩
theorem fl_12_170 : FLk "SowingBoardsModel" 170 12 51 := ⟨_, rfl, by decide, Or.inl (vtb_at 1389 (by decide +kernel) rfl)⟩
theorem fl_12_204 : FLk "SowingBoardsModel" 204 12 17 := ⟨_, rfl, by decide, Or.inl (vtb_at 1355 (by decide +kernel) rfl)⟩
theorem fl_12_211 : FLk "SowingBoardsModel" 211 12 16 := ⟨_, rfl, by decide, Or.inl (vtb_at 1354 (by decide +kernel) rfl)⟩
theorem fp_12_1 : FPk 12 1 "I" := ⟨_, rfl, rfl, rfl⟩
theorem fp_12_2 : FPk 12 2 "I" := ⟨_, rfl, rfl, rfl⟩
theorem fp_12_4 : FPk 12 4 "I" := ⟨_, rfl, rfl, rfl⟩
theorem fp_12_6 : FPk 12 6 "I" := ⟨_, rfl, rfl, rfl⟩
theorem fp_12_7 : FPk 12 7 "I" := ⟨_, rfl, rfl, rfl⟩
theorem fp_12_9 : FPk 12 9 "I" := ⟨_, rfl, rfl, rfl⟩
theorem fp_12_10 : FPk 12 10 "I" := ⟨_, rfl, rfl, rfl⟩
theorem fp_12_11 : FPk 12 11 "I" := ⟨_, rfl, rfl, rfl⟩
theorem fp_12_12 : FPk 12 12 "I" := ⟨_, rfl, rfl, rfl⟩
theorem fp_12_16 : FPk 12 16 "I" := ⟨_, rfl, rfl, rfl⟩
theorem fp_12_17 : FPk 12 17 "Z" := ⟨_, rfl, rfl, rfl⟩
theorem fp_12_23 : FPk 12 23 "I" := ⟨_, rfl, rfl, rfl⟩
theorem fp_12_51 : FPk 12 51 "I" := ⟨_, rfl, rfl, rfl⟩
theorem my_X12_in : MY y_X12_in prog_14_method_3_code 3 (some .boolean) 3 := ⟨vtb_at 1518 (by decide +kernel) rfl, vtb_at 152 (by decide +kernel) rfl, ⟨by decide, by decide, by decide +kernel⟩, by decide⟩
theorem ms_X12_in : Cond.static y_X12_in ∈ vtb := vtb_at 1517 (by decide +kernel) rfl
theorem my_X12_begin : MY y_X12_begin prog_14_method_10_code 4 none 3 := ⟨vtb_at 1530 (by decide +kernel) rfl, vtb_at 152 (by decide +kernel) rfl, ⟨by decide, by decide, by decide +kernel⟩, by decide⟩
theorem mi_X12_begin : MI y_X12_begin := ⟨vtb_at 1529 (by decide +kernel) rfl, vtb_at 90 (by decide +kernel) rfl⟩
theorem my_X12_fine : MY y_X12_fine prog_14_method_13_code 1 (some .boolean) 0 := ⟨vtb_at 1538 (by decide +kernel) rfl, vtb_at 152 (by decide +kernel) rfl, ⟨by decide, by decide, by decide +kernel⟩, by decide⟩
theorem mi_X12_fine : MI y_X12_fine := ⟨vtb_at 1537 (by decide +kernel) rfl, vtb_at 92 (by decide +kernel) rfl⟩
theorem my_X12_here : MY y_X12_here prog_14_method_12_code 1 (some .int) 0 := ⟨vtb_at 1542 (by decide +kernel) rfl, vtb_at 152 (by decide +kernel) rfl, ⟨by decide, by decide, by decide +kernel⟩, by decide⟩
theorem mi_X12_here : MI y_X12_here := ⟨vtb_at 1541 (by decide +kernel) rfl, vtb_at 93 (by decide +kernel) rfl⟩
theorem my_X12_passes : MY y_X12_passes prog_14_method_15_code 2 (some .boolean) 1 := ⟨vtb_at 1586 (by decide +kernel) rfl, vtb_at 152 (by decide +kernel) rfl, ⟨by decide, by decide, by decide +kernel⟩, by decide⟩
theorem mi_X12_passes : MI y_X12_passes := ⟨vtb_at 1585 (by decide +kernel) rfl, vtb_at 101 (by decide +kernel) rfl⟩
theorem my_X12_fault : MY y_X12_fault prog_14_method_14_code 2 none 1 := ⟨vtb_at 1546 (by decide +kernel) rfl, vtb_at 152 (by decide +kernel) rfl, ⟨by decide, by decide, by decide +kernel⟩, by decide⟩
theorem mi_X12_fault : MI y_X12_fault := ⟨vtb_at 1545 (by decide +kernel) rfl, vtb_at 94 (by decide +kernel) rfl⟩
theorem my_X12_oneOf : MY y_X12_oneOf prog_14_method_17_code 3 (some .int) 2 := ⟨vtb_at 1534 (by decide +kernel) rfl, vtb_at 152 (by decide +kernel) rfl, ⟨by decide, by decide, by decide +kernel⟩, by decide⟩
theorem mi_X12_oneOf : MI y_X12_oneOf := ⟨vtb_at 1533 (by decide +kernel) rfl, vtb_at 91 (by decide +kernel) rfl⟩
theorem my_X12_beginText : MY y_X12_beginText prog_14_method_11_code 2 none 1 := ⟨vtb_at 1526 (by decide +kernel) rfl, vtb_at 152 (by decide +kernel) rfl, ⟨by decide, by decide, by decide +kernel⟩, by decide⟩
theorem mi_X12_beginText : MI y_X12_beginText := ⟨vtb_at 1525 (by decide +kernel) rfl, vtb_at 89 (by decide +kernel) rfl⟩
theorem my_X12_wasRight : MY y_X12_wasRight prog_14_method_19_code 1 (some .boolean) 0 := ⟨vtb_at 1550 (by decide +kernel) rfl, vtb_at 152 (by decide +kernel) rfl, ⟨by decide, by decide, by decide +kernel⟩, by decide⟩
theorem mi_X12_wasRight : MI y_X12_wasRight := ⟨vtb_at 1549 (by decide +kernel) rfl, vtb_at 95 (by decide +kernel) rfl⟩
theorem my_X12_lawOf : MY y_X12_lawOf prog_14_method_21_code 1 (some .int) 1 := ⟨vtb_at 1557 (by decide +kernel) rfl, vtb_at 152 (by decide +kernel) rfl, ⟨by decide, by decide, by decide +kernel⟩, by decide⟩
theorem ms_X12_lawOf : Cond.static y_X12_lawOf ∈ vtb := vtb_at 1556 (by decide +kernel) rfl
theorem my_X12_sum : MY y_X12_sum prog_14_method_24_code 5 (some .int) 1 := ⟨vtb_at 1574 (by decide +kernel) rfl, vtb_at 152 (by decide +kernel) rfl, ⟨by decide, by decide, by decide +kernel⟩, by decide⟩
theorem mi_X12_sum : MI y_X12_sum := ⟨vtb_at 1573 (by decide +kernel) rfl, vtb_at 98 (by decide +kernel) rfl⟩
theorem my_X12_product : MY y_X12_product prog_14_method_25_code 5 (some .int) 1 := ⟨vtb_at 1578 (by decide +kernel) rfl, vtb_at 152 (by decide +kernel) rfl, ⟨by decide, by decide, by decide +kernel⟩, by decide⟩
theorem mi_X12_product : MI y_X12_product := ⟨vtb_at 1577 (by decide +kernel) rfl, vtb_at 99 (by decide +kernel) rfl⟩
theorem my_X12_thing : MY y_X12_thing prog_14_method_27_code 4 (some .int) 1 := ⟨vtb_at 1582 (by decide +kernel) rfl, vtb_at 152 (by decide +kernel) rfl, ⟨by decide, by decide, by decide +kernel⟩, by decide⟩
theorem mi_X12_thing : MI y_X12_thing := ⟨vtb_at 1581 (by decide +kernel) rfl, vtb_at 100 (by decide +kernel) rfl⟩
theorem my_X12_letterOf : MY y_X12_letterOf prog_14_method_26_code 1 (some .int) 1 := ⟨vtb_at 1597 (by decide +kernel) rfl, vtb_at 152 (by decide +kernel) rfl, ⟨by decide, by decide, by decide +kernel⟩, by decide⟩
theorem ms_X12_letterOf : Cond.static y_X12_letterOf ∈ vtb := vtb_at 1596 (by decide +kernel) rfl
theorem my_X12_number : MY y_X12_number prog_14_method_18_code 4 (some .int) 1 := ⟨vtb_at 1594 (by decide +kernel) rfl, vtb_at 152 (by decide +kernel) rfl, ⟨by decide, by decide, by decide +kernel⟩, by decide⟩
theorem mi_X12_number : MI y_X12_number := ⟨vtb_at 1593 (by decide +kernel) rfl, vtb_at 103 (by decide +kernel) rfl⟩
theorem my_X12_held : MY y_X12_held prog_14_method_23_code 3 (some .int) 1 := ⟨vtb_at 1570 (by decide +kernel) rfl, vtb_at 152 (by decide +kernel) rfl, ⟨by decide, by decide, by decide +kernel⟩, by decide⟩
theorem mi_X12_held : MI y_X12_held := ⟨vtb_at 1569 (by decide +kernel) rfl, vtb_at 97 (by decide +kernel) rfl⟩
theorem my_X12_need : MY y_X12_need prog_14_method_16_code 2 none 1 := ⟨vtb_at 1590 (by decide +kernel) rfl, vtb_at 152 (by decide +kernel) rfl, ⟨by decide, by decide, by decide +kernel⟩, by decide⟩
theorem mi_X12_need : MI y_X12_need := ⟨vtb_at 1589 (by decide +kernel) rfl, vtb_at 102 (by decide +kernel) rfl⟩
theorem my_X12_readRule : MY y_X12_readRule prog_14_method_28_code 1 (some .boolean) 0 := ⟨vtb_at 1566 (by decide +kernel) rfl, vtb_at 152 (by decide +kernel) rfl, ⟨by decide, by decide, by decide +kernel⟩, by decide⟩
theorem mi_X12_readRule : MI y_X12_readRule := ⟨vtb_at 1565 (by decide +kernel) rfl, vtb_at 96 (by decide +kernel) rfl⟩
theorem my_X12_pits : MY y_X12_pits prog_14_method_7_code 1 (some .int) 0 := ⟨vtb_at 1605 (by decide +kernel) rfl, vtb_at 152 (by decide +kernel) rfl, ⟨by decide, by decide, by decide +kernel⟩, by decide⟩
theorem mi_X12_pits : MI y_X12_pits := ⟨vtb_at 1604 (by decide +kernel) rfl, vtb_at 104 (by decide +kernel) rfl⟩
theorem my_X12_lost : MY y_X12_lost prog_14_method_5_code 1 (some .int) 0 := ⟨vtb_at 1609 (by decide +kernel) rfl, vtb_at 152 (by decide +kernel) rfl, ⟨by decide, by decide, by decide +kernel⟩, by decide⟩
theorem mi_X12_lost : MI y_X12_lost := ⟨vtb_at 1608 (by decide +kernel) rfl, vtb_at 105 (by decide +kernel) rfl⟩
theorem my_X12_seeds : MY y_X12_seeds prog_14_method_32_code 6 (some .int) 3 := ⟨vtb_at 1623 (by decide +kernel) rfl, vtb_at 152 (by decide +kernel) rfl, ⟨by decide, by decide, by decide +kernel⟩, by decide⟩
theorem mi_X12_seeds : MI y_X12_seeds := ⟨vtb_at 1622 (by decide +kernel) rfl, vtb_at 106 (by decide +kernel) rfl⟩
theorem ml_12_118 : ML "SowingBoardsModel" 118 y_X12_in := Or.inl (vtb_at 1516 (by decide +kernel) rfl)
theorem ml_12_137 : ML "SowingBoardsModel" 137 y_X12_begin := Or.inl (vtb_at 1527 (by decide +kernel) rfl)
theorem ml_12_141 : ML "SowingBoardsModel" 141 y_X12_fine := Or.inl (vtb_at 1535 (by decide +kernel) rfl)
theorem ml_12_145 : ML "SowingBoardsModel" 145 y_X12_here := Or.inl (vtb_at 1539 (by decide +kernel) rfl)
theorem ml_12_149 : ML "SowingBoardsModel" 149 y_X12_passes := Or.inl (vtb_at 1583 (by decide +kernel) rfl)
theorem ml_12_153 : ML "SowingBoardsModel" 153 y_X12_fault := Or.inl (vtb_at 1543 (by decide +kernel) rfl)
theorem ml_12_157 : ML "SowingBoardsModel" 157 y_X12_oneOf := Or.inl (vtb_at 1531 (by decide +kernel) rfl)
theorem ml_12_161 : ML "SowingBoardsModel" 161 y_X12_beginText := Or.inl (vtb_at 1523 (by decide +kernel) rfl)
theorem ml_12_164 : ML "SowingBoardsModel" 164 y_X12_wasRight := Or.inl (vtb_at 1547 (by decide +kernel) rfl)
theorem ml_12_173 : ML "SowingBoardsModel" 173 y_X12_lawOf := Or.inl (vtb_at 1555 (by decide +kernel) rfl)
theorem ml_12_177 : ML "SowingBoardsModel" 177 y_J6_bitCount_0f7a4 := Or.inl (vtb_at 1558 (by decide +kernel) rfl)
theorem ml_12_182 : ML "SowingBoardsModel" 182 y_X12_sum := Or.inl (vtb_at 1571 (by decide +kernel) rfl)
theorem ml_12_185 : ML "SowingBoardsModel" 185 y_X12_product := Or.inl (vtb_at 1575 (by decide +kernel) rfl)
theorem ml_12_188 : ML "SowingBoardsModel" 188 y_X12_thing := Or.inl (vtb_at 1579 (by decide +kernel) rfl)
theorem ml_12_191 : ML "SowingBoardsModel" 191 y_X12_held := Or.inl (vtb_at 1567 (by decide +kernel) rfl)
theorem ml_12_194 : ML "SowingBoardsModel" 194 y_X12_need := Or.inl (vtb_at 1587 (by decide +kernel) rfl)
theorem ml_12_198 : ML "SowingBoardsModel" 198 y_X12_number := Or.inl (vtb_at 1591 (by decide +kernel) rfl)
theorem ml_12_201 : ML "SowingBoardsModel" 201 y_X12_letterOf := Or.inl (vtb_at 1595 (by decide +kernel) rfl)
theorem ml_12_208 : ML "SowingBoardsModel" 208 y_X12_readRule := Or.inl (vtb_at 1563 (by decide +kernel) rfl)
theorem ml_12_214 : ML "SowingBoardsModel" 214 y_X12_pits := Or.inl (vtb_at 1602 (by decide +kernel) rfl)
theorem ml_12_217 : ML "SowingBoardsModel" 217 y_X12_lost := Or.inl (vtb_at 1606 (by decide +kernel) rfl)
theorem ml_12_229 : ML "SowingBoardsModel" 229 y_X12_seeds := Or.inl (vtb_at 1620 (by decide +kernel) rfl)
def D_X12_thrown  : Wd → Option (Int32 × Wd) := fun w =>
  some (w.1 119 7, w)
set_option maxRecDepth 20000 in
theorem S_X12_thrown {l0 : Launch} {ρ : Nat → Nat} {cs : Nat → ClassId} {G : va_G} (hρ : injN ρ)  {w : Wd} {rr : (Int32 × Wd)} (hD : D_X12_thrown w = some rr) : CtI l0 ρ cs G y_X12_thrown prog_14_method_2_code 1 .int 0 [.ref (ρ 119)] w rr.1 rr.2 := by
  refine ctI_of hρ (by decide) (Nat.le_of_ble_eq_true rfl) (fun X hn h hR => ?_)
  unfold D_X12_thrown at hD
  show gG ρ cs G X 0 [(0, .ref (ρ 119))] [] w
  refine g_aload_n h 0 t_X12_thrown_0 rfl ?_
  refine g_getI h 119 7 fl_12_109 rfl (by decide) rfl t_X12_thrown_1 ?_
  obtain rfl := Option.some.inj hD
  exact hR _ _ t_X12_thrown_4 rfl
def D_X12_in (p0 : Int32) (p1 : Int32) (p2 : Int32) : Wd → Option (Int32 × Wd) := fun w =>
  if p0 < p1 then (some (0, w)) else (if p2 < p0 then (some (0, w)) else (some (1, w)))
set_option maxRecDepth 20000 in
theorem S_X12_in {l0 : Launch} {ρ : Nat → Nat} {cs : Nat → ClassId} {G : va_G} (hρ : injN ρ) {p0 : Int32} {p1 : Int32} {p2 : Int32} {w : Wd} {rr : (Int32 × Wd)} (hD : D_X12_in p0 p1 p2 w = some rr) : CtI l0 ρ cs G y_X12_in prog_14_method_3_code 3 .boolean 0 [.int p0, .int p1, .int p2] w rr.1 rr.2 := by
  refine ctI_of hρ (by decide) (Nat.le_of_ble_eq_true rfl) (fun X hn h hR => ?_)
  unfold D_X12_in at hD
  show gG ρ cs G X 0 [(0, .int p0), (1, .int p1), (2, .int p2)] [] w
  refine g_iload_n h 0 t_X12_in_0 rfl ?_
  refine g_iload_n h 1 t_X12_in_1 rfl ?_
  refine g_icmp_lt (tgt := 14) h t_X12_in_2 (by decide) hD (fun hD => ?_) (fun hD => ?_)
  · refine g_iconst (v := 0) h t_X12_in_14 (by decide) ?_
    obtain rfl := Option.some.inj hD
    exact hR _ _ t_X12_in_15 (b01_n rfl)
  · refine g_iload_n h 0 t_X12_in_5 rfl ?_
    refine g_iload_n h 2 t_X12_in_6 rfl ?_
    refine g_icmp_gt (tgt := 14) h t_X12_in_7 (by decide) hD (fun hD => ?_) (fun hD => ?_)
    · refine g_iconst (v := 0) h t_X12_in_14 (by decide) ?_
      obtain rfl := Option.some.inj hD
      exact hR _ _ t_X12_in_15 (b01_n rfl)
    · refine g_iconst (v := 1) h t_X12_in_10 (by decide) ?_
      refine g_goto (tgt := 15) h t_X12_in_11 (by decide) ?_
      obtain rfl := Option.some.inj hD
      exact hR _ _ t_X12_in_15 (b01_n rfl)
def D_X12_has (p0 : Int32) (p1 : Int32) : Wd → Option (Int32 × Wd) := fun w =>
  if ((p0 >>> (p1 &&& 31)) &&& 1) = 1 then (some (1, w)) else (some (0, w))
set_option maxRecDepth 20000 in
theorem S_X12_has {l0 : Launch} {ρ : Nat → Nat} {cs : Nat → ClassId} {G : va_G} (hρ : injN ρ) {p0 : Int32} {p1 : Int32} {w : Wd} {rr : (Int32 × Wd)} (hD : D_X12_has p0 p1 w = some rr) : CtI l0 ρ cs G y_X12_has prog_14_method_4_code 2 .boolean 0 [.int p0, .int p1] w rr.1 rr.2 := by
  refine ctI_of hρ (by decide) (Nat.le_of_ble_eq_true rfl) (fun X hn h hR => ?_)
  unfold D_X12_has at hD
  show gG ρ cs G X 0 [(0, .int p0), (1, .int p1)] [] w
  refine g_iload_n h 0 t_X12_has_0 rfl ?_
  refine g_iload_n h 1 t_X12_has_1 rfl ?_
  refine g_ishr h t_X12_has_2 ?_
  refine g_iconst (v := 1) h t_X12_has_3 (by decide) ?_
  refine g_iand h t_X12_has_4 ?_
  refine g_iconst (v := 1) h t_X12_has_5 (by decide) ?_
  refine g_icmp_ne (tgt := 13) h t_X12_has_6 (by decide) hD (fun hD => ?_) (fun hD => ?_)
  · refine g_iconst (v := 0) h t_X12_has_13 (by decide) ?_
    obtain rfl := Option.some.inj hD
    exact hR _ _ t_X12_has_14 (b01_n rfl)
  · refine g_iconst (v := 1) h t_X12_has_9 (by decide) ?_
    refine g_goto (tgt := 14) h t_X12_has_10 (by decide) ?_
    obtain rfl := Option.some.inj hD
    exact hR _ _ t_X12_has_14 (b01_n rfl)
def D_X12_lost  : Wd → Option (Int32 × Wd) := fun w =>
  bd (wI w 119 7 1) fun w1 => some (0, w1)
set_option maxRecDepth 20000 in
theorem S_X12_lost {l0 : Launch} {ρ : Nat → Nat} {cs : Nat → ClassId} {G : va_G} (hρ : injN ρ)  {w : Wd} {rr : (Int32 × Wd)} (hD : D_X12_lost w = some rr) : CtI l0 ρ cs G y_X12_lost prog_14_method_5_code 1 .int 0 [.ref (ρ 119)] w rr.1 rr.2 := by
  refine ctI_of hρ (by decide) (Nat.le_of_ble_eq_true rfl) (fun X hn h hR => ?_)
  unfold D_X12_lost at hD
  show gG ρ cs G X 0 [(0, .ref (ρ 119))] [] w
  refine g_aload_n h 0 t_X12_lost_0 rfl ?_
  refine g_iconst (v := 1) h t_X12_lost_1 (by decide) ?_
  refine g_putI h 119 7 fl_12_109 fp_12_7 rfl (by decide) rfl t_X12_lost_2 hD (fun w1 hD => ?_)
  refine g_iconst (v := 0) h t_X12_lost_5 (by decide) ?_
  obtain rfl := Option.some.inj hD
  exact hR _ _ t_X12_lost_6 rfl
def D_X12_tell (p1 : Int64) : Wd → Option Wd := fun w =>
  if ib (w.1 119 6) 24 then bd (wJ w 122 (w.1 119 6).toNatClampNeg p1) (fun w1 => bd (wI w1 119 6 ((w1.1 119 6) + 1)) fun w2 => some w2) else none
set_option maxRecDepth 20000 in
theorem S_X12_tell {l0 : Launch} {ρ : Nat → Nat} {cs : Nat → ClassId} {G : va_G} (hρ : injN ρ) {p1 : Int64} {w : Wd} {rr : Wd} (hD : D_X12_tell p1 w = some rr) : CtV l0 ρ cs G y_X12_tell prog_14_method_6_code 3 0 [.ref (ρ 119), .long p1] w rr := by
  refine ctV_of hρ (by decide) (Nat.le_of_ble_eq_true rfl) (fun X hn h hR => ?_)
  unfold D_X12_tell at hD
  show gG ρ cs G X 0 [(0, .ref (ρ 119)), (1, .long p1)] [] w
  refine g_aload_n h 0 t_X12_tell_0 rfl ?_
  refine g_getR h 119 5 122 fl_12_24 rfl (by decide) rfl t_X12_tell_1 ?_
  refine g_aload_n h 0 t_X12_tell_4 rfl ?_
  refine g_getI h 119 6 fl_12_112 rfl (by decide) rfl t_X12_tell_5 ?_
  refine g_lload_n h 1 t_X12_tell_8 rfl ?_
  refine g_last h 122 rfl (by decide) t_X12_tell_9 hD (fun w1 hD => ?_)
  refine g_aload_n h 0 t_X12_tell_10 rfl ?_
  refine g_dup h t_X12_tell_11 rfl ?_
  refine g_getI h 119 6 fl_12_112 rfl (by decide) rfl t_X12_tell_12 ?_
  refine g_iconst (v := 1) h t_X12_tell_15 (by decide) ?_
  refine g_iadd h t_X12_tell_16 ?_
  refine g_putI h 119 6 fl_12_112 fp_12_6 rfl (by decide) rfl t_X12_tell_17 hD (fun w2 hD => ?_)
  obtain rfl := Option.some.inj hD
  exact hR _ _ t_X12_tell_20
def D_X12_pits  : Wd → Option (Int32 × Wd) := fun w =>
  some (2 * (w.1 119 1), w)
set_option maxRecDepth 20000 in
theorem S_X12_pits {l0 : Launch} {ρ : Nat → Nat} {cs : Nat → ClassId} {G : va_G} (hρ : injN ρ)  {w : Wd} {rr : (Int32 × Wd)} (hD : D_X12_pits w = some rr) : CtI l0 ρ cs G y_X12_pits prog_14_method_7_code 1 .int 0 [.ref (ρ 119)] w rr.1 rr.2 := by
  refine ctI_of hρ (by decide) (Nat.le_of_ble_eq_true rfl) (fun X hn h hR => ?_)
  unfold D_X12_pits at hD
  show gG ρ cs G X 0 [(0, .ref (ρ 119))] [] w
  refine g_iconst (v := 2) h t_X12_pits_0 (by decide) ?_
  refine g_aload_n h 0 t_X12_pits_1 rfl ?_
  refine g_getI h 119 1 fl_12_13 rfl (by decide) rfl t_X12_pits_2 ?_
  refine g_imul h t_X12_pits_5 ?_
  obtain rfl := Option.some.inj hD
  exact hR _ _ t_X12_pits_6 rfl
def L_X12_sign_20 (x2 : Int32) (k3 : Wd → Option (Int32 × Wd)) : Nat → Int32 → Wd → Option (Int32 × Wd)
  | 0, _, _ => none
  | n4 + 1, x5, w6 =>
    if x5 < 0 then (k3 w6) else (bd (wI w6 119 4 ((w6.1 119 4) + 1)) fun w7 => if ib (w6.1 119 4) 80 then bd (wI w7 121 (w6.1 119 4).toNatClampNeg (vp_nar .byte ((x2 >>> ((8 * x5) &&& 31)).toInt8.toInt32))) (fun w8 => bd (x5 + (-1)) fun x9 => L_X12_sign_20 x2 k3 n4 x9 w8) else none)
def J_X12_sign_x53_1  : Wd → Option (Int32 × Wd) := fun w10 =>
  some (w10.1 119 4, w10)
def D_X12_sign (p1 : Int32) : Wd → Option (Int32 × Wd) := fun w =>
  bd (wI w 119 7 0) fun w1 => if ((w1.1 119 4) + 4) ≤ 80 then (L_X12_sign_20 p1 J_X12_sign_x53_1 FU 3 w1) else (some ((-1), w1))
set_option maxRecDepth 20000 in
theorem Q_X12_sign_20 {l0 : Launch} {ρ : Nat → Nat} {cs : Nat → ClassId} {G : va_G} {X : Cx} (hρ : injN ρ) (hn : X.2.2.2.2.2.2.2.2.2.2.1 = 3) (h : Okx l0 ρ cs G X prog_14_method_8_code "SowingBoardsModel" 0) {rr : (Int32 × Wd)} (hR : ∀ pc L, decode prog_14_method_8_code pc = .ok (.ireturn, 1) → narrow .int (.int rr.1) = .int rr.1 → gG ρ cs G X pc L [.int rr.1] rr.2) {x2 : Int32} {k3 : Wd → Option (Int32 × Wd)} (hk3 : ∀ (w1 : Wd), k3 w1 = some rr → gG ρ cs G X 53 [(0, .ref (ρ 119))] [] w1) : ∀ (n : Nat) (x5 : Int32) (w : Wd), L_X12_sign_20 x2 k3 n x5 w = some rr → gG ρ cs G X 20 [(0, .ref (ρ 119)), (1, .int x2), (2, .int x5)] [] w := by
  intro n
  induction n with
  | zero =>
    intro x5 w hD
    cases hD
  | succ n4 ih =>
    intro x5 w6 hD
    unfold L_X12_sign_20 at hD
    refine g_iload_n h 2 t_X12_sign_20 rfl ?_
    refine g_if_lt (tgt := 53) h t_X12_sign_21 (by decide) hD (fun hD => ?_) (fun hD => ?_)
    · refine g_loc (L' := [(0, .ref (ρ 119))]) h [0] rfl ?_
      exact hk3 _ hD
    · refine g_aload_n h 0 t_X12_sign_24 rfl ?_
      refine g_getR h 119 3 121 fl_12_20 rfl (by decide) rfl t_X12_sign_25 ?_
      refine g_aload_n h 0 t_X12_sign_28 rfl ?_
      refine g_dup h t_X12_sign_29 rfl ?_
      refine g_getI h 119 4 fl_12_115 rfl (by decide) rfl t_X12_sign_30 ?_
      refine g_dup_x1 h t_X12_sign_33 rfl rfl ?_
      refine g_iconst (v := 1) h t_X12_sign_34 (by decide) ?_
      refine g_iadd h t_X12_sign_35 ?_
      refine g_putI h 119 4 fl_12_115 fp_12_4 rfl (by decide) rfl t_X12_sign_36 hD (fun w7 hD => ?_)
      refine g_iload_n h 1 t_X12_sign_39 rfl ?_
      refine g_bipush (v := 8) h t_X12_sign_40 (by decide) ?_
      refine g_iload_n h 2 t_X12_sign_42 rfl ?_
      refine g_imul h t_X12_sign_43 ?_
      refine g_ishr h t_X12_sign_44 ?_
      refine g_i2b h t_X12_sign_45 ?_
      refine g_bast h 121 rfl (by decide) t_X12_sign_46 hD (fun w8 hD => ?_)
      obtain ⟨x9, ex9, hD⟩ := bd_ex hD
      refine g_iinc (v := x9) (L' := [(2, .int x9), (0, .ref (ρ 119)), (1, .int x2)]) h hn t_X12_sign_47 (k := 2) rfl (by rw [ex9]; rfl) (by decide) rfl ?_
      refine g_goto (tgt := 20) h t_X12_sign_50 (by decide) ?_
      refine g_loc (L' := [(0, .ref (ρ 119)), (1, .int x2), (2, .int x9)]) h [1, 2, 0] rfl ?_
      exact ih x9 _ hD
set_option maxRecDepth 20000 in
theorem S_X12_sign {l0 : Launch} {ρ : Nat → Nat} {cs : Nat → ClassId} {G : va_G} (hρ : injN ρ) {p1 : Int32} {w : Wd} {rr : (Int32 × Wd)} (hD : D_X12_sign p1 w = some rr) : CtI l0 ρ cs G y_X12_sign prog_14_method_8_code 3 .int 0 [.ref (ρ 119), .int p1] w rr.1 rr.2 := by
  refine ctI_of hρ (by decide) (Nat.le_of_ble_eq_true rfl) (fun X hn h hR => ?_)
  unfold D_X12_sign at hD
  show gG ρ cs G X 0 [(0, .ref (ρ 119)), (1, .int p1)] [] w
  refine g_aload_n h 0 t_X12_sign_0 rfl ?_
  refine g_iconst (v := 0) h t_X12_sign_1 (by decide) ?_
  refine g_putI h 119 7 fl_12_109 fp_12_7 rfl (by decide) rfl t_X12_sign_2 hD (fun w1 hD => ?_)
  refine g_aload_n h 0 t_X12_sign_5 rfl ?_
  refine g_getI h 119 4 fl_12_115 rfl (by decide) rfl t_X12_sign_6 ?_
  refine g_iconst (v := 4) h t_X12_sign_9 (by decide) ?_
  refine g_iadd h t_X12_sign_10 ?_
  refine g_bipush (v := 80) h t_X12_sign_11 (by decide) ?_
  refine g_icmp_le (tgt := 18) h t_X12_sign_13 (by decide) hD (fun hD => ?_) (fun hD => ?_)
  · refine g_iconst (v := 3) h t_X12_sign_18 (by decide) ?_
    refine g_istore_n (L' := [(2, .int 3), (0, .ref (ρ 119)), (1, .int p1)]) h hn t_X12_sign_19 rfl (by decide) rfl ?_
    refine g_loc (L' := [(0, .ref (ρ 119)), (1, .int p1), (2, .int 3)]) h [1, 2, 0] rfl ?_
    refine Q_X12_sign_20 hρ hn h hR  ?_ _ _ _ hD
    · intro w10 hD
      unfold J_X12_sign_x53_1 at hD
      refine g_aload_n h 0 t_X12_sign_53 rfl ?_
      refine g_getI h 119 4 fl_12_115 rfl (by decide) rfl t_X12_sign_54 ?_
      obtain rfl := Option.some.inj hD
      exact hR _ _ t_X12_sign_57 rfl
  · refine g_iconst (v := (-1)) h t_X12_sign_16 (by decide) ?_
    obtain rfl := Option.some.inj hD
    exact hR _ _ t_X12_sign_17 rfl
def D_X12_end (p1 : Int32) : Wd → Option (Int32 × Wd) := fun w =>
  bd (wI w 119 7 0) fun w1 => bc (D_X12_in p1 0 (w1.1 119 4) w1) fun x3 w2 => if x3 = 0 then (some (0, w2)) else (bd (wI w2 119 4 p1) fun w4 => some (1, w4))
set_option maxRecDepth 20000 in
theorem S_X12_end {l0 : Launch} {ρ : Nat → Nat} {cs : Nat → ClassId} {G : va_G} (hρ : injN ρ) {p1 : Int32} {w : Wd} {rr : (Int32 × Wd)} (hD : D_X12_end p1 w = some rr) : CtI l0 ρ cs G y_X12_end prog_14_method_9_code 2 .boolean 1 [.ref (ρ 119), .int p1] w rr.1 rr.2 := by
  refine ctI_of hρ (by decide) (Nat.le_of_ble_eq_true rfl) (fun X hn h hR => ?_)
  unfold D_X12_end at hD
  show gG ρ cs G X 0 [(0, .ref (ρ 119)), (1, .int p1)] [] w
  refine g_aload_n h 0 t_X12_end_0 rfl ?_
  refine g_iconst (v := 0) h t_X12_end_1 (by decide) ?_
  refine g_putI h 119 7 fl_12_109 fp_12_7 rfl (by decide) rfl t_X12_end_2 hD (fun w1 hD => ?_)
  refine g_iload_n h 1 t_X12_end_5 rfl ?_
  refine g_iconst (v := 0) h t_X12_end_6 (by decide) ?_
  refine g_aload_n h 0 t_X12_end_7 rfl ?_
  refine g_getI h 119 4 fl_12_115 rfl (by decide) rfl t_X12_end_8 ?_
  refine g_callSI h (As := [.int p1, .int 0, .int (w1.1 119 4)]) (st := []) my_X12_in ms_X12_in ml_12_118 rfl rfl (Nat.le_of_ble_eq_true rfl) (by decide) t_X12_end_11 hD (fun _ _ e => S_X12_in hρ  e) (fun x3 w2 hD => ?_)
  refine g_if_ne (tgt := 19) h t_X12_end_14 (by decide) hD (fun hD => ?_) (fun hD => ?_)
  · refine g_aload_n h 0 t_X12_end_19 rfl ?_
    refine g_iload_n h 1 t_X12_end_20 rfl ?_
    refine g_putI h 119 4 fl_12_115 fp_12_4 rfl (by decide) rfl t_X12_end_21 hD (fun w4 hD => ?_)
    refine g_iconst (v := 1) h t_X12_end_24 (by decide) ?_
    obtain rfl := Option.some.inj hD
    exact hR _ _ t_X12_end_25 (b01_n rfl)
  · refine g_iconst (v := 0) h t_X12_end_17 (by decide) ?_
    obtain rfl := Option.some.inj hD
    exact hR _ _ t_X12_end_18 (b01_n rfl)
def D_X12_begin (o1 : Nat) (p2 : Int32) (p3 : Int32) : Wd → Option Wd := fun w =>
  bd (wZ w 0 o1) fun w1 => bd (wI w1 119 9 p2) fun w2 => bd (wI w2 119 10 p3) fun w3 => bd (wI w3 119 11 0) fun w4 => bd (wI w4 119 12 (-1)) fun w5 => some w5
set_option maxRecDepth 20000 in
theorem S_X12_begin {l0 : Launch} {ρ : Nat → Nat} {cs : Nat → ClassId} {G : va_G} (hρ : injN ρ) {o1 : Nat} (ho1 : bq o1 = true) {p2 : Int32} {p3 : Int32} {w : Wd} {rr : Wd} (hD : D_X12_begin o1 p2 p3 w = some rr) : CtV l0 ρ cs G y_X12_begin prog_14_method_10_code 4 0 [.ref (ρ 119), .ref (ρ o1), .int p2, .int p3] w rr := by
  refine ctV_of hρ (by decide) (Nat.le_of_ble_eq_true rfl) (fun X hn h hR => ?_)
  unfold D_X12_begin at hD
  show gG ρ cs G X 0 [(0, .ref (ρ 119)), (1, .ref (ρ o1)), (2, .int p2), (3, .int p3)] [] w
  refine g_aload_n h 0 t_X12_begin_0 rfl ?_
  refine g_aload_n h 1 t_X12_begin_1 rfl ?_
  refine g_putB h 0 o1 8 (by decide) ho1 rfl fl_12_122 ⟨_, rfl, rfl, rfl⟩ t_X12_begin_2 hD (fun w1 hD => ?_)
  refine g_aload_n h 0 t_X12_begin_5 rfl ?_
  refine g_iload_n h 2 t_X12_begin_6 rfl ?_
  refine g_putI h 119 9 fl_12_125 fp_12_9 rfl (by decide) rfl t_X12_begin_7 hD (fun w2 hD => ?_)
  refine g_aload_n h 0 t_X12_begin_10 rfl ?_
  refine g_iload_n h 3 t_X12_begin_11 rfl ?_
  refine g_putI h 119 10 fl_12_128 fp_12_10 rfl (by decide) rfl t_X12_begin_12 hD (fun w3 hD => ?_)
  refine g_aload_n h 0 t_X12_begin_15 rfl ?_
  refine g_iconst (v := 0) h t_X12_begin_16 (by decide) ?_
  refine g_putI h 119 11 fl_12_131 fp_12_11 rfl (by decide) rfl t_X12_begin_17 hD (fun w4 hD => ?_)
  refine g_aload_n h 0 t_X12_begin_20 rfl ?_
  refine g_iconst (v := (-1)) h t_X12_begin_21 (by decide) ?_
  refine g_putI h 119 12 fl_12_134 fp_12_12 rfl (by decide) rfl t_X12_begin_22 hD (fun w5 hD => ?_)
  obtain rfl := Option.some.inj hD
  exact hR _ _ t_X12_begin_25
def D_X12_beginText (p1 : Int32) : Wd → Option Wd := fun w =>
  bv (D_X12_begin 121 (w.1 119 4) p1 w) fun w1 => bd (wI w1 119 4 0) fun w2 => some w2
set_option maxRecDepth 20000 in
theorem S_X12_beginText {l0 : Launch} {ρ : Nat → Nat} {cs : Nat → ClassId} {G : va_G} (hρ : injN ρ) {p1 : Int32} {w : Wd} {rr : Wd} (hD : D_X12_beginText p1 w = some rr) : CtV l0 ρ cs G y_X12_beginText prog_14_method_11_code 2 1 [.ref (ρ 119), .int p1] w rr := by
  refine ctV_of hρ (by decide) (Nat.le_of_ble_eq_true rfl) (fun X hn h hR => ?_)
  unfold D_X12_beginText at hD
  show gG ρ cs G X 0 [(0, .ref (ρ 119)), (1, .int p1)] [] w
  refine g_aload_n h 0 t_X12_beginText_0 rfl ?_
  refine g_aload_n h 0 t_X12_beginText_1 rfl ?_
  refine g_getR h 119 3 121 fl_12_20 rfl (by decide) rfl t_X12_beginText_2 ?_
  refine g_aload_n h 0 t_X12_beginText_5 rfl ?_
  refine g_getI h 119 4 fl_12_115 rfl (by decide) rfl t_X12_beginText_6 ?_
  refine g_iload_n h 1 t_X12_beginText_9 rfl ?_
  refine g_callVV h 119 (As := [.ref (ρ 121), .int (w.1 119 4), .int p1]) (st := []) my_X12_begin mi_X12_begin ml_12_137 rfl (by decide) rfl rfl rfl (Nat.le_of_ble_eq_true rfl) (by decide) t_X12_beginText_10 hD (fun _ e => S_X12_begin hρ rfl e) (fun w1 hD => ?_)
  refine g_aload_n h 0 t_X12_beginText_13 rfl ?_
  refine g_iconst (v := 0) h t_X12_beginText_14 (by decide) ?_
  refine g_putI h 119 4 fl_12_115 fp_12_4 rfl (by decide) rfl t_X12_beginText_15 hD (fun w2 hD => ?_)
  obtain rfl := Option.some.inj hD
  exact hR _ _ t_X12_beginText_18
def D_X12_here  : Wd → Option (Int32 × Wd) := fun w =>
  if (w.1 119 9) ≤ (w.1 119 11) then (some ((-1), w)) else (if (w.1 119 10) ≤ (w.1 119 11) then (some ((-1), w)) else (if bq (w.2.2 0) then (if ib (w.1 119 11) (ln (w.2.2 0)) then (some ((w.1 (w.2.2 0) (w.1 119 11).toNatClampNeg) &&& 255, w)) else none) else none))
set_option maxRecDepth 20000 in
theorem S_X12_here {l0 : Launch} {ρ : Nat → Nat} {cs : Nat → ClassId} {G : va_G} (hρ : injN ρ)  {w : Wd} {rr : (Int32 × Wd)} (hD : D_X12_here w = some rr) : CtI l0 ρ cs G y_X12_here prog_14_method_12_code 1 .int 0 [.ref (ρ 119)] w rr.1 rr.2 := by
  refine ctI_of hρ (by decide) (Nat.le_of_ble_eq_true rfl) (fun X hn h hR => ?_)
  unfold D_X12_here at hD
  show gG ρ cs G X 0 [(0, .ref (ρ 119))] [] w
  refine g_aload_n h 0 t_X12_here_0 rfl ?_
  refine g_getI h 119 11 fl_12_131 rfl (by decide) rfl t_X12_here_1 ?_
  refine g_aload_n h 0 t_X12_here_4 rfl ?_
  refine g_getI h 119 9 fl_12_125 rfl (by decide) rfl t_X12_here_5 ?_
  refine g_icmp_ge (tgt := 38) h t_X12_here_8 (by decide) hD (fun hD => ?_) (fun hD => ?_)
  · refine g_iconst (v := (-1)) h t_X12_here_38 (by decide) ?_
    obtain rfl := Option.some.inj hD
    exact hR _ _ t_X12_here_39 rfl
  · refine g_aload_n h 0 t_X12_here_11 rfl ?_
    refine g_getI h 119 11 fl_12_131 rfl (by decide) rfl t_X12_here_12 ?_
    refine g_aload_n h 0 t_X12_here_15 rfl ?_
    refine g_getI h 119 10 fl_12_128 rfl (by decide) rfl t_X12_here_16 ?_
    refine g_icmp_ge (tgt := 38) h t_X12_here_19 (by decide) hD (fun hD => ?_) (fun hD => ?_)
    · refine g_iconst (v := (-1)) h t_X12_here_38 (by decide) ?_
      obtain rfl := Option.some.inj hD
      exact hR _ _ t_X12_here_39 rfl
    · refine g_aload_n h 0 t_X12_here_22 rfl ?_
      obtain ⟨hb1, hD⟩ := of_ite hD
      refine g_getZ h 119 8 0 (by decide) hb1 fl_12_122 rfl (by decide) rfl t_X12_here_23 ?_
      refine g_aload_n h 0 t_X12_here_26 rfl ?_
      refine g_getI h 119 11 fl_12_131 rfl (by decide) rfl t_X12_here_27 ?_
      refine g_bald h (w.2.2 0) (bq_sh hb1) (bq_lt hb1) t_X12_here_30 hD (fun hD => ?_)
      refine g_sipush (v := 255) h t_X12_here_31 (by decide) ?_
      refine g_iand h t_X12_here_34 ?_
      refine g_goto (tgt := 39) h t_X12_here_35 (by decide) ?_
      obtain rfl := Option.some.inj hD
      exact hR _ _ t_X12_here_39 rfl
def D_X12_fine  : Wd → Option (Int32 × Wd) := fun w =>
  if (w.1 119 12) = (-1) then (some (1, w)) else (some (0, w))
set_option maxRecDepth 20000 in
theorem S_X12_fine {l0 : Launch} {ρ : Nat → Nat} {cs : Nat → ClassId} {G : va_G} (hρ : injN ρ)  {w : Wd} {rr : (Int32 × Wd)} (hD : D_X12_fine w = some rr) : CtI l0 ρ cs G y_X12_fine prog_14_method_13_code 1 .boolean 0 [.ref (ρ 119)] w rr.1 rr.2 := by
  refine ctI_of hρ (by decide) (Nat.le_of_ble_eq_true rfl) (fun X hn h hR => ?_)
  unfold D_X12_fine at hD
  show gG ρ cs G X 0 [(0, .ref (ρ 119))] [] w
  refine g_aload_n h 0 t_X12_fine_0 rfl ?_
  refine g_getI h 119 12 fl_12_134 rfl (by decide) rfl t_X12_fine_1 ?_
  refine g_iconst (v := (-1)) h t_X12_fine_4 (by decide) ?_
  refine g_icmp_ne (tgt := 12) h t_X12_fine_5 (by decide) hD (fun hD => ?_) (fun hD => ?_)
  · refine g_iconst (v := 0) h t_X12_fine_12 (by decide) ?_
    obtain rfl := Option.some.inj hD
    exact hR _ _ t_X12_fine_13 (b01_n rfl)
  · refine g_iconst (v := 1) h t_X12_fine_8 (by decide) ?_
    refine g_goto (tgt := 13) h t_X12_fine_9 (by decide) ?_
    obtain rfl := Option.some.inj hD
    exact hR _ _ t_X12_fine_13 (b01_n rfl)
def D_X12_fault (p1 : Int32) : Wd → Option Wd := fun w =>
  bc (D_X12_fine w) fun x2 w1 => if x2 = 0 then (some w1) else (bd (wI w1 119 12 p1) fun w3 => some w3)
set_option maxRecDepth 20000 in
theorem S_X12_fault {l0 : Launch} {ρ : Nat → Nat} {cs : Nat → ClassId} {G : va_G} (hρ : injN ρ) {p1 : Int32} {w : Wd} {rr : Wd} (hD : D_X12_fault p1 w = some rr) : CtV l0 ρ cs G y_X12_fault prog_14_method_14_code 2 1 [.ref (ρ 119), .int p1] w rr := by
  refine ctV_of hρ (by decide) (Nat.le_of_ble_eq_true rfl) (fun X hn h hR => ?_)
  unfold D_X12_fault at hD
  show gG ρ cs G X 0 [(0, .ref (ρ 119)), (1, .int p1)] [] w
  refine g_aload_n h 0 t_X12_fault_0 rfl ?_
  refine g_callVI h 119 (As := []) (st := []) my_X12_fine mi_X12_fine ml_12_141 rfl (by decide) rfl rfl rfl (Nat.le_of_ble_eq_true rfl) (by decide) t_X12_fault_1 hD (fun _ _ e => S_X12_fine hρ  e) (fun x2 w1 hD => ?_)
  refine g_if_eq (tgt := 12) h t_X12_fault_4 (by decide) hD (fun hD => ?_) (fun hD => ?_)
  · obtain rfl := Option.some.inj hD
    exact hR _ _ t_X12_fault_12
  · refine g_aload_n h 0 t_X12_fault_7 rfl ?_
    refine g_iload_n h 1 t_X12_fault_8 rfl ?_
    refine g_putI h 119 12 fl_12_134 fp_12_12 rfl (by decide) rfl t_X12_fault_9 hD (fun w3 hD => ?_)
    obtain rfl := Option.some.inj hD
    exact hR _ _ t_X12_fault_12
def D_X12_passes (p1 : Int32) : Wd → Option (Int32 × Wd) := fun w =>
  bc (D_X12_fine w) fun x2 w1 => if x2 = 0 then (some (0, w1)) else (bc (D_X12_here w1) fun x4 w3 => if x4 = p1 then (bd (wI w3 119 11 ((w3.1 119 11) + 1)) fun w5 => some (1, w5)) else (some (0, w3)))
set_option maxRecDepth 20000 in
theorem S_X12_passes {l0 : Launch} {ρ : Nat → Nat} {cs : Nat → ClassId} {G : va_G} (hρ : injN ρ) {p1 : Int32} {w : Wd} {rr : (Int32 × Wd)} (hD : D_X12_passes p1 w = some rr) : CtI l0 ρ cs G y_X12_passes prog_14_method_15_code 2 .boolean 1 [.ref (ρ 119), .int p1] w rr.1 rr.2 := by
  refine ctI_of hρ (by decide) (Nat.le_of_ble_eq_true rfl) (fun X hn h hR => ?_)
  unfold D_X12_passes at hD
  show gG ρ cs G X 0 [(0, .ref (ρ 119)), (1, .int p1)] [] w
  refine g_aload_n h 0 t_X12_passes_0 rfl ?_
  refine g_callVI h 119 (As := []) (st := []) my_X12_fine mi_X12_fine ml_12_141 rfl (by decide) rfl rfl rfl (Nat.le_of_ble_eq_true rfl) (by decide) t_X12_passes_1 hD (fun _ _ e => S_X12_fine hρ  e) (fun x2 w1 hD => ?_)
  refine g_if_eq (tgt := 15) h t_X12_passes_4 (by decide) hD (fun hD => ?_) (fun hD => ?_)
  · refine g_iconst (v := 0) h t_X12_passes_15 (by decide) ?_
    obtain rfl := Option.some.inj hD
    exact hR _ _ t_X12_passes_16 (b01_n rfl)
  · refine g_aload_n h 0 t_X12_passes_7 rfl ?_
    refine g_callVI h 119 (As := []) (st := []) my_X12_here mi_X12_here ml_12_145 rfl (by decide) rfl rfl rfl (Nat.le_of_ble_eq_true rfl) (by decide) t_X12_passes_8 hD (fun _ _ e => S_X12_here hρ  e) (fun x4 w3 hD => ?_)
    refine g_iload_n h 1 t_X12_passes_11 rfl ?_
    refine g_icmp_eq (tgt := 17) h t_X12_passes_12 (by decide) hD (fun hD => ?_) (fun hD => ?_)
    · refine g_aload_n h 0 t_X12_passes_17 rfl ?_
      refine g_dup h t_X12_passes_18 rfl ?_
      refine g_getI h 119 11 fl_12_131 rfl (by decide) rfl t_X12_passes_19 ?_
      refine g_iconst (v := 1) h t_X12_passes_22 (by decide) ?_
      refine g_iadd h t_X12_passes_23 ?_
      refine g_putI h 119 11 fl_12_131 fp_12_11 rfl (by decide) rfl t_X12_passes_24 hD (fun w5 hD => ?_)
      refine g_iconst (v := 1) h t_X12_passes_27 (by decide) ?_
      obtain rfl := Option.some.inj hD
      exact hR _ _ t_X12_passes_28 (b01_n rfl)
    · refine g_iconst (v := 0) h t_X12_passes_15 (by decide) ?_
      obtain rfl := Option.some.inj hD
      exact hR _ _ t_X12_passes_16 (b01_n rfl)
def D_X12_need (p1 : Int32) : Wd → Option Wd := fun w =>
  bc (D_X12_passes p1 w) fun x2 w1 => if x2 = 0 then (bv (D_X12_fault (w1.1 119 11) w1) fun w3 => some w3) else (some w1)
set_option maxRecDepth 20000 in
theorem S_X12_need {l0 : Launch} {ρ : Nat → Nat} {cs : Nat → ClassId} {G : va_G} (hρ : injN ρ) {p1 : Int32} {w : Wd} {rr : Wd} (hD : D_X12_need p1 w = some rr) : CtV l0 ρ cs G y_X12_need prog_14_method_16_code 2 2 [.ref (ρ 119), .int p1] w rr := by
  refine ctV_of hρ (by decide) (Nat.le_of_ble_eq_true rfl) (fun X hn h hR => ?_)
  unfold D_X12_need at hD
  show gG ρ cs G X 0 [(0, .ref (ρ 119)), (1, .int p1)] [] w
  refine g_aload_n h 0 t_X12_need_0 rfl ?_
  refine g_iload_n h 1 t_X12_need_1 rfl ?_
  refine g_callVI h 119 (As := [.int p1]) (st := []) my_X12_passes mi_X12_passes ml_12_149 rfl (by decide) rfl rfl rfl (Nat.le_of_ble_eq_true rfl) (by decide) t_X12_need_2 hD (fun _ _ e => S_X12_passes hρ  e) (fun x2 w1 hD => ?_)
  refine g_if_ne (tgt := 16) h t_X12_need_5 (by decide) hD (fun hD => ?_) (fun hD => ?_)
  · obtain rfl := Option.some.inj hD
    exact hR _ _ t_X12_need_16
  · refine g_aload_n h 0 t_X12_need_8 rfl ?_
    refine g_aload_n h 0 t_X12_need_9 rfl ?_
    refine g_getI h 119 11 fl_12_131 rfl (by decide) rfl t_X12_need_10 ?_
    refine g_callVV h 119 (As := [.int (w1.1 119 11)]) (st := []) my_X12_fault mi_X12_fault ml_12_153 rfl (by decide) rfl rfl rfl (Nat.le_of_ble_eq_true rfl) (by decide) t_X12_need_13 hD (fun _ e => S_X12_fault hρ  e) (fun w3 hD => ?_)
    obtain rfl := Option.some.inj hD
    exact hR _ _ t_X12_need_16
def D_X12_oneOf (p1 : Int32) (p2 : Int32) : Wd → Option (Int32 × Wd) := fun w =>
  bc (D_X12_fine w) fun x2 w1 => if x2 = 0 then (some (0, w1)) else (bc (D_X12_here w1) fun x4 w3 => bc (D_X12_in x4 p1 ((p1 + p2) - 1) w3) fun x6 w5 => if x6 = 0 then (bv (D_X12_fault (w5.1 119 11) w5) fun w9 => some (0, w9)) else (bd (wI w5 119 11 ((w5.1 119 11) + 1)) fun w7 => if bq (w7.2.2 0) then (if ib ((w7.1 119 11) - 1) (ln (w7.2.2 0)) then (some ((w7.1 (w7.2.2 0) ((w7.1 119 11) - 1).toNatClampNeg) - p1, w7)) else none) else none))
set_option maxRecDepth 20000 in
theorem S_X12_oneOf {l0 : Launch} {ρ : Nat → Nat} {cs : Nat → ClassId} {G : va_G} (hρ : injN ρ) {p1 : Int32} {p2 : Int32} {w : Wd} {rr : (Int32 × Wd)} (hD : D_X12_oneOf p1 p2 w = some rr) : CtI l0 ρ cs G y_X12_oneOf prog_14_method_17_code 3 .int 2 [.ref (ρ 119), .int p1, .int p2] w rr.1 rr.2 := by
  refine ctI_of hρ (by decide) (Nat.le_of_ble_eq_true rfl) (fun X hn h hR => ?_)
  unfold D_X12_oneOf at hD
  show gG ρ cs G X 0 [(0, .ref (ρ 119)), (1, .int p1), (2, .int p2)] [] w
  refine g_aload_n h 0 t_X12_oneOf_0 rfl ?_
  refine g_callVI h 119 (As := []) (st := []) my_X12_fine mi_X12_fine ml_12_141 rfl (by decide) rfl rfl rfl (Nat.le_of_ble_eq_true rfl) (by decide) t_X12_oneOf_1 hD (fun _ _ e => S_X12_fine hρ  e) (fun x2 w1 hD => ?_)
  refine g_if_ne (tgt := 9) h t_X12_oneOf_4 (by decide) hD (fun hD => ?_) (fun hD => ?_)
  · refine g_aload_n h 0 t_X12_oneOf_9 rfl ?_
    refine g_callVI h 119 (As := []) (st := []) my_X12_here mi_X12_here ml_12_145 rfl (by decide) rfl rfl rfl (Nat.le_of_ble_eq_true rfl) (by decide) t_X12_oneOf_10 hD (fun _ _ e => S_X12_here hρ  e) (fun x4 w3 hD => ?_)
    refine g_iload_n h 1 t_X12_oneOf_13 rfl ?_
    refine g_iload_n h 1 t_X12_oneOf_14 rfl ?_
    refine g_iload_n h 2 t_X12_oneOf_15 rfl ?_
    refine g_iadd h t_X12_oneOf_16 ?_
    refine g_iconst (v := 1) h t_X12_oneOf_17 (by decide) ?_
    refine g_isub h t_X12_oneOf_18 ?_
    refine g_callSI h (As := [.int x4, .int p1, .int ((p1 + p2) - 1)]) (st := []) my_X12_in ms_X12_in ml_12_118 rfl rfl (Nat.le_of_ble_eq_true rfl) (by decide) t_X12_oneOf_19 hD (fun _ _ e => S_X12_in hρ  e) (fun x6 w5 hD => ?_)
    refine g_if_ne (tgt := 35) h t_X12_oneOf_22 (by decide) hD (fun hD => ?_) (fun hD => ?_)
    · refine g_aload_n h 0 t_X12_oneOf_35 rfl ?_
      refine g_dup h t_X12_oneOf_36 rfl ?_
      refine g_getI h 119 11 fl_12_131 rfl (by decide) rfl t_X12_oneOf_37 ?_
      refine g_iconst (v := 1) h t_X12_oneOf_40 (by decide) ?_
      refine g_iadd h t_X12_oneOf_41 ?_
      refine g_putI h 119 11 fl_12_131 fp_12_11 rfl (by decide) rfl t_X12_oneOf_42 hD (fun w7 hD => ?_)
      refine g_aload_n h 0 t_X12_oneOf_45 rfl ?_
      obtain ⟨hb8, hD⟩ := of_ite hD
      refine g_getZ h 119 8 0 (by decide) hb8 fl_12_122 rfl (by decide) rfl t_X12_oneOf_46 ?_
      refine g_aload_n h 0 t_X12_oneOf_49 rfl ?_
      refine g_getI h 119 11 fl_12_131 rfl (by decide) rfl t_X12_oneOf_50 ?_
      refine g_iconst (v := 1) h t_X12_oneOf_53 (by decide) ?_
      refine g_isub h t_X12_oneOf_54 ?_
      refine g_bald h (w7.2.2 0) (bq_sh hb8) (bq_lt hb8) t_X12_oneOf_55 hD (fun hD => ?_)
      refine g_iload_n h 1 t_X12_oneOf_56 rfl ?_
      refine g_isub h t_X12_oneOf_57 ?_
      obtain rfl := Option.some.inj hD
      exact hR _ _ t_X12_oneOf_58 rfl
    · refine g_aload_n h 0 t_X12_oneOf_25 rfl ?_
      refine g_aload_n h 0 t_X12_oneOf_26 rfl ?_
      refine g_getI h 119 11 fl_12_131 rfl (by decide) rfl t_X12_oneOf_27 ?_
      refine g_callVV h 119 (As := [.int (w5.1 119 11)]) (st := []) my_X12_fault mi_X12_fault ml_12_153 rfl (by decide) rfl rfl rfl (Nat.le_of_ble_eq_true rfl) (by decide) t_X12_oneOf_30 hD (fun _ e => S_X12_fault hρ  e) (fun w9 hD => ?_)
      refine g_iconst (v := 0) h t_X12_oneOf_33 (by decide) ?_
      obtain rfl := Option.some.inj hD
      exact hR _ _ t_X12_oneOf_34 rfl
  · refine g_iconst (v := 0) h t_X12_oneOf_7 (by decide) ?_
    obtain rfl := Option.some.inj hD
    exact hR _ _ t_X12_oneOf_8 rfl
def L_X12_number_11 (x3 : Int32) (k4 : Int32 → Wd → Option (Int32 × Wd)) : Nat → Int32 → Int32 → Wd → Option (Int32 × Wd)
  | 0, _, _, _ => none
  | n5 + 1, x6, x7, w8 =>
    if x3 ≤ x7 then (k4 x6 w8) else (bc (D_X12_fine w8) fun x10 w9 => if x10 = 0 then (k4 x6 w9) else (bc (D_X12_here w9) fun x12 w11 => bc (D_X12_in x12 48 57 w11) fun x14 w13 => if x14 = 0 then (k4 x6 w13) else (bc (D_X12_oneOf 48 10 w13) fun x16 w15 => bd ((10 * x6) + x16) fun x17 => bd (x7 + 1) fun x18 => L_X12_number_11 x3 k4 n5 x17 x18 w15)))
def J_X12_number_x57_1  : Int32 → Wd → Option (Int32 × Wd) := fun x19 w20 =>
  some (x19, w20)
def D_X12_number (p1 : Int32) : Wd → Option (Int32 × Wd) := fun w =>
  bc (D_X12_oneOf 48 10 w) fun x2 w1 => L_X12_number_11 p1 J_X12_number_x57_1 FU x2 1 w1
set_option maxRecDepth 20000 in
theorem Q_X12_number_11 {l0 : Launch} {ρ : Nat → Nat} {cs : Nat → ClassId} {G : va_G} {X : Cx} (hρ : injN ρ) (hn : X.2.2.2.2.2.2.2.2.2.2.1 = 4) (h : Okx l0 ρ cs G X prog_14_method_18_code "SowingBoardsModel" 3) {rr : (Int32 × Wd)} (hR : ∀ pc L, decode prog_14_method_18_code pc = .ok (.ireturn, 1) → narrow .int (.int rr.1) = .int rr.1 → gG ρ cs G X pc L [.int rr.1] rr.2) {x3 : Int32} {k4 : Int32 → Wd → Option (Int32 × Wd)} (hk4 : ∀ (z2 : Int32) (w1 : Wd), k4 z2 w1 = some rr → gG ρ cs G X 57 [(2, .int z2)] [] w1) : ∀ (n : Nat) (x6 : Int32) (x7 : Int32) (w : Wd), L_X12_number_11 x3 k4 n x6 x7 w = some rr → gG ρ cs G X 11 [(0, .ref (ρ 119)), (1, .int x3), (2, .int x6), (3, .int x7)] [] w := by
  intro n
  induction n with
  | zero =>
    intro x6 x7 w hD
    cases hD
  | succ n5 ih =>
    intro x6 x7 w8 hD
    unfold L_X12_number_11 at hD
    refine g_iload_n h 3 t_X12_number_11 rfl ?_
    refine g_iload_n h 1 t_X12_number_12 rfl ?_
    refine g_icmp_ge (tgt := 57) h t_X12_number_13 (by decide) hD (fun hD => ?_) (fun hD => ?_)
    · refine g_loc (L' := [(2, .int x6)]) h [2] rfl ?_
      exact hk4 x6 _ hD
    · refine g_aload_n h 0 t_X12_number_16 rfl ?_
      refine g_callVI h 119 (As := []) (st := []) my_X12_fine mi_X12_fine ml_12_141 rfl (by decide) rfl rfl rfl (Nat.le_of_ble_eq_true rfl) (by decide) t_X12_number_17 hD (fun _ _ e => S_X12_fine hρ  e) (fun x10 w9 hD => ?_)
      refine g_if_eq (tgt := 57) h t_X12_number_20 (by decide) hD (fun hD => ?_) (fun hD => ?_)
      · refine g_loc (L' := [(2, .int x6)]) h [2] rfl ?_
        exact hk4 x6 _ hD
      · refine g_aload_n h 0 t_X12_number_23 rfl ?_
        refine g_callVI h 119 (As := []) (st := []) my_X12_here mi_X12_here ml_12_145 rfl (by decide) rfl rfl rfl (Nat.le_of_ble_eq_true rfl) (by decide) t_X12_number_24 hD (fun _ _ e => S_X12_here hρ  e) (fun x12 w11 hD => ?_)
        refine g_bipush (v := 48) h t_X12_number_27 (by decide) ?_
        refine g_bipush (v := 57) h t_X12_number_29 (by decide) ?_
        refine g_callSI h (As := [.int x12, .int 48, .int 57]) (st := []) my_X12_in ms_X12_in ml_12_118 rfl rfl (Nat.le_of_ble_eq_true rfl) (by decide) t_X12_number_31 hD (fun _ _ e => S_X12_in hρ  e) (fun x14 w13 hD => ?_)
        refine g_if_eq (tgt := 57) h t_X12_number_34 (by decide) hD (fun hD => ?_) (fun hD => ?_)
        · refine g_loc (L' := [(2, .int x6)]) h [2] rfl ?_
          exact hk4 x6 _ hD
        · refine g_bipush (v := 10) h t_X12_number_37 (by decide) ?_
          refine g_iload_n h 2 t_X12_number_39 rfl ?_
          refine g_imul h t_X12_number_40 ?_
          refine g_aload_n h 0 t_X12_number_41 rfl ?_
          refine g_bipush (v := 48) h t_X12_number_42 (by decide) ?_
          refine g_bipush (v := 10) h t_X12_number_44 (by decide) ?_
          refine g_callVI h 119 (As := [.int 48, .int 10]) (st := [.int (10 * x6)]) my_X12_oneOf mi_X12_oneOf ml_12_157 rfl (by decide) rfl rfl rfl (Nat.le_of_ble_eq_true rfl) (by decide) t_X12_number_46 hD (fun _ _ e => S_X12_oneOf hρ  e) (fun x16 w15 hD => ?_)
          refine g_iadd h t_X12_number_49 ?_
          refine g_bdI hD (fun x17 hD => ?_)
          refine g_istore_n (L' := [(2, .int x17), (0, .ref (ρ 119)), (1, .int x3), (3, .int x7)]) h hn t_X12_number_50 rfl (by decide) rfl ?_
          obtain ⟨x18, ex18, hD⟩ := bd_ex hD
          refine g_iinc (v := x18) (L' := [(3, .int x18), (2, .int x17), (0, .ref (ρ 119)), (1, .int x3)]) h hn t_X12_number_51 (k := 3) rfl (by rw [ex18]; rfl) (by decide) rfl ?_
          refine g_goto (tgt := 11) h t_X12_number_54 (by decide) ?_
          refine g_loc (L' := [(0, .ref (ρ 119)), (1, .int x3), (2, .int x17), (3, .int x18)]) h [2, 3, 1, 0] rfl ?_
          exact ih x17 x18 _ hD
set_option maxRecDepth 20000 in
theorem S_X12_number {l0 : Launch} {ρ : Nat → Nat} {cs : Nat → ClassId} {G : va_G} (hρ : injN ρ) {p1 : Int32} {w : Wd} {rr : (Int32 × Wd)} (hD : D_X12_number p1 w = some rr) : CtI l0 ρ cs G y_X12_number prog_14_method_18_code 4 .int 3 [.ref (ρ 119), .int p1] w rr.1 rr.2 := by
  refine ctI_of hρ (by decide) (Nat.le_of_ble_eq_true rfl) (fun X hn h hR => ?_)
  unfold D_X12_number at hD
  show gG ρ cs G X 0 [(0, .ref (ρ 119)), (1, .int p1)] [] w
  refine g_aload_n h 0 t_X12_number_0 rfl ?_
  refine g_bipush (v := 48) h t_X12_number_1 (by decide) ?_
  refine g_bipush (v := 10) h t_X12_number_3 (by decide) ?_
  refine g_callVI h 119 (As := [.int 48, .int 10]) (st := []) my_X12_oneOf mi_X12_oneOf ml_12_157 rfl (by decide) rfl rfl rfl (Nat.le_of_ble_eq_true rfl) (by decide) t_X12_number_5 hD (fun _ _ e => S_X12_oneOf hρ  e) (fun x2 w1 hD => ?_)
  refine g_istore_n (L' := [(2, .int x2), (0, .ref (ρ 119)), (1, .int p1)]) h hn t_X12_number_8 rfl (by decide) rfl ?_
  refine g_iconst (v := 1) h t_X12_number_9 (by decide) ?_
  refine g_istore_n (L' := [(3, .int 1), (2, .int x2), (0, .ref (ρ 119)), (1, .int p1)]) h hn t_X12_number_10 rfl (by decide) rfl ?_
  refine g_loc (L' := [(0, .ref (ρ 119)), (1, .int p1), (2, .int x2), (3, .int 1)]) h [2, 3, 1, 0] rfl ?_
  refine Q_X12_number_11 hρ hn h hR  ?_ _ _ _ _ hD
  · intro x19 w20 hD
    unfold J_X12_number_x57_1 at hD
    refine g_iload_n h 0 t_X12_number_57 rfl ?_
    obtain rfl := Option.some.inj hD
    exact hR _ _ t_X12_number_58 rfl
def D_X12_wasRight  : Wd → Option (Int32 × Wd) := fun w =>
  if (w.1 119 9) ≤ (w.1 119 11) then (bc (D_X12_fine w) fun x2 w1 => if b01 x2 then some (x2, w1) else none) else (bv (D_X12_fault (w.1 119 11) w) fun w3 => bc (D_X12_fine w3) fun x5 w4 => if b01 x5 then some (x5, w4) else none)
set_option maxRecDepth 20000 in
theorem S_X12_wasRight {l0 : Launch} {ρ : Nat → Nat} {cs : Nat → ClassId} {G : va_G} (hρ : injN ρ)  {w : Wd} {rr : (Int32 × Wd)} (hD : D_X12_wasRight w = some rr) : CtI l0 ρ cs G y_X12_wasRight prog_14_method_19_code 1 .boolean 2 [.ref (ρ 119)] w rr.1 rr.2 := by
  refine ctI_of hρ (by decide) (Nat.le_of_ble_eq_true rfl) (fun X hn h hR => ?_)
  unfold D_X12_wasRight at hD
  show gG ρ cs G X 0 [(0, .ref (ρ 119))] [] w
  refine g_aload_n h 0 t_X12_wasRight_0 rfl ?_
  refine g_getI h 119 11 fl_12_131 rfl (by decide) rfl t_X12_wasRight_1 ?_
  refine g_aload_n h 0 t_X12_wasRight_4 rfl ?_
  refine g_getI h 119 9 fl_12_125 rfl (by decide) rfl t_X12_wasRight_5 ?_
  refine g_icmp_ge (tgt := 19) h t_X12_wasRight_8 (by decide) hD (fun hD => ?_) (fun hD => ?_)
  · refine g_aload_n h 0 t_X12_wasRight_19 rfl ?_
    refine g_callVI h 119 (As := []) (st := []) my_X12_fine mi_X12_fine ml_12_141 rfl (by decide) rfl rfl rfl (Nat.le_of_ble_eq_true rfl) (by decide) t_X12_wasRight_20 hD (fun _ _ e => S_X12_fine hρ  e) (fun x2 w1 hD => ?_)
    obtain ⟨hb, hD⟩ := of_ite hD
    obtain rfl := Option.some.inj hD
    exact hR _ _ t_X12_wasRight_23 (b01_n hb)
  · refine g_aload_n h 0 t_X12_wasRight_11 rfl ?_
    refine g_aload_n h 0 t_X12_wasRight_12 rfl ?_
    refine g_getI h 119 11 fl_12_131 rfl (by decide) rfl t_X12_wasRight_13 ?_
    refine g_callVV h 119 (As := [.int (w.1 119 11)]) (st := []) my_X12_fault mi_X12_fault ml_12_153 rfl (by decide) rfl rfl rfl (Nat.le_of_ble_eq_true rfl) (by decide) t_X12_wasRight_16 hD (fun _ e => S_X12_fault hρ  e) (fun w3 hD => ?_)
    refine g_aload_n h 0 t_X12_wasRight_19 rfl ?_
    refine g_callVI h 119 (As := []) (st := []) my_X12_fine mi_X12_fine ml_12_141 rfl (by decide) rfl rfl rfl (Nat.le_of_ble_eq_true rfl) (by decide) t_X12_wasRight_20 hD (fun _ _ e => S_X12_fine hρ  e) (fun x5 w4 hD => ?_)
    obtain ⟨hb, hD⟩ := of_ite hD
    obtain rfl := Option.some.inj hD
    exact hR _ _ t_X12_wasRight_23 (b01_n hb)
def L_X12_board_23 (x6 : Int32) (k7 : Wd → Option (Int32 × Wd)) : Nat → Int32 → Wd → Option (Int32 × Wd)
  | 0, _, _ => none
  | n8 + 1, x9, w10 =>
    if (2 * x6) ≤ x9 then (k7 w10) else (bc (D_X12_fine w10) fun x12 w11 => if x12 = 0 then (k7 w11) else (bc (D_X12_oneOf 48 10 w11) fun x14 w13 => if ib x9 12 then bd (wI w13 123 x9.toNatClampNeg x14) (fun w15 => bd (x9 + 1) fun x16 => L_X12_board_23 x6 k7 n8 x16 w15) else none))
def J_X12_board_j108_1 (r80 : Int32 → Wd → Option (Int32 × Wd)) (x24 : Int32) : Int32 → Wd → Option (Int32 × Wd) := fun x26 w27 =>
  if ib x24 16 then bd (wI w27 120 x24.toNatClampNeg x26) (fun w29 => bd (x24 + 1) fun x30 => r80 x30 w29) else none
def L_X12_board_80 (x21 : Int32) (k22 : Wd → Option (Int32 × Wd)) : Nat → Int32 → Wd → Option (Int32 × Wd)
  | 0, _, _ => none
  | n23 + 1, x24, w25 =>
    if 16 ≤ x24 then (k22 w25) else (bd (J_X12_board_j108_1 (L_X12_board_80 x21 k22 n23) x24) fun k28 => if (2 * x21) ≤ x24 then (k28 0 w25) else (if ib x24 12 then (k28 (w25.1 123 x24.toNatClampNeg) w25) else none))
def L_X12_board_117 (x32 : Int32) (k33 : Int32 → Wd → Option (Int32 × Wd)) : Nat → Int32 → Int32 → Wd → Option (Int32 × Wd)
  | 0, _, _, _ => none
  | n34 + 1, x35, x36, w37 =>
    if (2 * x32) ≤ x36 then (k33 x35 w37) else (if ib x36 12 then (bd (x35 + (w37.1 123 x36.toNatClampNeg)) fun x38 => bd (x36 + 1) fun x39 => L_X12_board_117 x32 k33 n34 x38 x39 w37) else none)
def J_X12_board_x139_2  : Int32 → Wd → Option (Int32 × Wd) := fun x40 w41 =>
  bd (wI w41 119 23 0) fun w42 => bd (wI w42 119 51 ((w42.1 119 51) + 1)) fun w43 => some (x40, w43)
def J_X12_board_x115_3 (x5 : Int32) : Wd → Option (Int32 × Wd) := fun w31 =>
  L_X12_board_117 x5 J_X12_board_x139_2 FU 0 0 w31
def J_X12_board_x57_4 (x5 : Int32) : Wd → Option (Int32 × Wd) := fun w17 =>
  bc (D_X12_wasRight w17) fun x19 w18 => if x19 = 0 then (some ((-1) - (w18.1 119 12), w18)) else (bd (wI w18 119 1 x5) fun w20 => L_X12_board_80 x5 (J_X12_board_x115_3 x5) FU 0 w20)
def D_X12_board  : Wd → Option (Int32 × Wd) := fun w =>
  bd (wI w 119 7 0) fun w1 => bv (D_X12_beginText 13 w1) fun w2 => bc (D_X12_oneOf 50 5 w2) fun x4 w3 => bd (x4 + 2) fun x5 => L_X12_board_23 x5 (J_X12_board_x57_4 x5) FU 0 w3
set_option maxRecDepth 20000 in
theorem Q_X12_board_23 {l0 : Launch} {ρ : Nat → Nat} {cs : Nat → ClassId} {G : va_G} {X : Cx} (hρ : injN ρ) (hn : X.2.2.2.2.2.2.2.2.2.2.1 = 4) (h : Okx l0 ρ cs G X prog_14_method_20_code "SowingBoardsModel" 3) {rr : (Int32 × Wd)} (hR : ∀ pc L, decode prog_14_method_20_code pc = .ok (.ireturn, 1) → narrow .int (.int rr.1) = .int rr.1 → gG ρ cs G X pc L [.int rr.1] rr.2) {x6 : Int32} {k7 : Wd → Option (Int32 × Wd)} (hk7 : ∀ (w1 : Wd), k7 w1 = some rr → gG ρ cs G X 57 [(0, .ref (ρ 119)), (1, .int x6)] [] w1) : ∀ (n : Nat) (x9 : Int32) (w : Wd), L_X12_board_23 x6 k7 n x9 w = some rr → gG ρ cs G X 23 [(0, .ref (ρ 119)), (1, .int x6), (2, .int x9)] [] w := by
  intro n
  induction n with
  | zero =>
    intro x9 w hD
    cases hD
  | succ n8 ih =>
    intro x9 w10 hD
    unfold L_X12_board_23 at hD
    refine g_iload_n h 2 t_X12_board_23 rfl ?_
    refine g_iconst (v := 2) h t_X12_board_24 (by decide) ?_
    refine g_iload_n h 1 t_X12_board_25 rfl ?_
    refine g_imul h t_X12_board_26 ?_
    refine g_icmp_ge (tgt := 57) h t_X12_board_27 (by decide) hD (fun hD => ?_) (fun hD => ?_)
    · refine g_loc (L' := [(0, .ref (ρ 119)), (1, .int x6)]) h [0, 1] rfl ?_
      exact hk7 _ hD
    · refine g_aload_n h 0 t_X12_board_30 rfl ?_
      refine g_callVI h 119 (As := []) (st := []) my_X12_fine mi_X12_fine ml_12_141 rfl (by decide) rfl rfl rfl (Nat.le_of_ble_eq_true rfl) (by decide) t_X12_board_31 hD (fun _ _ e => S_X12_fine hρ  e) (fun x12 w11 hD => ?_)
      refine g_if_eq (tgt := 57) h t_X12_board_34 (by decide) hD (fun hD => ?_) (fun hD => ?_)
      · refine g_loc (L' := [(0, .ref (ρ 119)), (1, .int x6)]) h [0, 1] rfl ?_
        exact hk7 _ hD
      · refine g_aload_n h 0 t_X12_board_37 rfl ?_
        refine g_getR h 119 13 123 fl_12_28 rfl (by decide) rfl t_X12_board_38 ?_
        refine g_iload_n h 2 t_X12_board_41 rfl ?_
        refine g_aload_n h 0 t_X12_board_42 rfl ?_
        refine g_bipush (v := 48) h t_X12_board_43 (by decide) ?_
        refine g_bipush (v := 10) h t_X12_board_45 (by decide) ?_
        refine g_callVI h 119 (As := [.int 48, .int 10]) (st := [.int x9, .ref (ρ 123)]) my_X12_oneOf mi_X12_oneOf ml_12_157 rfl (by decide) rfl rfl rfl (Nat.le_of_ble_eq_true rfl) (by decide) t_X12_board_47 hD (fun _ _ e => S_X12_oneOf hρ  e) (fun x14 w13 hD => ?_)
        refine g_iast h 123 rfl (by decide) t_X12_board_50 hD (fun w15 hD => ?_)
        obtain ⟨x16, ex16, hD⟩ := bd_ex hD
        refine g_iinc (v := x16) (L' := [(2, .int x16), (0, .ref (ρ 119)), (1, .int x6)]) h hn t_X12_board_51 (k := 2) rfl (by rw [ex16]; rfl) (by decide) rfl ?_
        refine g_goto (tgt := 23) h t_X12_board_54 (by decide) ?_
        refine g_loc (L' := [(0, .ref (ρ 119)), (1, .int x6), (2, .int x16)]) h [1, 2, 0] rfl ?_
        exact ih x16 _ hD
set_option maxRecDepth 20000 in
theorem Q_X12_board_80 {l0 : Launch} {ρ : Nat → Nat} {cs : Nat → ClassId} {G : va_G} {X : Cx} (hρ : injN ρ) (hn : X.2.2.2.2.2.2.2.2.2.2.1 = 4) (h : Okx l0 ρ cs G X prog_14_method_20_code "SowingBoardsModel" 3) {rr : (Int32 × Wd)} (hR : ∀ pc L, decode prog_14_method_20_code pc = .ok (.ireturn, 1) → narrow .int (.int rr.1) = .int rr.1 → gG ρ cs G X pc L [.int rr.1] rr.2) {x21 : Int32} {k22 : Wd → Option (Int32 × Wd)} (hk22 : ∀ (w1 : Wd), k22 w1 = some rr → gG ρ cs G X 115 [(0, .ref (ρ 119)), (1, .int x21), (2, .int 0)] [] w1) : ∀ (n : Nat) (x24 : Int32) (w : Wd), L_X12_board_80 x21 k22 n x24 w = some rr → gG ρ cs G X 80 [(0, .ref (ρ 119)), (1, .int x21), (2, .int 0), (3, .int x24)] [] w := by
  intro n
  induction n with
  | zero =>
    intro x24 w hD
    cases hD
  | succ n23 ih =>
    intro x24 w25 hD
    unfold L_X12_board_80 at hD
    refine g_iload_n h 3 t_X12_board_80 rfl ?_
    refine g_bipush (v := 16) h t_X12_board_81 (by decide) ?_
    refine g_icmp_ge (tgt := 115) h t_X12_board_83 (by decide) hD (fun hD => ?_) (fun hD => ?_)
    · refine g_loc (L' := [(0, .ref (ρ 119)), (1, .int x21), (2, .int 0)]) h [0, 1, 2] rfl ?_
      exact hk22 _ hD
    · refine g_aload_n h 0 t_X12_board_86 rfl ?_
      refine g_getR h 119 0 120 fl_12_9 rfl (by decide) rfl t_X12_board_87 ?_
      refine g_iload_n h 3 t_X12_board_90 rfl ?_
      refine g_iload_n h 3 t_X12_board_91 rfl ?_
      refine g_iconst (v := 2) h t_X12_board_92 (by decide) ?_
      refine g_iload_n h 1 t_X12_board_93 rfl ?_
      refine g_imul h t_X12_board_94 ?_
      refine g_join (P := fun k28 => ∀ (x26 : Int32) (w27 : Wd), k28 x26 w27 = some rr → gG ρ cs G X 108 [(0, .ref (ρ 119)), (1, .int x21), (2, .int 0), (3, .int x24)] [.int x26, .int x24, .ref (ρ 120)] w27) hD ?_ (fun k28 hk28 hD => ?_)
      · intro x26 w27 hD
        unfold J_X12_board_j108_1 at hD
        refine g_iast h 120 rfl (by decide) t_X12_board_108 hD (fun w29 hD => ?_)
        obtain ⟨x30, ex30, hD⟩ := bd_ex hD
        refine g_iinc (v := x30) (L' := [(3, .int x30), (0, .ref (ρ 119)), (1, .int x21), (2, .int 0)]) h hn t_X12_board_109 (k := 3) rfl (by rw [ex30]; rfl) (by decide) rfl ?_
        refine g_goto (tgt := 80) h t_X12_board_112 (by decide) ?_
        refine g_loc (L' := [(0, .ref (ρ 119)), (1, .int x21), (2, .int 0), (3, .int x30)]) h [1, 2, 3, 0] rfl ?_
        exact ih x30 _ hD
      · refine g_icmp_ge (tgt := 107) h t_X12_board_95 (by decide) hD (fun hD => ?_) (fun hD => ?_)
        · refine g_iconst (v := 0) h t_X12_board_107 (by decide) ?_
          refine g_loc (L' := [(0, .ref (ρ 119)), (1, .int x21), (2, .int 0), (3, .int x24)]) h [0, 1, 2, 3] rfl ?_
          exact hk28 0 _ hD
        · refine g_aload_n h 0 t_X12_board_98 rfl ?_
          refine g_getR h 119 13 123 fl_12_28 rfl (by decide) rfl t_X12_board_99 ?_
          refine g_iload_n h 3 t_X12_board_102 rfl ?_
          refine g_iald h 123 rfl (by decide) t_X12_board_103 hD (fun hD => ?_)
          refine g_goto (tgt := 108) h t_X12_board_104 (by decide) ?_
          refine g_loc (L' := [(0, .ref (ρ 119)), (1, .int x21), (2, .int 0), (3, .int x24)]) h [0, 1, 2, 3] rfl ?_
          exact hk28 (w25.1 123 x24.toNatClampNeg) _ hD
set_option maxRecDepth 20000 in
theorem Q_X12_board_117 {l0 : Launch} {ρ : Nat → Nat} {cs : Nat → ClassId} {G : va_G} {X : Cx} (hρ : injN ρ) (hn : X.2.2.2.2.2.2.2.2.2.2.1 = 4) (h : Okx l0 ρ cs G X prog_14_method_20_code "SowingBoardsModel" 3) {rr : (Int32 × Wd)} (hR : ∀ pc L, decode prog_14_method_20_code pc = .ok (.ireturn, 1) → narrow .int (.int rr.1) = .int rr.1 → gG ρ cs G X pc L [.int rr.1] rr.2) {x32 : Int32} {k33 : Int32 → Wd → Option (Int32 × Wd)} (hk33 : ∀ (z2 : Int32) (w1 : Wd), k33 z2 w1 = some rr → gG ρ cs G X 139 [(0, .ref (ρ 119)), (2, .int z2)] [] w1) : ∀ (n : Nat) (x35 : Int32) (x36 : Int32) (w : Wd), L_X12_board_117 x32 k33 n x35 x36 w = some rr → gG ρ cs G X 117 [(0, .ref (ρ 119)), (1, .int x32), (2, .int x35), (3, .int x36)] [] w := by
  intro n
  induction n with
  | zero =>
    intro x35 x36 w hD
    cases hD
  | succ n34 ih =>
    intro x35 x36 w37 hD
    unfold L_X12_board_117 at hD
    refine g_iload_n h 3 t_X12_board_117 rfl ?_
    refine g_iconst (v := 2) h t_X12_board_118 (by decide) ?_
    refine g_iload_n h 1 t_X12_board_119 rfl ?_
    refine g_imul h t_X12_board_120 ?_
    refine g_icmp_ge (tgt := 139) h t_X12_board_121 (by decide) hD (fun hD => ?_) (fun hD => ?_)
    · refine g_loc (L' := [(0, .ref (ρ 119)), (2, .int x35)]) h [0, 2] rfl ?_
      exact hk33 x35 _ hD
    · refine g_iload_n h 2 t_X12_board_124 rfl ?_
      refine g_aload_n h 0 t_X12_board_125 rfl ?_
      refine g_getR h 119 13 123 fl_12_28 rfl (by decide) rfl t_X12_board_126 ?_
      refine g_iload_n h 3 t_X12_board_129 rfl ?_
      refine g_iald h 123 rfl (by decide) t_X12_board_130 hD (fun hD => ?_)
      refine g_iadd h t_X12_board_131 ?_
      refine g_bdI hD (fun x38 hD => ?_)
      refine g_istore_n (L' := [(2, .int x38), (0, .ref (ρ 119)), (1, .int x32), (3, .int x36)]) h hn t_X12_board_132 rfl (by decide) rfl ?_
      obtain ⟨x39, ex39, hD⟩ := bd_ex hD
      refine g_iinc (v := x39) (L' := [(3, .int x39), (2, .int x38), (0, .ref (ρ 119)), (1, .int x32)]) h hn t_X12_board_133 (k := 3) rfl (by rw [ex39]; rfl) (by decide) rfl ?_
      refine g_goto (tgt := 117) h t_X12_board_136 (by decide) ?_
      refine g_loc (L' := [(0, .ref (ρ 119)), (1, .int x32), (2, .int x38), (3, .int x39)]) h [2, 3, 1, 0] rfl ?_
      exact ih x38 x39 _ hD
set_option maxRecDepth 20000 in
theorem S_X12_board {l0 : Launch} {ρ : Nat → Nat} {cs : Nat → ClassId} {G : va_G} (hρ : injN ρ)  {w : Wd} {rr : (Int32 × Wd)} (hD : D_X12_board w = some rr) : CtI l0 ρ cs G y_X12_board prog_14_method_20_code 4 .int 3 [.ref (ρ 119)] w rr.1 rr.2 := by
  refine ctI_of hρ (by decide) (Nat.le_of_ble_eq_true rfl) (fun X hn h hR => ?_)
  unfold D_X12_board at hD
  show gG ρ cs G X 0 [(0, .ref (ρ 119))] [] w
  refine g_aload_n h 0 t_X12_board_0 rfl ?_
  refine g_iconst (v := 0) h t_X12_board_1 (by decide) ?_
  refine g_putI h 119 7 fl_12_109 fp_12_7 rfl (by decide) rfl t_X12_board_2 hD (fun w1 hD => ?_)
  refine g_aload_n h 0 t_X12_board_5 rfl ?_
  refine g_bipush (v := 13) h t_X12_board_6 (by decide) ?_
  refine g_callVV h 119 (As := [.int 13]) (st := []) my_X12_beginText mi_X12_beginText ml_12_161 rfl (by decide) rfl rfl rfl (Nat.le_of_ble_eq_true rfl) (by decide) t_X12_board_8 hD (fun _ e => S_X12_beginText hρ  e) (fun w2 hD => ?_)
  refine g_aload_n h 0 t_X12_board_11 rfl ?_
  refine g_bipush (v := 50) h t_X12_board_12 (by decide) ?_
  refine g_iconst (v := 5) h t_X12_board_14 (by decide) ?_
  refine g_callVI h 119 (As := [.int 50, .int 5]) (st := []) my_X12_oneOf mi_X12_oneOf ml_12_157 rfl (by decide) rfl rfl rfl (Nat.le_of_ble_eq_true rfl) (by decide) t_X12_board_15 hD (fun _ _ e => S_X12_oneOf hρ  e) (fun x4 w3 hD => ?_)
  refine g_iconst (v := 2) h t_X12_board_18 (by decide) ?_
  refine g_iadd h t_X12_board_19 ?_
  refine g_bdI hD (fun x5 hD => ?_)
  refine g_istore_n (L' := [(1, .int x5), (0, .ref (ρ 119))]) h hn t_X12_board_20 rfl (by decide) rfl ?_
  refine g_iconst (v := 0) h t_X12_board_21 (by decide) ?_
  refine g_istore_n (L' := [(2, .int 0), (1, .int x5), (0, .ref (ρ 119))]) h hn t_X12_board_22 rfl (by decide) rfl ?_
  refine g_loc (L' := [(0, .ref (ρ 119)), (1, .int x5), (2, .int 0)]) h [2, 1, 0] rfl ?_
  refine Q_X12_board_23 hρ hn h hR  ?_ _ _ _ hD
  · intro w17 hD
    unfold J_X12_board_x57_4 at hD
    refine g_aload_n h 0 t_X12_board_57 rfl ?_
    refine g_callVI h 119 (As := []) (st := []) my_X12_wasRight mi_X12_wasRight ml_12_164 rfl (by decide) rfl rfl rfl (Nat.le_of_ble_eq_true rfl) (by decide) t_X12_board_58 hD (fun _ _ e => S_X12_wasRight hρ  e) (fun x19 w18 hD => ?_)
    refine g_if_ne (tgt := 71) h t_X12_board_61 (by decide) hD (fun hD => ?_) (fun hD => ?_)
    · refine g_aload_n h 0 t_X12_board_71 rfl ?_
      refine g_iload_n h 1 t_X12_board_72 rfl ?_
      refine g_putI h 119 1 fl_12_13 fp_12_1 rfl (by decide) rfl t_X12_board_73 hD (fun w20 hD => ?_)
      refine g_iconst (v := 0) h t_X12_board_76 (by decide) ?_
      refine g_istore_n (L' := [(2, .int 0), (0, .ref (ρ 119)), (1, .int x5)]) h hn t_X12_board_77 rfl (by decide) rfl ?_
      refine g_iconst (v := 0) h t_X12_board_78 (by decide) ?_
      refine g_istore_n (L' := [(3, .int 0), (2, .int 0), (0, .ref (ρ 119)), (1, .int x5)]) h hn t_X12_board_79 rfl (by decide) rfl ?_
      refine g_loc (L' := [(0, .ref (ρ 119)), (1, .int x5), (2, .int 0), (3, .int 0)]) h [2, 3, 1, 0] rfl ?_
      refine Q_X12_board_80 hρ hn h hR  ?_ _ _ _ hD
      · intro w31 hD
        unfold J_X12_board_x115_3 at hD
        refine g_iconst (v := 0) h t_X12_board_115 (by decide) ?_
        refine g_istore_n (L' := [(3, .int 0), (0, .ref (ρ 119)), (1, .int x5), (2, .int 0)]) h hn t_X12_board_116 rfl (by decide) rfl ?_
        refine g_loc (L' := [(0, .ref (ρ 119)), (1, .int x5), (2, .int 0), (3, .int 0)]) h [1, 2, 3, 0] rfl ?_
        refine Q_X12_board_117 hρ hn h hR  ?_ _ _ _ _ hD
        · intro x40 w41 hD
          unfold J_X12_board_x139_2 at hD
          refine g_aload_n h 0 t_X12_board_139 rfl ?_
          refine g_iconst (v := 0) h t_X12_board_140 (by decide) ?_
          refine g_putI h 119 23 fl_12_167 fp_12_23 rfl (by decide) rfl t_X12_board_141 hD (fun w42 hD => ?_)
          refine g_aload_n h 0 t_X12_board_144 rfl ?_
          refine g_dup h t_X12_board_145 rfl ?_
          refine g_getI h 119 51 fl_12_170 rfl (by decide) rfl t_X12_board_146 ?_
          refine g_iconst (v := 1) h t_X12_board_149 (by decide) ?_
          refine g_iadd h t_X12_board_150 ?_
          refine g_putI h 119 51 fl_12_170 fp_12_51 rfl (by decide) rfl t_X12_board_151 hD (fun w43 hD => ?_)
          refine g_iload_n h 1 t_X12_board_154 rfl ?_
          obtain rfl := Option.some.inj hD
          exact hR _ _ t_X12_board_155 rfl
    · refine g_iconst (v := (-1)) h t_X12_board_64 (by decide) ?_
      refine g_aload_n h 0 t_X12_board_65 rfl ?_
      refine g_getI h 119 12 fl_12_134 rfl (by decide) rfl t_X12_board_66 ?_
      refine g_isub h t_X12_board_69 ?_
      obtain rfl := Option.some.inj hD
      exact hR _ _ t_X12_board_70 rfl
def D_X12_lawOf (p0 : Int32) : Wd → Option (Int32 × Wd) := fun w =>
  if p0 = 115 then (some (1, w)) else (if p0 = 114 then (some (2, w)) else (if p0 = 99 then (some (4, w)) else (if p0 = 107 then (some (8, w)) else (if p0 = 120 then (some (16, w)) else (if p0 = 116 then (some (32, w)) else (some (0, w)))))))
set_option maxRecDepth 20000 in
theorem S_X12_lawOf {l0 : Launch} {ρ : Nat → Nat} {cs : Nat → ClassId} {G : va_G} (hρ : injN ρ) {p0 : Int32} {w : Wd} {rr : (Int32 × Wd)} (hD : D_X12_lawOf p0 w = some rr) : CtI l0 ρ cs G y_X12_lawOf prog_14_method_21_code 1 .int 0 [.int p0] w rr.1 rr.2 := by
  refine ctI_of hρ (by decide) (Nat.le_of_ble_eq_true rfl) (fun X hn h hR => ?_)
  unfold D_X12_lawOf at hD
  show gG ρ cs G X 0 [(0, .int p0)] [] w
  refine g_iload_n h 0 t_X12_lawOf_0 rfl ?_
  refine g_bipush (v := 115) h t_X12_lawOf_1 (by decide) ?_
  refine g_icmp_ne (tgt := 10) h t_X12_lawOf_3 (by decide) hD (fun hD => ?_) (fun hD => ?_)
  · refine g_iload_n h 0 t_X12_lawOf_10 rfl ?_
    refine g_bipush (v := 114) h t_X12_lawOf_11 (by decide) ?_
    refine g_icmp_ne (tgt := 20) h t_X12_lawOf_13 (by decide) hD (fun hD => ?_) (fun hD => ?_)
    · refine g_iload_n h 0 t_X12_lawOf_20 rfl ?_
      refine g_bipush (v := 99) h t_X12_lawOf_21 (by decide) ?_
      refine g_icmp_ne (tgt := 30) h t_X12_lawOf_23 (by decide) hD (fun hD => ?_) (fun hD => ?_)
      · refine g_iload_n h 0 t_X12_lawOf_30 rfl ?_
        refine g_bipush (v := 107) h t_X12_lawOf_31 (by decide) ?_
        refine g_icmp_ne (tgt := 41) h t_X12_lawOf_33 (by decide) hD (fun hD => ?_) (fun hD => ?_)
        · refine g_iload_n h 0 t_X12_lawOf_41 rfl ?_
          refine g_bipush (v := 120) h t_X12_lawOf_42 (by decide) ?_
          refine g_icmp_ne (tgt := 52) h t_X12_lawOf_44 (by decide) hD (fun hD => ?_) (fun hD => ?_)
          · refine g_iload_n h 0 t_X12_lawOf_52 rfl ?_
            refine g_bipush (v := 116) h t_X12_lawOf_53 (by decide) ?_
            refine g_icmp_ne (tgt := 63) h t_X12_lawOf_55 (by decide) hD (fun hD => ?_) (fun hD => ?_)
            · refine g_iconst (v := 0) h t_X12_lawOf_63 (by decide) ?_
              obtain rfl := Option.some.inj hD
              exact hR _ _ t_X12_lawOf_64 rfl
            · refine g_bipush (v := 32) h t_X12_lawOf_58 (by decide) ?_
              refine g_goto (tgt := 64) h t_X12_lawOf_60 (by decide) ?_
              obtain rfl := Option.some.inj hD
              exact hR _ _ t_X12_lawOf_64 rfl
          · refine g_bipush (v := 16) h t_X12_lawOf_47 (by decide) ?_
            refine g_goto (tgt := 64) h t_X12_lawOf_49 (by decide) ?_
            obtain rfl := Option.some.inj hD
            exact hR _ _ t_X12_lawOf_64 rfl
        · refine g_bipush (v := 8) h t_X12_lawOf_36 (by decide) ?_
          refine g_goto (tgt := 64) h t_X12_lawOf_38 (by decide) ?_
          obtain rfl := Option.some.inj hD
          exact hR _ _ t_X12_lawOf_64 rfl
      · refine g_iconst (v := 4) h t_X12_lawOf_26 (by decide) ?_
        refine g_goto (tgt := 64) h t_X12_lawOf_27 (by decide) ?_
        obtain rfl := Option.some.inj hD
        exact hR _ _ t_X12_lawOf_64 rfl
    · refine g_iconst (v := 2) h t_X12_lawOf_16 (by decide) ?_
      refine g_goto (tgt := 64) h t_X12_lawOf_17 (by decide) ?_
      obtain rfl := Option.some.inj hD
      exact hR _ _ t_X12_lawOf_64 rfl
  · refine g_iconst (v := 1) h t_X12_lawOf_6 (by decide) ?_
    refine g_goto (tgt := 64) h t_X12_lawOf_7 (by decide) ?_
    obtain rfl := Option.some.inj hD
    exact hR _ _ t_X12_lawOf_64 rfl
def J_X12_laws_j46_1 (k17 : Int32 → Wd → Option (Int32 × Wd)) : Int32 → Wd → Option (Int32 × Wd) := fun x18 w19 =>
  bv (D_X12_fault (w19.1 119 11) w19) fun w21 => k17 x18 w21
def J_X12_laws_j71_2 (r13 : Int32 → Wd → Option (Int32 × Wd)) : Int32 → Wd → Option (Int32 × Wd) := fun x15 w16 =>
  r13 x15 w16
def L_X12_laws_13 (k3 : Int32 → Wd → Option (Int32 × Wd)) : Nat → Int32 → Wd → Option (Int32 × Wd)
  | 0, _, _ => none
  | n4 + 1, x5, w6 =>
    bc (D_X12_fine w6) fun x8 w7 => if x8 = 0 then (k3 x5 w7) else (bc (D_X12_here w7) fun x10 w9 => if x10 = (-1) then (k3 x5 w9) else (bc (D_X12_here w9) fun x12 w11 => bc (D_X12_lawOf x12 w11) fun x14 w13 => bd (J_X12_laws_j71_2 (L_X12_laws_13 k3 n4)) fun k17 => bd (J_X12_laws_j46_1 k17) fun k20 => if x14 = 0 then (k20 x5 w13) else (if (x5 &&& x14) = 0 then (bd (x5 ||| x14) fun x22 => bd (wI w13 119 11 ((w13.1 119 11) + 1)) fun w23 => k17 x22 w23) else (k20 x5 w13))))
def J_X12_laws_x74_3  : Int32 → Wd → Option (Int32 × Wd) := fun x24 w25 =>
  bc (D_X12_wasRight w25) fun x27 w26 => if x27 = 0 then (some ((-1) - (w26.1 119 12), w26)) else (bd (wI w26 119 2 x24) fun w28 => bc (D_J6_bitCount_0f7a4 x24 w28) fun x30 w29 => some (x30, w29))
def D_X12_laws  : Wd → Option (Int32 × Wd) := fun w =>
  bd (wI w 119 7 0) fun w1 => bv (D_X12_beginText 6 w1) fun w2 => L_X12_laws_13 J_X12_laws_x74_3 FU 0 w2
set_option maxRecDepth 20000 in
theorem Q_X12_laws_13 {l0 : Launch} {ρ : Nat → Nat} {cs : Nat → ClassId} {G : va_G} {X : Cx} (hρ : injN ρ) (hn : X.2.2.2.2.2.2.2.2.2.2.1 = 3) (h : Okx l0 ρ cs G X prog_14_method_22_code "SowingBoardsModel" 3) {rr : (Int32 × Wd)} (hR : ∀ pc L, decode prog_14_method_22_code pc = .ok (.ireturn, 1) → narrow .int (.int rr.1) = .int rr.1 → gG ρ cs G X pc L [.int rr.1] rr.2)  {k3 : Int32 → Wd → Option (Int32 × Wd)} (hk3 : ∀ (z1 : Int32) (w1 : Wd), k3 z1 w1 = some rr → gG ρ cs G X 74 [(0, .ref (ρ 119)), (1, .int z1)] [] w1) : ∀ (n : Nat) (x5 : Int32) (w : Wd), L_X12_laws_13 k3 n x5 w = some rr → gG ρ cs G X 13 [(0, .ref (ρ 119)), (1, .int x5)] [] w := by
  intro n
  induction n with
  | zero =>
    intro x5 w hD
    cases hD
  | succ n4 ih =>
    intro x5 w6 hD
    unfold L_X12_laws_13 at hD
    refine g_aload_n h 0 t_X12_laws_13 rfl ?_
    refine g_callVI h 119 (As := []) (st := []) my_X12_fine mi_X12_fine ml_12_141 rfl (by decide) rfl rfl rfl (Nat.le_of_ble_eq_true rfl) (by decide) t_X12_laws_14 hD (fun _ _ e => S_X12_fine hρ  e) (fun x8 w7 hD => ?_)
    refine g_if_eq (tgt := 74) h t_X12_laws_17 (by decide) hD (fun hD => ?_) (fun hD => ?_)
    · refine g_loc (L' := [(0, .ref (ρ 119)), (1, .int x5)]) h [0, 1] rfl ?_
      exact hk3 x5 _ hD
    · refine g_aload_n h 0 t_X12_laws_20 rfl ?_
      refine g_callVI h 119 (As := []) (st := []) my_X12_here mi_X12_here ml_12_145 rfl (by decide) rfl rfl rfl (Nat.le_of_ble_eq_true rfl) (by decide) t_X12_laws_21 hD (fun _ _ e => S_X12_here hρ  e) (fun x10 w9 hD => ?_)
      refine g_iconst (v := (-1)) h t_X12_laws_24 (by decide) ?_
      refine g_icmp_eq (tgt := 74) h t_X12_laws_25 (by decide) hD (fun hD => ?_) (fun hD => ?_)
      · refine g_loc (L' := [(0, .ref (ρ 119)), (1, .int x5)]) h [0, 1] rfl ?_
        exact hk3 x5 _ hD
      · refine g_aload_n h 0 t_X12_laws_28 rfl ?_
        refine g_callVI h 119 (As := []) (st := []) my_X12_here mi_X12_here ml_12_145 rfl (by decide) rfl rfl rfl (Nat.le_of_ble_eq_true rfl) (by decide) t_X12_laws_29 hD (fun _ _ e => S_X12_here hρ  e) (fun x12 w11 hD => ?_)
        refine g_callSI h (As := [.int x12]) (st := []) my_X12_lawOf ms_X12_lawOf ml_12_173 rfl rfl (Nat.le_of_ble_eq_true rfl) (by decide) t_X12_laws_32 hD (fun _ _ e => S_X12_lawOf hρ  e) (fun x14 w13 hD => ?_)
        refine g_istore_n (L' := [(2, .int x14), (0, .ref (ρ 119)), (1, .int x5)]) h hn t_X12_laws_35 rfl (by decide) rfl ?_
        refine g_iload_n h 0 t_X12_laws_36 rfl ?_
        refine g_join (P := fun k17 => ∀ (x15 : Int32) (w16 : Wd), k17 x15 w16 = some rr → gG ρ cs G X 71 [(0, .ref (ρ 119)), (1, .int x15)] [] w16) hD ?_ (fun k17 hk17 hD => ?_)
        · intro x15 w16 hD
          unfold J_X12_laws_j71_2 at hD
          refine g_goto (tgt := 13) h t_X12_laws_71 (by decide) ?_
          refine g_loc (L' := [(0, .ref (ρ 119)), (1, .int x15)]) h [0, 1] rfl ?_
          exact ih x15 _ hD
        · refine g_join (P := fun k20 => ∀ (x18 : Int32) (w19 : Wd), k20 x18 w19 = some rr → gG ρ cs G X 46 [(0, .ref (ρ 119)), (1, .int x18)] [] w19) hD ?_ (fun k20 hk20 hD => ?_)
          · intro x18 w19 hD
            unfold J_X12_laws_j46_1 at hD
            refine g_aload_n h 0 t_X12_laws_46 rfl ?_
            refine g_aload_n h 0 t_X12_laws_47 rfl ?_
            refine g_getI h 119 11 fl_12_131 rfl (by decide) rfl t_X12_laws_48 ?_
            refine g_callVV h 119 (As := [.int (w19.1 119 11)]) (st := []) my_X12_fault mi_X12_fault ml_12_153 rfl (by decide) rfl rfl rfl (Nat.le_of_ble_eq_true rfl) (by decide) t_X12_laws_51 hD (fun _ e => S_X12_fault hρ  e) (fun w21 hD => ?_)
            refine g_goto (tgt := 71) h t_X12_laws_54 (by decide) ?_
            refine g_loc (L' := [(0, .ref (ρ 119)), (1, .int x18)]) h [0, 1] rfl ?_
            exact hk17 x18 _ hD
          · refine g_if_eq (tgt := 46) h t_X12_laws_37 (by decide) hD (fun hD => ?_) (fun hD => ?_)
            · refine g_loc (L' := [(0, .ref (ρ 119)), (1, .int x5)]) h [1, 2] rfl ?_
              exact hk20 x5 _ hD
            · refine g_iload_n h 2 t_X12_laws_40 rfl ?_
              refine g_iload_n h 0 t_X12_laws_41 rfl ?_
              refine g_iand h t_X12_laws_42 ?_
              refine g_if_eq (tgt := 57) h t_X12_laws_43 (by decide) hD (fun hD => ?_) (fun hD => ?_)
              · refine g_iload_n h 2 t_X12_laws_57 rfl ?_
                refine g_iload_n h 0 t_X12_laws_58 rfl ?_
                refine g_ior h t_X12_laws_59 ?_
                refine g_bdI hD (fun x22 hD => ?_)
                refine g_istore_n (L' := [(1, .int x22), (2, .int x14), (0, .ref (ρ 119))]) h hn t_X12_laws_60 rfl (by decide) rfl ?_
                refine g_aload_n h 2 t_X12_laws_61 rfl ?_
                refine g_dup h t_X12_laws_62 rfl ?_
                refine g_getI h 119 11 fl_12_131 rfl (by decide) rfl t_X12_laws_63 ?_
                refine g_iconst (v := 1) h t_X12_laws_66 (by decide) ?_
                refine g_iadd h t_X12_laws_67 ?_
                refine g_putI h 119 11 fl_12_131 fp_12_11 rfl (by decide) rfl t_X12_laws_68 hD (fun w23 hD => ?_)
                refine g_loc (L' := [(0, .ref (ρ 119)), (1, .int x22)]) h [2, 0] rfl ?_
                exact hk17 x22 _ hD
              · refine g_loc (L' := [(0, .ref (ρ 119)), (1, .int x5)]) h [1, 2] rfl ?_
                exact hk20 x5 _ hD
set_option maxRecDepth 20000 in
theorem S_X12_laws {l0 : Launch} {ρ : Nat → Nat} {cs : Nat → ClassId} {G : va_G} (hρ : injN ρ)  {w : Wd} {rr : (Int32 × Wd)} (hD : D_X12_laws w = some rr) : CtI l0 ρ cs G y_X12_laws prog_14_method_22_code 3 .int 3 [.ref (ρ 119)] w rr.1 rr.2 := by
  refine ctI_of hρ (by decide) (Nat.le_of_ble_eq_true rfl) (fun X hn h hR => ?_)
  unfold D_X12_laws at hD
  show gG ρ cs G X 0 [(0, .ref (ρ 119))] [] w
  refine g_aload_n h 0 t_X12_laws_0 rfl ?_
  refine g_iconst (v := 0) h t_X12_laws_1 (by decide) ?_
  refine g_putI h 119 7 fl_12_109 fp_12_7 rfl (by decide) rfl t_X12_laws_2 hD (fun w1 hD => ?_)
  refine g_aload_n h 0 t_X12_laws_5 rfl ?_
  refine g_bipush (v := 6) h t_X12_laws_6 (by decide) ?_
  refine g_callVV h 119 (As := [.int 6]) (st := []) my_X12_beginText mi_X12_beginText ml_12_161 rfl (by decide) rfl rfl rfl (Nat.le_of_ble_eq_true rfl) (by decide) t_X12_laws_8 hD (fun _ e => S_X12_beginText hρ  e) (fun w2 hD => ?_)
  refine g_iconst (v := 0) h t_X12_laws_11 (by decide) ?_
  refine g_istore_n (L' := [(1, .int 0), (0, .ref (ρ 119))]) h hn t_X12_laws_12 rfl (by decide) rfl ?_
  refine g_loc (L' := [(0, .ref (ρ 119)), (1, .int 0)]) h [1, 0] rfl ?_
  refine Q_X12_laws_13 hρ hn h hR  ?_ _ _ _ hD
  · intro x24 w25 hD
    unfold J_X12_laws_x74_3 at hD
    refine g_aload_n h 0 t_X12_laws_74 rfl ?_
    refine g_callVI h 119 (As := []) (st := []) my_X12_wasRight mi_X12_wasRight ml_12_164 rfl (by decide) rfl rfl rfl (Nat.le_of_ble_eq_true rfl) (by decide) t_X12_laws_75 hD (fun _ _ e => S_X12_wasRight hρ  e) (fun x27 w26 hD => ?_)
    refine g_if_ne (tgt := 88) h t_X12_laws_78 (by decide) hD (fun hD => ?_) (fun hD => ?_)
    · refine g_aload_n h 0 t_X12_laws_88 rfl ?_
      refine g_iload_n h 1 t_X12_laws_89 rfl ?_
      refine g_putI h 119 2 fl_12_17 fp_12_2 rfl (by decide) rfl t_X12_laws_90 hD (fun w28 hD => ?_)
      refine g_iload_n h 1 t_X12_laws_93 rfl ?_
      refine g_callSI h (As := [.int x24]) (st := []) my_J6_bitCount_0f7a4 ms_J6_bitCount_0f7a4 ml_12_177 rfl rfl (Nat.le_of_ble_eq_true rfl) (by decide) t_X12_laws_94 hD (fun _ _ e => S_J6_bitCount_0f7a4 hρ  e) (fun x30 w29 hD => ?_)
      obtain rfl := Option.some.inj hD
      exact hR _ _ t_X12_laws_97 rfl
    · refine g_iconst (v := (-1)) h t_X12_laws_81 (by decide) ?_
      refine g_aload_n h 0 t_X12_laws_82 rfl ?_
      refine g_getI h 119 12 fl_12_134 rfl (by decide) rfl t_X12_laws_83 ?_
      refine g_isub h t_X12_laws_86 ?_
      obtain rfl := Option.some.inj hD
      exact hR _ _ t_X12_laws_87 rfl
def D_X12_letterOf (p0 : Int32) : Wd → Option (Int32 × Wd) := fun w =>
  if p0 = 116 then (some (0, w)) else (if p0 = 97 then (some (1, w)) else (if p0 = 112 then (some (2, w)) else (if p0 = 110 then (some (3, w)) else (if p0 = 108 then (some (4, w)) else (if p0 = 101 then (some (5, w)) else (if p0 = 111 then (some (6, w)) else (some ((-1), w))))))))
set_option maxRecDepth 20000 in
theorem S_X12_letterOf {l0 : Launch} {ρ : Nat → Nat} {cs : Nat → ClassId} {G : va_G} (hρ : injN ρ) {p0 : Int32} {w : Wd} {rr : (Int32 × Wd)} (hD : D_X12_letterOf p0 w = some rr) : CtI l0 ρ cs G y_X12_letterOf prog_14_method_26_code 1 .int 0 [.int p0] w rr.1 rr.2 := by
  refine ctI_of hρ (by decide) (Nat.le_of_ble_eq_true rfl) (fun X hn h hR => ?_)
  unfold D_X12_letterOf at hD
  show gG ρ cs G X 0 [(0, .int p0)] [] w
  refine g_iload_n h 0 t_X12_letterOf_0 rfl ?_
  refine g_bipush (v := 116) h t_X12_letterOf_1 (by decide) ?_
  refine g_icmp_ne (tgt := 10) h t_X12_letterOf_3 (by decide) hD (fun hD => ?_) (fun hD => ?_)
  · refine g_iload_n h 0 t_X12_letterOf_10 rfl ?_
    refine g_bipush (v := 97) h t_X12_letterOf_11 (by decide) ?_
    refine g_icmp_ne (tgt := 20) h t_X12_letterOf_13 (by decide) hD (fun hD => ?_) (fun hD => ?_)
    · refine g_iload_n h 0 t_X12_letterOf_20 rfl ?_
      refine g_bipush (v := 112) h t_X12_letterOf_21 (by decide) ?_
      refine g_icmp_ne (tgt := 30) h t_X12_letterOf_23 (by decide) hD (fun hD => ?_) (fun hD => ?_)
      · refine g_iload_n h 0 t_X12_letterOf_30 rfl ?_
        refine g_bipush (v := 110) h t_X12_letterOf_31 (by decide) ?_
        refine g_icmp_ne (tgt := 40) h t_X12_letterOf_33 (by decide) hD (fun hD => ?_) (fun hD => ?_)
        · refine g_iload_n h 0 t_X12_letterOf_40 rfl ?_
          refine g_bipush (v := 108) h t_X12_letterOf_41 (by decide) ?_
          refine g_icmp_ne (tgt := 50) h t_X12_letterOf_43 (by decide) hD (fun hD => ?_) (fun hD => ?_)
          · refine g_iload_n h 0 t_X12_letterOf_50 rfl ?_
            refine g_bipush (v := 101) h t_X12_letterOf_51 (by decide) ?_
            refine g_icmp_ne (tgt := 60) h t_X12_letterOf_53 (by decide) hD (fun hD => ?_) (fun hD => ?_)
            · refine g_iload_n h 0 t_X12_letterOf_60 rfl ?_
              refine g_bipush (v := 111) h t_X12_letterOf_61 (by decide) ?_
              refine g_icmp_ne (tgt := 71) h t_X12_letterOf_63 (by decide) hD (fun hD => ?_) (fun hD => ?_)
              · refine g_iconst (v := (-1)) h t_X12_letterOf_71 (by decide) ?_
                obtain rfl := Option.some.inj hD
                exact hR _ _ t_X12_letterOf_72 rfl
              · refine g_bipush (v := 6) h t_X12_letterOf_66 (by decide) ?_
                refine g_goto (tgt := 72) h t_X12_letterOf_68 (by decide) ?_
                obtain rfl := Option.some.inj hD
                exact hR _ _ t_X12_letterOf_72 rfl
            · refine g_iconst (v := 5) h t_X12_letterOf_56 (by decide) ?_
              refine g_goto (tgt := 72) h t_X12_letterOf_57 (by decide) ?_
              obtain rfl := Option.some.inj hD
              exact hR _ _ t_X12_letterOf_72 rfl
          · refine g_iconst (v := 4) h t_X12_letterOf_46 (by decide) ?_
            refine g_goto (tgt := 72) h t_X12_letterOf_47 (by decide) ?_
            obtain rfl := Option.some.inj hD
            exact hR _ _ t_X12_letterOf_72 rfl
        · refine g_iconst (v := 3) h t_X12_letterOf_36 (by decide) ?_
          refine g_goto (tgt := 72) h t_X12_letterOf_37 (by decide) ?_
          obtain rfl := Option.some.inj hD
          exact hR _ _ t_X12_letterOf_72 rfl
      · refine g_iconst (v := 2) h t_X12_letterOf_26 (by decide) ?_
        refine g_goto (tgt := 72) h t_X12_letterOf_27 (by decide) ?_
        obtain rfl := Option.some.inj hD
        exact hR _ _ t_X12_letterOf_72 rfl
    · refine g_iconst (v := 1) h t_X12_letterOf_16 (by decide) ?_
      refine g_goto (tgt := 72) h t_X12_letterOf_17 (by decide) ?_
      obtain rfl := Option.some.inj hD
      exact hR _ _ t_X12_letterOf_72 rfl
  · refine g_iconst (v := 0) h t_X12_letterOf_6 (by decide) ?_
    refine g_goto (tgt := 72) h t_X12_letterOf_7 (by decide) ?_
    obtain rfl := Option.some.inj hD
    exact hR _ _ t_X12_letterOf_72 rfl
def B_X12_held (rec : Nat → Int32 → Wd → Option (Int32 × Wd)) (p1 : Int32) : Wd → Option (Int32 × Wd) := fun w =>
  bc (rec 1 p1 w) fun x2 w1 => bc (D_X12_passes 60 w1) fun x4 w3 => if x4 = 0 then (bc (D_X12_passes 62 w3) fun x6 w5 => if x6 = 0 then (bc (D_X12_passes 61 w5) fun x8 w7 => if x8 = 0 then (some (x2, w7)) else (bc (rec 1 p1 w7) fun x10 w9 => if x2 = x10 then (some (1, w9)) else (some (0, w9)))) else (bc (rec 1 p1 w5) fun x12 w11 => if x2 ≤ x12 then (some (0, w11)) else (some (1, w11)))) else (bc (rec 1 p1 w3) fun x14 w13 => if x14 ≤ x2 then (some (0, w13)) else (some (1, w13)))
set_option maxRecDepth 20000 in
theorem SB_X12_held {l0 : Launch} {ρ : Nat → Nat} {cs : Nat → ClassId} {G : va_G} (hρ : injN ρ) {rec : Nat → Int32 → Wd → Option (Int32 × Wd)} {dr d : Nat} (hdr : dr < d) (hbd : 2 ≤ d) (hrec : (∀ {p1 : Int32} {w : Wd} {rr : (Int32 × Wd)}, rec 0 p1 w = some rr → CtI l0 ρ cs G y_X12_held prog_14_method_23_code 3 .int dr [.ref (ρ 119), .int p1] w rr.1 rr.2) ∧ (∀ {p1 : Int32} {w : Wd} {rr : (Int32 × Wd)}, rec 1 p1 w = some rr → CtI l0 ρ cs G y_X12_sum prog_14_method_24_code 5 .int dr [.ref (ρ 119), .int p1] w rr.1 rr.2) ∧ (∀ {p1 : Int32} {w : Wd} {rr : (Int32 × Wd)}, rec 2 p1 w = some rr → CtI l0 ρ cs G y_X12_product prog_14_method_25_code 5 .int dr [.ref (ρ 119), .int p1] w rr.1 rr.2) ∧ (∀ {p1 : Int32} {w : Wd} {rr : (Int32 × Wd)}, rec 3 p1 w = some rr → CtI l0 ρ cs G y_X12_thing prog_14_method_27_code 4 .int dr [.ref (ρ 119), .int p1] w rr.1 rr.2)) {p1 : Int32} {w : Wd} {rr : (Int32 × Wd)} (hD : B_X12_held rec p1 w = some rr) : CtI l0 ρ cs G y_X12_held prog_14_method_23_code 3 .int d [.ref (ρ 119), .int p1] w rr.1 rr.2 := by
  refine ctI_of hρ (by decide) (Nat.le_of_ble_eq_true rfl) (fun X hn h hR => ?_)
  unfold B_X12_held at hD
  show gG ρ cs G X 0 [(0, .ref (ρ 119)), (1, .int p1)] [] w
  refine g_aload_n h 0 t_X12_held_0 rfl ?_
  refine g_iload_n h 1 t_X12_held_1 rfl ?_
  refine g_callVI h 119 (As := [.int p1]) (st := []) my_X12_sum mi_X12_sum ml_12_182 rfl (by decide) rfl rfl rfl (Nat.le_of_ble_eq_true rfl) (by omega) t_X12_held_2 hD (fun _ _ e => hrec.2.1  e) (fun x2 w1 hD => ?_)
  refine g_istore_n (L' := [(2, .int x2), (0, .ref (ρ 119)), (1, .int p1)]) h hn t_X12_held_5 rfl (by decide) rfl ?_
  refine g_aload_n h 1 t_X12_held_6 rfl ?_
  refine g_bipush (v := 60) h t_X12_held_7 (by decide) ?_
  refine g_callVI h 119 (As := [.int 60]) (st := []) my_X12_passes mi_X12_passes ml_12_149 rfl (by decide) rfl rfl rfl (Nat.le_of_ble_eq_true rfl) (by omega) t_X12_held_9 hD (fun _ _ e => S_X12_passes hρ  e) (fun x4 w3 hD => ?_)
  refine g_if_eq (tgt := 30) h t_X12_held_12 (by decide) hD (fun hD => ?_) (fun hD => ?_)
  · refine g_aload_n h 1 t_X12_held_30 rfl ?_
    refine g_bipush (v := 62) h t_X12_held_31 (by decide) ?_
    refine g_callVI h 119 (As := [.int 62]) (st := []) my_X12_passes mi_X12_passes ml_12_149 rfl (by decide) rfl rfl rfl (Nat.le_of_ble_eq_true rfl) (by omega) t_X12_held_33 hD (fun _ _ e => S_X12_passes hρ  e) (fun x6 w5 hD => ?_)
    refine g_if_eq (tgt := 54) h t_X12_held_36 (by decide) hD (fun hD => ?_) (fun hD => ?_)
    · refine g_aload_n h 1 t_X12_held_54 rfl ?_
      refine g_bipush (v := 61) h t_X12_held_55 (by decide) ?_
      refine g_callVI h 119 (As := [.int 61]) (st := []) my_X12_passes mi_X12_passes ml_12_149 rfl (by decide) rfl rfl rfl (Nat.le_of_ble_eq_true rfl) (by omega) t_X12_held_57 hD (fun _ _ e => S_X12_passes hρ  e) (fun x8 w7 hD => ?_)
      refine g_if_eq (tgt := 78) h t_X12_held_60 (by decide) hD (fun hD => ?_) (fun hD => ?_)
      · refine g_iload_n h 0 t_X12_held_78 rfl ?_
        obtain rfl := Option.some.inj hD
        exact hR _ _ t_X12_held_79 rfl
      · refine g_iload_n h 0 t_X12_held_63 rfl ?_
        refine g_aload_n h 1 t_X12_held_64 rfl ?_
        refine g_iload_n h 2 t_X12_held_65 rfl ?_
        refine g_callVI h 119 (As := [.int p1]) (st := [.int x2]) my_X12_sum mi_X12_sum ml_12_182 rfl (by decide) rfl rfl rfl (Nat.le_of_ble_eq_true rfl) (by omega) t_X12_held_66 hD (fun _ _ e => hrec.2.1  e) (fun x10 w9 hD => ?_)
        refine g_icmp_ne (tgt := 76) h t_X12_held_69 (by decide) hD (fun hD => ?_) (fun hD => ?_)
        · refine g_iconst (v := 0) h t_X12_held_76 (by decide) ?_
          obtain rfl := Option.some.inj hD
          exact hR _ _ t_X12_held_77 rfl
        · refine g_iconst (v := 1) h t_X12_held_72 (by decide) ?_
          refine g_goto (tgt := 77) h t_X12_held_73 (by decide) ?_
          obtain rfl := Option.some.inj hD
          exact hR _ _ t_X12_held_77 rfl
    · refine g_iload_n h 0 t_X12_held_39 rfl ?_
      refine g_aload_n h 1 t_X12_held_40 rfl ?_
      refine g_iload_n h 2 t_X12_held_41 rfl ?_
      refine g_callVI h 119 (As := [.int p1]) (st := [.int x2]) my_X12_sum mi_X12_sum ml_12_182 rfl (by decide) rfl rfl rfl (Nat.le_of_ble_eq_true rfl) (by omega) t_X12_held_42 hD (fun _ _ e => hrec.2.1  e) (fun x12 w11 hD => ?_)
      refine g_icmp_le (tgt := 52) h t_X12_held_45 (by decide) hD (fun hD => ?_) (fun hD => ?_)
      · refine g_iconst (v := 0) h t_X12_held_52 (by decide) ?_
        obtain rfl := Option.some.inj hD
        exact hR _ _ t_X12_held_53 rfl
      · refine g_iconst (v := 1) h t_X12_held_48 (by decide) ?_
        refine g_goto (tgt := 53) h t_X12_held_49 (by decide) ?_
        obtain rfl := Option.some.inj hD
        exact hR _ _ t_X12_held_53 rfl
  · refine g_iload_n h 0 t_X12_held_15 rfl ?_
    refine g_aload_n h 1 t_X12_held_16 rfl ?_
    refine g_iload_n h 2 t_X12_held_17 rfl ?_
    refine g_callVI h 119 (As := [.int p1]) (st := [.int x2]) my_X12_sum mi_X12_sum ml_12_182 rfl (by decide) rfl rfl rfl (Nat.le_of_ble_eq_true rfl) (by omega) t_X12_held_18 hD (fun _ _ e => hrec.2.1  e) (fun x14 w13 hD => ?_)
    refine g_icmp_ge (tgt := 28) h t_X12_held_21 (by decide) hD (fun hD => ?_) (fun hD => ?_)
    · refine g_iconst (v := 0) h t_X12_held_28 (by decide) ?_
      obtain rfl := Option.some.inj hD
      exact hR _ _ t_X12_held_29 rfl
    · refine g_iconst (v := 1) h t_X12_held_24 (by decide) ?_
      refine g_goto (tgt := 29) h t_X12_held_25 (by decide) ?_
      obtain rfl := Option.some.inj hD
      exact hR _ _ t_X12_held_29 rfl
def J_X12_sum_j78_1 (r6 : Int32 → Wd → Option (Int32 × Wd)) : Int32 → Wd → Option (Int32 × Wd) := fun x22 w23 =>
  r6 x22 w23
def J_X12_sum_j45_2 (r6 : Int32 → Wd → Option (Int32 × Wd)) (rec : Nat → Int32 → Wd → Option (Int32 × Wd)) (x3 : Int32) (x6 : Int32) : Int32 → Wd → Option (Int32 × Wd) := fun x16 w17 =>
  bd (wI w17 119 11 ((w17.1 119 11) + 1)) fun w19 => bc (rec 2 x3 w19) fun x21 w20 => bd (J_X12_sum_j78_1 (r6)) fun k24 => if x16 = 0 then (k24 (x6 - x21) w20) else (k24 (x6 + x21) w20)
def J_X12_sum_j31_3 (r6 : Int32 → Wd → Option (Int32 × Wd)) (rec : Nat → Int32 → Wd → Option (Int32 × Wd)) (x3 : Int32) (x6 : Int32) : Wd → Option (Int32 × Wd) := fun w12 =>
  bc (D_X12_here w12) fun x15 w14 => bd (J_X12_sum_j45_2 (r6) rec x3 x6) fun k18 => if x15 = 43 then (k18 1 w14) else (k18 0 w14)
def L_X12_sum_6 (rec : Nat → Int32 → Wd → Option (Int32 × Wd)) (x3 : Int32) (k4 : Int32 → Wd → Option (Int32 × Wd)) : Nat → Int32 → Wd → Option (Int32 × Wd)
  | 0, _, _ => none
  | n5 + 1, x6, w7 =>
    bc (D_X12_fine w7) fun x9 w8 => if x9 = 0 then (k4 x6 w8) else (bc (D_X12_here w8) fun x11 w10 => bd (J_X12_sum_j31_3 (L_X12_sum_6 rec x3 k4 n5) rec x3 x6) fun k13 => if x11 = 43 then (k13 w10) else (bc (D_X12_here w10) fun x26 w25 => if x26 = 45 then (k13 w25) else (k4 x6 w25)))
def J_X12_sum_x82_4  : Int32 → Wd → Option (Int32 × Wd) := fun x27 w28 =>
  some (x27, w28)
def B_X12_sum (rec : Nat → Int32 → Wd → Option (Int32 × Wd)) (p1 : Int32) : Wd → Option (Int32 × Wd) := fun w =>
  bc (rec 2 p1 w) fun x2 w1 => L_X12_sum_6 rec p1 J_X12_sum_x82_4 FU x2 w1
set_option maxRecDepth 20000 in
theorem Q_X12_sum_6 {l0 : Launch} {ρ : Nat → Nat} {cs : Nat → ClassId} {G : va_G} {X : Cx} (hρ : injN ρ) {rec : Nat → Int32 → Wd → Option (Int32 × Wd)} {dr d : Nat} (hdr : dr < d) (hbd : 1 ≤ d) (hrec : (∀ {p1 : Int32} {w : Wd} {rr : (Int32 × Wd)}, rec 0 p1 w = some rr → CtI l0 ρ cs G y_X12_held prog_14_method_23_code 3 .int dr [.ref (ρ 119), .int p1] w rr.1 rr.2) ∧ (∀ {p1 : Int32} {w : Wd} {rr : (Int32 × Wd)}, rec 1 p1 w = some rr → CtI l0 ρ cs G y_X12_sum prog_14_method_24_code 5 .int dr [.ref (ρ 119), .int p1] w rr.1 rr.2) ∧ (∀ {p1 : Int32} {w : Wd} {rr : (Int32 × Wd)}, rec 2 p1 w = some rr → CtI l0 ρ cs G y_X12_product prog_14_method_25_code 5 .int dr [.ref (ρ 119), .int p1] w rr.1 rr.2) ∧ (∀ {p1 : Int32} {w : Wd} {rr : (Int32 × Wd)}, rec 3 p1 w = some rr → CtI l0 ρ cs G y_X12_thing prog_14_method_27_code 4 .int dr [.ref (ρ 119), .int p1] w rr.1 rr.2)) (hn : X.2.2.2.2.2.2.2.2.2.2.1 = 5) (h : Okx l0 ρ cs G X prog_14_method_24_code "SowingBoardsModel" d) {rr : (Int32 × Wd)} (hR : ∀ pc L, decode prog_14_method_24_code pc = .ok (.ireturn, 1) → narrow .int (.int rr.1) = .int rr.1 → gG ρ cs G X pc L [.int rr.1] rr.2) {x3 : Int32} {k4 : Int32 → Wd → Option (Int32 × Wd)} (hk4 : ∀ (z2 : Int32) (w1 : Wd), k4 z2 w1 = some rr → gG ρ cs G X 82 [(2, .int z2)] [] w1) : ∀ (n : Nat) (x6 : Int32) (w : Wd), L_X12_sum_6 rec x3 k4 n x6 w = some rr → gG ρ cs G X 6 [(0, .ref (ρ 119)), (1, .int x3), (2, .int x6)] [] w := by
  intro n
  induction n with
  | zero =>
    intro x6 w hD
    cases hD
  | succ n5 ih =>
    intro x6 w7 hD
    unfold L_X12_sum_6 at hD
    refine g_aload_n h 0 t_X12_sum_6 rfl ?_
    refine g_callVI h 119 (As := []) (st := []) my_X12_fine mi_X12_fine ml_12_141 rfl (by decide) rfl rfl rfl (Nat.le_of_ble_eq_true rfl) (by omega) t_X12_sum_7 hD (fun _ _ e => S_X12_fine hρ  e) (fun x9 w8 hD => ?_)
    refine g_if_eq (tgt := 82) h t_X12_sum_10 (by decide) hD (fun hD => ?_) (fun hD => ?_)
    · refine g_loc (L' := [(2, .int x6)]) h [2] rfl ?_
      exact hk4 x6 _ hD
    · refine g_aload_n h 0 t_X12_sum_13 rfl ?_
      refine g_callVI h 119 (As := []) (st := []) my_X12_here mi_X12_here ml_12_145 rfl (by decide) rfl rfl rfl (Nat.le_of_ble_eq_true rfl) (by omega) t_X12_sum_14 hD (fun _ _ e => S_X12_here hρ  e) (fun x11 w10 hD => ?_)
      refine g_bipush (v := 43) h t_X12_sum_17 (by decide) ?_
      refine g_join (P := fun k13 => ∀ (w12 : Wd), k13 w12 = some rr → gG ρ cs G X 31 [(0, .ref (ρ 119)), (1, .int x3), (2, .int x6)] [] w12) hD ?_ (fun k13 hk13 hD => ?_)
      · intro w12 hD
        unfold J_X12_sum_j31_3 at hD
        refine g_aload_n h 0 t_X12_sum_31 rfl ?_
        refine g_callVI h 119 (As := []) (st := []) my_X12_here mi_X12_here ml_12_145 rfl (by decide) rfl rfl rfl (Nat.le_of_ble_eq_true rfl) (by omega) t_X12_sum_32 hD (fun _ _ e => S_X12_here hρ  e) (fun x15 w14 hD => ?_)
        refine g_bipush (v := 43) h t_X12_sum_35 (by decide) ?_
        refine g_join (P := fun k18 => ∀ (x16 : Int32) (w17 : Wd), k18 x16 w17 = some rr → gG ρ cs G X 45 [(0, .ref (ρ 119)), (1, .int x3), (2, .int x6)] [.int x16] w17) hD ?_ (fun k18 hk18 hD => ?_)
        · intro x16 w17 hD
          unfold J_X12_sum_j45_2 at hD
          refine g_istore_n (L' := [(3, .int x16), (0, .ref (ρ 119)), (1, .int x3), (2, .int x6)]) h hn t_X12_sum_45 rfl (by decide) rfl ?_
          refine g_aload_n h 1 t_X12_sum_46 rfl ?_
          refine g_dup h t_X12_sum_47 rfl ?_
          refine g_getI h 119 11 fl_12_131 rfl (by decide) rfl t_X12_sum_48 ?_
          refine g_iconst (v := 1) h t_X12_sum_51 (by decide) ?_
          refine g_iadd h t_X12_sum_52 ?_
          refine g_putI h 119 11 fl_12_131 fp_12_11 rfl (by decide) rfl t_X12_sum_53 hD (fun w19 hD => ?_)
          refine g_aload_n h 1 t_X12_sum_56 rfl ?_
          refine g_iload_n h 2 t_X12_sum_57 rfl ?_
          refine g_callVI h 119 (As := [.int x3]) (st := []) my_X12_product mi_X12_product ml_12_185 rfl (by decide) rfl rfl rfl (Nat.le_of_ble_eq_true rfl) (by omega) t_X12_sum_58 hD (fun _ _ e => hrec.2.2.1  e) (fun x21 w20 hD => ?_)
          refine g_istore (L' := [(4, .int x21), (3, .int x16), (0, .ref (ρ 119)), (1, .int x3), (2, .int x6)]) h hn t_X12_sum_61 (by decide) rfl ?_
          refine g_iload_n h 1 t_X12_sum_63 rfl ?_
          refine g_join (P := fun k24 => ∀ (x22 : Int32) (w23 : Wd), k24 x22 w23 = some rr → gG ρ cs G X 78 [(0, .ref (ρ 119)), (1, .int x3)] [.int x22] w23) hD ?_ (fun k24 hk24 hD => ?_)
          · intro x22 w23 hD
            unfold J_X12_sum_j78_1 at hD
            refine g_istore_n (L' := [(2, .int x22), (0, .ref (ρ 119)), (1, .int x3)]) h hn t_X12_sum_78 rfl (by decide) rfl ?_
            refine g_goto (tgt := 6) h t_X12_sum_79 (by decide) ?_
            refine g_loc (L' := [(0, .ref (ρ 119)), (1, .int x3), (2, .int x22)]) h [1, 2, 0] rfl ?_
            exact ih x22 _ hD
          · refine g_if_eq (tgt := 74) h t_X12_sum_64 (by decide) hD (fun hD => ?_) (fun hD => ?_)
            · refine g_iload_n h 4 t_X12_sum_74 rfl ?_
              refine g_iload h 0 t_X12_sum_75 rfl ?_
              refine g_isub h t_X12_sum_77 ?_
              refine g_loc (L' := [(0, .ref (ρ 119)), (1, .int x3)]) h [2, 3] rfl ?_
              exact hk24 (x6 - x21) _ hD
            · refine g_iload_n h 4 t_X12_sum_67 rfl ?_
              refine g_iload h 0 t_X12_sum_68 rfl ?_
              refine g_iadd h t_X12_sum_70 ?_
              refine g_goto (tgt := 78) h t_X12_sum_71 (by decide) ?_
              refine g_loc (L' := [(0, .ref (ρ 119)), (1, .int x3)]) h [2, 3] rfl ?_
              exact hk24 (x6 + x21) _ hD
        · refine g_icmp_ne (tgt := 44) h t_X12_sum_37 (by decide) hD (fun hD => ?_) (fun hD => ?_)
          · refine g_iconst (v := 0) h t_X12_sum_44 (by decide) ?_
            refine g_loc (L' := [(0, .ref (ρ 119)), (1, .int x3), (2, .int x6)]) h [0, 1, 2] rfl ?_
            exact hk18 0 _ hD
          · refine g_iconst (v := 1) h t_X12_sum_40 (by decide) ?_
            refine g_goto (tgt := 45) h t_X12_sum_41 (by decide) ?_
            refine g_loc (L' := [(0, .ref (ρ 119)), (1, .int x3), (2, .int x6)]) h [0, 1, 2] rfl ?_
            exact hk18 1 _ hD
      · refine g_icmp_eq (tgt := 31) h t_X12_sum_19 (by decide) hD (fun hD => ?_) (fun hD => ?_)
        · refine g_loc (L' := [(0, .ref (ρ 119)), (1, .int x3), (2, .int x6)]) h [0, 1, 2] rfl ?_
          exact hk13 _ hD
        · refine g_aload_n h 0 t_X12_sum_22 rfl ?_
          refine g_callVI h 119 (As := []) (st := []) my_X12_here mi_X12_here ml_12_145 rfl (by decide) rfl rfl rfl (Nat.le_of_ble_eq_true rfl) (by omega) t_X12_sum_23 hD (fun _ _ e => S_X12_here hρ  e) (fun x26 w25 hD => ?_)
          refine g_bipush (v := 45) h t_X12_sum_26 (by decide) ?_
          refine g_icmp_ne (tgt := 82) h t_X12_sum_28 (by decide) hD (fun hD => ?_) (fun hD => ?_)
          · refine g_loc (L' := [(2, .int x6)]) h [2] rfl ?_
            exact hk4 x6 _ hD
          · refine g_loc (L' := [(0, .ref (ρ 119)), (1, .int x3), (2, .int x6)]) h [0, 1, 2] rfl ?_
            exact hk13 _ hD
set_option maxRecDepth 20000 in
theorem SB_X12_sum {l0 : Launch} {ρ : Nat → Nat} {cs : Nat → ClassId} {G : va_G} (hρ : injN ρ) {rec : Nat → Int32 → Wd → Option (Int32 × Wd)} {dr d : Nat} (hdr : dr < d) (hbd : 1 ≤ d) (hrec : (∀ {p1 : Int32} {w : Wd} {rr : (Int32 × Wd)}, rec 0 p1 w = some rr → CtI l0 ρ cs G y_X12_held prog_14_method_23_code 3 .int dr [.ref (ρ 119), .int p1] w rr.1 rr.2) ∧ (∀ {p1 : Int32} {w : Wd} {rr : (Int32 × Wd)}, rec 1 p1 w = some rr → CtI l0 ρ cs G y_X12_sum prog_14_method_24_code 5 .int dr [.ref (ρ 119), .int p1] w rr.1 rr.2) ∧ (∀ {p1 : Int32} {w : Wd} {rr : (Int32 × Wd)}, rec 2 p1 w = some rr → CtI l0 ρ cs G y_X12_product prog_14_method_25_code 5 .int dr [.ref (ρ 119), .int p1] w rr.1 rr.2) ∧ (∀ {p1 : Int32} {w : Wd} {rr : (Int32 × Wd)}, rec 3 p1 w = some rr → CtI l0 ρ cs G y_X12_thing prog_14_method_27_code 4 .int dr [.ref (ρ 119), .int p1] w rr.1 rr.2)) {p1 : Int32} {w : Wd} {rr : (Int32 × Wd)} (hD : B_X12_sum rec p1 w = some rr) : CtI l0 ρ cs G y_X12_sum prog_14_method_24_code 5 .int d [.ref (ρ 119), .int p1] w rr.1 rr.2 := by
  refine ctI_of hρ (by decide) (Nat.le_of_ble_eq_true rfl) (fun X hn h hR => ?_)
  unfold B_X12_sum at hD
  show gG ρ cs G X 0 [(0, .ref (ρ 119)), (1, .int p1)] [] w
  refine g_aload_n h 0 t_X12_sum_0 rfl ?_
  refine g_iload_n h 1 t_X12_sum_1 rfl ?_
  refine g_callVI h 119 (As := [.int p1]) (st := []) my_X12_product mi_X12_product ml_12_185 rfl (by decide) rfl rfl rfl (Nat.le_of_ble_eq_true rfl) (by omega) t_X12_sum_2 hD (fun _ _ e => hrec.2.2.1  e) (fun x2 w1 hD => ?_)
  refine g_istore_n (L' := [(2, .int x2), (0, .ref (ρ 119)), (1, .int p1)]) h hn t_X12_sum_5 rfl (by decide) rfl ?_
  refine g_loc (L' := [(0, .ref (ρ 119)), (1, .int p1), (2, .int x2)]) h [1, 2, 0] rfl ?_
  refine Q_X12_sum_6 hρ hdr hbd hrec hn h hR  ?_ _ _ _ hD
  · intro x27 w28 hD
    unfold J_X12_sum_x82_4 at hD
    refine g_iload_n h 0 t_X12_sum_82 rfl ?_
    obtain rfl := Option.some.inj hD
    exact hR _ _ t_X12_sum_83 rfl
def J_X12_product_j87_1 (r6 : Int32 → Wd → Option (Int32 × Wd)) : Int32 → Wd → Option (Int32 × Wd) := fun x22 w23 =>
  r6 x22 w23
def J_X12_product_j45_2 (r6 : Int32 → Wd → Option (Int32 × Wd)) (rec : Nat → Int32 → Wd → Option (Int32 × Wd)) (x3 : Int32) (x6 : Int32) : Int32 → Wd → Option (Int32 × Wd) := fun x16 w17 =>
  bd (wI w17 119 11 ((w17.1 119 11) + 1)) fun w19 => bc (rec 3 x3 w19) fun x21 w20 => bd (J_X12_product_j87_1 (r6)) fun k24 => if x16 = 0 then (if x21 = 0 then (k24 0 w20) else (if ¬ (x21) = 0 then (k24 (x6 / x21) w20) else none)) else (k24 (x6 * x21) w20)
def J_X12_product_j31_3 (r6 : Int32 → Wd → Option (Int32 × Wd)) (rec : Nat → Int32 → Wd → Option (Int32 × Wd)) (x3 : Int32) (x6 : Int32) : Wd → Option (Int32 × Wd) := fun w12 =>
  bc (D_X12_here w12) fun x15 w14 => bd (J_X12_product_j45_2 (r6) rec x3 x6) fun k18 => if x15 = 42 then (k18 1 w14) else (k18 0 w14)
def L_X12_product_6 (rec : Nat → Int32 → Wd → Option (Int32 × Wd)) (x3 : Int32) (k4 : Int32 → Wd → Option (Int32 × Wd)) : Nat → Int32 → Wd → Option (Int32 × Wd)
  | 0, _, _ => none
  | n5 + 1, x6, w7 =>
    bc (D_X12_fine w7) fun x9 w8 => if x9 = 0 then (k4 x6 w8) else (bc (D_X12_here w8) fun x11 w10 => bd (J_X12_product_j31_3 (L_X12_product_6 rec x3 k4 n5) rec x3 x6) fun k13 => if x11 = 42 then (k13 w10) else (bc (D_X12_here w10) fun x26 w25 => if x26 = 47 then (k13 w25) else (k4 x6 w25)))
def J_X12_product_x91_4  : Int32 → Wd → Option (Int32 × Wd) := fun x27 w28 =>
  some (x27, w28)
def B_X12_product (rec : Nat → Int32 → Wd → Option (Int32 × Wd)) (p1 : Int32) : Wd → Option (Int32 × Wd) := fun w =>
  bc (rec 3 p1 w) fun x2 w1 => L_X12_product_6 rec p1 J_X12_product_x91_4 FU x2 w1
set_option maxRecDepth 20000 in
theorem Q_X12_product_6 {l0 : Launch} {ρ : Nat → Nat} {cs : Nat → ClassId} {G : va_G} {X : Cx} (hρ : injN ρ) {rec : Nat → Int32 → Wd → Option (Int32 × Wd)} {dr d : Nat} (hdr : dr < d) (hbd : 1 ≤ d) (hrec : (∀ {p1 : Int32} {w : Wd} {rr : (Int32 × Wd)}, rec 0 p1 w = some rr → CtI l0 ρ cs G y_X12_held prog_14_method_23_code 3 .int dr [.ref (ρ 119), .int p1] w rr.1 rr.2) ∧ (∀ {p1 : Int32} {w : Wd} {rr : (Int32 × Wd)}, rec 1 p1 w = some rr → CtI l0 ρ cs G y_X12_sum prog_14_method_24_code 5 .int dr [.ref (ρ 119), .int p1] w rr.1 rr.2) ∧ (∀ {p1 : Int32} {w : Wd} {rr : (Int32 × Wd)}, rec 2 p1 w = some rr → CtI l0 ρ cs G y_X12_product prog_14_method_25_code 5 .int dr [.ref (ρ 119), .int p1] w rr.1 rr.2) ∧ (∀ {p1 : Int32} {w : Wd} {rr : (Int32 × Wd)}, rec 3 p1 w = some rr → CtI l0 ρ cs G y_X12_thing prog_14_method_27_code 4 .int dr [.ref (ρ 119), .int p1] w rr.1 rr.2)) (hn : X.2.2.2.2.2.2.2.2.2.2.1 = 5) (h : Okx l0 ρ cs G X prog_14_method_25_code "SowingBoardsModel" d) {rr : (Int32 × Wd)} (hR : ∀ pc L, decode prog_14_method_25_code pc = .ok (.ireturn, 1) → narrow .int (.int rr.1) = .int rr.1 → gG ρ cs G X pc L [.int rr.1] rr.2) {x3 : Int32} {k4 : Int32 → Wd → Option (Int32 × Wd)} (hk4 : ∀ (z2 : Int32) (w1 : Wd), k4 z2 w1 = some rr → gG ρ cs G X 91 [(2, .int z2)] [] w1) : ∀ (n : Nat) (x6 : Int32) (w : Wd), L_X12_product_6 rec x3 k4 n x6 w = some rr → gG ρ cs G X 6 [(0, .ref (ρ 119)), (1, .int x3), (2, .int x6)] [] w := by
  intro n
  induction n with
  | zero =>
    intro x6 w hD
    cases hD
  | succ n5 ih =>
    intro x6 w7 hD
    unfold L_X12_product_6 at hD
    refine g_aload_n h 0 t_X12_product_6 rfl ?_
    refine g_callVI h 119 (As := []) (st := []) my_X12_fine mi_X12_fine ml_12_141 rfl (by decide) rfl rfl rfl (Nat.le_of_ble_eq_true rfl) (by omega) t_X12_product_7 hD (fun _ _ e => S_X12_fine hρ  e) (fun x9 w8 hD => ?_)
    refine g_if_eq (tgt := 91) h t_X12_product_10 (by decide) hD (fun hD => ?_) (fun hD => ?_)
    · refine g_loc (L' := [(2, .int x6)]) h [2] rfl ?_
      exact hk4 x6 _ hD
    · refine g_aload_n h 0 t_X12_product_13 rfl ?_
      refine g_callVI h 119 (As := []) (st := []) my_X12_here mi_X12_here ml_12_145 rfl (by decide) rfl rfl rfl (Nat.le_of_ble_eq_true rfl) (by omega) t_X12_product_14 hD (fun _ _ e => S_X12_here hρ  e) (fun x11 w10 hD => ?_)
      refine g_bipush (v := 42) h t_X12_product_17 (by decide) ?_
      refine g_join (P := fun k13 => ∀ (w12 : Wd), k13 w12 = some rr → gG ρ cs G X 31 [(0, .ref (ρ 119)), (1, .int x3), (2, .int x6)] [] w12) hD ?_ (fun k13 hk13 hD => ?_)
      · intro w12 hD
        unfold J_X12_product_j31_3 at hD
        refine g_aload_n h 0 t_X12_product_31 rfl ?_
        refine g_callVI h 119 (As := []) (st := []) my_X12_here mi_X12_here ml_12_145 rfl (by decide) rfl rfl rfl (Nat.le_of_ble_eq_true rfl) (by omega) t_X12_product_32 hD (fun _ _ e => S_X12_here hρ  e) (fun x15 w14 hD => ?_)
        refine g_bipush (v := 42) h t_X12_product_35 (by decide) ?_
        refine g_join (P := fun k18 => ∀ (x16 : Int32) (w17 : Wd), k18 x16 w17 = some rr → gG ρ cs G X 45 [(0, .ref (ρ 119)), (1, .int x3), (2, .int x6)] [.int x16] w17) hD ?_ (fun k18 hk18 hD => ?_)
        · intro x16 w17 hD
          unfold J_X12_product_j45_2 at hD
          refine g_istore_n (L' := [(3, .int x16), (0, .ref (ρ 119)), (1, .int x3), (2, .int x6)]) h hn t_X12_product_45 rfl (by decide) rfl ?_
          refine g_aload_n h 1 t_X12_product_46 rfl ?_
          refine g_dup h t_X12_product_47 rfl ?_
          refine g_getI h 119 11 fl_12_131 rfl (by decide) rfl t_X12_product_48 ?_
          refine g_iconst (v := 1) h t_X12_product_51 (by decide) ?_
          refine g_iadd h t_X12_product_52 ?_
          refine g_putI h 119 11 fl_12_131 fp_12_11 rfl (by decide) rfl t_X12_product_53 hD (fun w19 hD => ?_)
          refine g_aload_n h 1 t_X12_product_56 rfl ?_
          refine g_iload_n h 2 t_X12_product_57 rfl ?_
          refine g_callVI h 119 (As := [.int x3]) (st := []) my_X12_thing mi_X12_thing ml_12_188 rfl (by decide) rfl rfl rfl (Nat.le_of_ble_eq_true rfl) (by omega) t_X12_product_58 hD (fun _ _ e => hrec.2.2.2  e) (fun x21 w20 hD => ?_)
          refine g_istore (L' := [(4, .int x21), (3, .int x16), (0, .ref (ρ 119)), (1, .int x3), (2, .int x6)]) h hn t_X12_product_61 (by decide) rfl ?_
          refine g_iload_n h 1 t_X12_product_63 rfl ?_
          refine g_join (P := fun k24 => ∀ (x22 : Int32) (w23 : Wd), k24 x22 w23 = some rr → gG ρ cs G X 87 [(0, .ref (ρ 119)), (1, .int x3)] [.int x22] w23) hD ?_ (fun k24 hk24 hD => ?_)
          · intro x22 w23 hD
            unfold J_X12_product_j87_1 at hD
            refine g_istore_n (L' := [(2, .int x22), (0, .ref (ρ 119)), (1, .int x3)]) h hn t_X12_product_87 rfl (by decide) rfl ?_
            refine g_goto (tgt := 6) h t_X12_product_88 (by decide) ?_
            refine g_loc (L' := [(0, .ref (ρ 119)), (1, .int x3), (2, .int x22)]) h [1, 2, 0] rfl ?_
            exact ih x22 _ hD
          · refine g_if_eq (tgt := 74) h t_X12_product_64 (by decide) hD (fun hD => ?_) (fun hD => ?_)
            · refine g_iload h 0 t_X12_product_74 rfl ?_
              refine g_if_ne (tgt := 83) h t_X12_product_76 (by decide) hD (fun hD => ?_) (fun hD => ?_)
              · refine g_iload_n h 4 t_X12_product_83 rfl ?_
                refine g_iload h 0 t_X12_product_84 rfl ?_
                refine g_idiv h t_X12_product_86 hD (fun hD => ?_)
                refine g_loc (L' := [(0, .ref (ρ 119)), (1, .int x3)]) h [2, 3] rfl ?_
                exact hk24 (x6 / x21) _ hD
              · refine g_iconst (v := 0) h t_X12_product_79 (by decide) ?_
                refine g_goto (tgt := 87) h t_X12_product_80 (by decide) ?_
                refine g_loc (L' := [(0, .ref (ρ 119)), (1, .int x3)]) h [2, 3] rfl ?_
                exact hk24 0 _ hD
            · refine g_iload_n h 4 t_X12_product_67 rfl ?_
              refine g_iload h 0 t_X12_product_68 rfl ?_
              refine g_imul h t_X12_product_70 ?_
              refine g_goto (tgt := 87) h t_X12_product_71 (by decide) ?_
              refine g_loc (L' := [(0, .ref (ρ 119)), (1, .int x3)]) h [2, 3] rfl ?_
              exact hk24 (x6 * x21) _ hD
        · refine g_icmp_ne (tgt := 44) h t_X12_product_37 (by decide) hD (fun hD => ?_) (fun hD => ?_)
          · refine g_iconst (v := 0) h t_X12_product_44 (by decide) ?_
            refine g_loc (L' := [(0, .ref (ρ 119)), (1, .int x3), (2, .int x6)]) h [0, 1, 2] rfl ?_
            exact hk18 0 _ hD
          · refine g_iconst (v := 1) h t_X12_product_40 (by decide) ?_
            refine g_goto (tgt := 45) h t_X12_product_41 (by decide) ?_
            refine g_loc (L' := [(0, .ref (ρ 119)), (1, .int x3), (2, .int x6)]) h [0, 1, 2] rfl ?_
            exact hk18 1 _ hD
      · refine g_icmp_eq (tgt := 31) h t_X12_product_19 (by decide) hD (fun hD => ?_) (fun hD => ?_)
        · refine g_loc (L' := [(0, .ref (ρ 119)), (1, .int x3), (2, .int x6)]) h [0, 1, 2] rfl ?_
          exact hk13 _ hD
        · refine g_aload_n h 0 t_X12_product_22 rfl ?_
          refine g_callVI h 119 (As := []) (st := []) my_X12_here mi_X12_here ml_12_145 rfl (by decide) rfl rfl rfl (Nat.le_of_ble_eq_true rfl) (by omega) t_X12_product_23 hD (fun _ _ e => S_X12_here hρ  e) (fun x26 w25 hD => ?_)
          refine g_bipush (v := 47) h t_X12_product_26 (by decide) ?_
          refine g_icmp_ne (tgt := 91) h t_X12_product_28 (by decide) hD (fun hD => ?_) (fun hD => ?_)
          · refine g_loc (L' := [(2, .int x6)]) h [2] rfl ?_
            exact hk4 x6 _ hD
          · refine g_loc (L' := [(0, .ref (ρ 119)), (1, .int x3), (2, .int x6)]) h [0, 1, 2] rfl ?_
            exact hk13 _ hD
set_option maxRecDepth 20000 in
theorem SB_X12_product {l0 : Launch} {ρ : Nat → Nat} {cs : Nat → ClassId} {G : va_G} (hρ : injN ρ) {rec : Nat → Int32 → Wd → Option (Int32 × Wd)} {dr d : Nat} (hdr : dr < d) (hbd : 1 ≤ d) (hrec : (∀ {p1 : Int32} {w : Wd} {rr : (Int32 × Wd)}, rec 0 p1 w = some rr → CtI l0 ρ cs G y_X12_held prog_14_method_23_code 3 .int dr [.ref (ρ 119), .int p1] w rr.1 rr.2) ∧ (∀ {p1 : Int32} {w : Wd} {rr : (Int32 × Wd)}, rec 1 p1 w = some rr → CtI l0 ρ cs G y_X12_sum prog_14_method_24_code 5 .int dr [.ref (ρ 119), .int p1] w rr.1 rr.2) ∧ (∀ {p1 : Int32} {w : Wd} {rr : (Int32 × Wd)}, rec 2 p1 w = some rr → CtI l0 ρ cs G y_X12_product prog_14_method_25_code 5 .int dr [.ref (ρ 119), .int p1] w rr.1 rr.2) ∧ (∀ {p1 : Int32} {w : Wd} {rr : (Int32 × Wd)}, rec 3 p1 w = some rr → CtI l0 ρ cs G y_X12_thing prog_14_method_27_code 4 .int dr [.ref (ρ 119), .int p1] w rr.1 rr.2)) {p1 : Int32} {w : Wd} {rr : (Int32 × Wd)} (hD : B_X12_product rec p1 w = some rr) : CtI l0 ρ cs G y_X12_product prog_14_method_25_code 5 .int d [.ref (ρ 119), .int p1] w rr.1 rr.2 := by
  refine ctI_of hρ (by decide) (Nat.le_of_ble_eq_true rfl) (fun X hn h hR => ?_)
  unfold B_X12_product at hD
  show gG ρ cs G X 0 [(0, .ref (ρ 119)), (1, .int p1)] [] w
  refine g_aload_n h 0 t_X12_product_0 rfl ?_
  refine g_iload_n h 1 t_X12_product_1 rfl ?_
  refine g_callVI h 119 (As := [.int p1]) (st := []) my_X12_thing mi_X12_thing ml_12_188 rfl (by decide) rfl rfl rfl (Nat.le_of_ble_eq_true rfl) (by omega) t_X12_product_2 hD (fun _ _ e => hrec.2.2.2  e) (fun x2 w1 hD => ?_)
  refine g_istore_n (L' := [(2, .int x2), (0, .ref (ρ 119)), (1, .int p1)]) h hn t_X12_product_5 rfl (by decide) rfl ?_
  refine g_loc (L' := [(0, .ref (ρ 119)), (1, .int p1), (2, .int x2)]) h [1, 2, 0] rfl ?_
  refine Q_X12_product_6 hρ hdr hbd hrec hn h hR  ?_ _ _ _ hD
  · intro x27 w28 hD
    unfold J_X12_product_x91_4 at hD
    refine g_iload_n h 0 t_X12_product_91 rfl ?_
    obtain rfl := Option.some.inj hD
    exact hR _ _ t_X12_product_92 rfl
def J_X12_thing_j67_1 (x6 : Int32) : Wd → Option (Int32 × Wd) := fun w7 =>
  bc (D_X12_in x6 48 57 w7) fun x10 w9 => if x10 = 0 then (bc (D_X12_letterOf x6 w9) fun x12 w11 => if x12 = (-1) then (bv (D_X12_fault (w11.1 119 11) w11) fun w16 => some (0, w16)) else (bd (wI w11 119 11 ((w11.1 119 11) + 1)) fun w13 => if (w13.1 119 17) = 0 then (some (0, w13)) else (bc (D_X12_letterOf x6 w13) fun x15 w14 => if ib x15 7 then (some (w14.1 126 x15.toNatClampNeg, w14)) else none))) else (bc (D_X12_number 3 w9) fun x18 w17 => some (x18, w17))
def B_X12_thing (rec : Nat → Int32 → Wd → Option (Int32 × Wd)) (p1 : Int32) : Wd → Option (Int32 × Wd) := fun w =>
  bc (D_X12_passes 45 w) fun x2 w1 => if x2 = 0 then (bc (D_X12_fine w1) fun x4 w3 => if x4 = 0 then (some (0, w3)) else (bc (D_X12_here w3) fun x6 w5 => bd (J_X12_thing_j67_1 x6) fun k8 => if x6 = 40 then (if 4 ≤ p1 then (k8 w5) else (bd (wI w5 119 11 ((w5.1 119 11) + 1)) fun w19 => bc (rec 0 (p1 + 1) w19) fun x21 w20 => bv (D_X12_need 41 w20) fun w22 => some (x21, w22))) else (k8 w5))) else (bc (rec 3 p1 w1) fun x24 w23 => some (-x24, w23))
set_option maxRecDepth 20000 in
theorem SB_X12_thing {l0 : Launch} {ρ : Nat → Nat} {cs : Nat → ClassId} {G : va_G} (hρ : injN ρ) {rec : Nat → Int32 → Wd → Option (Int32 × Wd)} {dr d : Nat} (hdr : dr < d) (hbd : 4 ≤ d) (hrec : (∀ {p1 : Int32} {w : Wd} {rr : (Int32 × Wd)}, rec 0 p1 w = some rr → CtI l0 ρ cs G y_X12_held prog_14_method_23_code 3 .int dr [.ref (ρ 119), .int p1] w rr.1 rr.2) ∧ (∀ {p1 : Int32} {w : Wd} {rr : (Int32 × Wd)}, rec 1 p1 w = some rr → CtI l0 ρ cs G y_X12_sum prog_14_method_24_code 5 .int dr [.ref (ρ 119), .int p1] w rr.1 rr.2) ∧ (∀ {p1 : Int32} {w : Wd} {rr : (Int32 × Wd)}, rec 2 p1 w = some rr → CtI l0 ρ cs G y_X12_product prog_14_method_25_code 5 .int dr [.ref (ρ 119), .int p1] w rr.1 rr.2) ∧ (∀ {p1 : Int32} {w : Wd} {rr : (Int32 × Wd)}, rec 3 p1 w = some rr → CtI l0 ρ cs G y_X12_thing prog_14_method_27_code 4 .int dr [.ref (ρ 119), .int p1] w rr.1 rr.2)) {p1 : Int32} {w : Wd} {rr : (Int32 × Wd)} (hD : B_X12_thing rec p1 w = some rr) : CtI l0 ρ cs G y_X12_thing prog_14_method_27_code 4 .int d [.ref (ρ 119), .int p1] w rr.1 rr.2 := by
  refine ctI_of hρ (by decide) (Nat.le_of_ble_eq_true rfl) (fun X hn h hR => ?_)
  unfold B_X12_thing at hD
  show gG ρ cs G X 0 [(0, .ref (ρ 119)), (1, .int p1)] [] w
  refine g_aload_n h 0 t_X12_thing_0 rfl ?_
  refine g_bipush (v := 45) h t_X12_thing_1 (by decide) ?_
  refine g_callVI h 119 (As := [.int 45]) (st := []) my_X12_passes mi_X12_passes ml_12_149 rfl (by decide) rfl rfl rfl (Nat.le_of_ble_eq_true rfl) (by omega) t_X12_thing_3 hD (fun _ _ e => S_X12_passes hρ  e) (fun x2 w1 hD => ?_)
  refine g_if_eq (tgt := 16) h t_X12_thing_6 (by decide) hD (fun hD => ?_) (fun hD => ?_)
  · refine g_aload_n h 0 t_X12_thing_16 rfl ?_
    refine g_callVI h 119 (As := []) (st := []) my_X12_fine mi_X12_fine ml_12_141 rfl (by decide) rfl rfl rfl (Nat.le_of_ble_eq_true rfl) (by omega) t_X12_thing_17 hD (fun _ _ e => S_X12_fine hρ  e) (fun x4 w3 hD => ?_)
    refine g_if_ne (tgt := 25) h t_X12_thing_20 (by decide) hD (fun hD => ?_) (fun hD => ?_)
    · refine g_aload_n h 0 t_X12_thing_25 rfl ?_
      refine g_callVI h 119 (As := []) (st := []) my_X12_here mi_X12_here ml_12_145 rfl (by decide) rfl rfl rfl (Nat.le_of_ble_eq_true rfl) (by omega) t_X12_thing_26 hD (fun _ _ e => S_X12_here hρ  e) (fun x6 w5 hD => ?_)
      refine g_istore_n (L' := [(2, .int x6), (0, .ref (ρ 119)), (1, .int p1)]) h hn t_X12_thing_29 rfl (by decide) rfl ?_
      refine g_iload_n h 0 t_X12_thing_30 rfl ?_
      refine g_bipush (v := 40) h t_X12_thing_31 (by decide) ?_
      refine g_join (P := fun k8 => ∀ (w7 : Wd), k8 w7 = some rr → gG ρ cs G X 67 [(0, .ref (ρ 119)), (2, .int x6)] [] w7) hD ?_ (fun k8 hk8 hD => ?_)
      · intro w7 hD
        unfold J_X12_thing_j67_1 at hD
        refine g_iload_n h 1 t_X12_thing_67 rfl ?_
        refine g_bipush (v := 48) h t_X12_thing_68 (by decide) ?_
        refine g_bipush (v := 57) h t_X12_thing_70 (by decide) ?_
        refine g_callSI h (As := [.int x6, .int 48, .int 57]) (st := []) my_X12_in ms_X12_in ml_12_118 rfl rfl (Nat.le_of_ble_eq_true rfl) (by omega) t_X12_thing_72 hD (fun _ _ e => S_X12_in hρ  e) (fun x10 w9 hD => ?_)
        refine g_if_eq (tgt := 84) h t_X12_thing_75 (by decide) hD (fun hD => ?_) (fun hD => ?_)
        · refine g_iload_n h 1 t_X12_thing_84 rfl ?_
          refine g_callSI h (As := [.int x6]) (st := []) my_X12_letterOf ms_X12_letterOf ml_12_201 rfl rfl (Nat.le_of_ble_eq_true rfl) (by omega) t_X12_thing_85 hD (fun _ _ e => S_X12_letterOf hρ  e) (fun x12 w11 hD => ?_)
          refine g_iconst (v := (-1)) h t_X12_thing_88 (by decide) ?_
          refine g_icmp_ne (tgt := 102) h t_X12_thing_89 (by decide) hD (fun hD => ?_) (fun hD => ?_)
          · refine g_aload_n h 0 t_X12_thing_102 rfl ?_
            refine g_dup h t_X12_thing_103 rfl ?_
            refine g_getI h 119 11 fl_12_131 rfl (by decide) rfl t_X12_thing_104 ?_
            refine g_iconst (v := 1) h t_X12_thing_107 (by decide) ?_
            refine g_iadd h t_X12_thing_108 ?_
            refine g_putI h 119 11 fl_12_131 fp_12_11 rfl (by decide) rfl t_X12_thing_109 hD (fun w13 hD => ?_)
            refine g_aload_n h 0 t_X12_thing_112 rfl ?_
            refine g_getI h 119 17 fl_12_204 rfl (by decide) rfl t_X12_thing_113 ?_
            refine g_if_eq (tgt := 131) h t_X12_thing_116 (by decide) hD (fun hD => ?_) (fun hD => ?_)
            · refine g_iconst (v := 0) h t_X12_thing_131 (by decide) ?_
              obtain rfl := Option.some.inj hD
              exact hR _ _ t_X12_thing_132 rfl
            · refine g_aload_n h 0 t_X12_thing_119 rfl ?_
              refine g_getR h 119 18 126 fl_12_37 rfl (by decide) rfl t_X12_thing_120 ?_
              refine g_iload_n h 1 t_X12_thing_123 rfl ?_
              refine g_callSI h (As := [.int x6]) (st := [.ref (ρ 126)]) my_X12_letterOf ms_X12_letterOf ml_12_201 rfl rfl (Nat.le_of_ble_eq_true rfl) (by omega) t_X12_thing_124 hD (fun _ _ e => S_X12_letterOf hρ  e) (fun x15 w14 hD => ?_)
              refine g_iald h 126 rfl (by decide) t_X12_thing_127 hD (fun hD => ?_)
              refine g_goto (tgt := 132) h t_X12_thing_128 (by decide) ?_
              obtain rfl := Option.some.inj hD
              exact hR _ _ t_X12_thing_132 rfl
          · refine g_aload_n h 0 t_X12_thing_92 rfl ?_
            refine g_aload_n h 0 t_X12_thing_93 rfl ?_
            refine g_getI h 119 11 fl_12_131 rfl (by decide) rfl t_X12_thing_94 ?_
            refine g_callVV h 119 (As := [.int (w11.1 119 11)]) (st := []) my_X12_fault mi_X12_fault ml_12_153 rfl (by decide) rfl rfl rfl (Nat.le_of_ble_eq_true rfl) (by omega) t_X12_thing_97 hD (fun _ e => S_X12_fault hρ  e) (fun w16 hD => ?_)
            refine g_iconst (v := 0) h t_X12_thing_100 (by decide) ?_
            obtain rfl := Option.some.inj hD
            exact hR _ _ t_X12_thing_101 rfl
        · refine g_aload_n h 0 t_X12_thing_78 rfl ?_
          refine g_iconst (v := 3) h t_X12_thing_79 (by decide) ?_
          refine g_callVI h 119 (As := [.int 3]) (st := []) my_X12_number mi_X12_number ml_12_198 rfl (by decide) rfl rfl rfl (Nat.le_of_ble_eq_true rfl) (by omega) t_X12_thing_80 hD (fun _ _ e => S_X12_number hρ  e) (fun x18 w17 hD => ?_)
          obtain rfl := Option.some.inj hD
          exact hR _ _ t_X12_thing_83 rfl
      · refine g_icmp_ne (tgt := 67) h t_X12_thing_33 (by decide) hD (fun hD => ?_) (fun hD => ?_)
        · refine g_loc (L' := [(0, .ref (ρ 119)), (2, .int x6)]) h [1, 0] rfl ?_
          exact hk8 _ hD
        · refine g_iload_n h 2 t_X12_thing_36 rfl ?_
          refine g_iconst (v := 4) h t_X12_thing_37 (by decide) ?_
          refine g_icmp_ge (tgt := 67) h t_X12_thing_38 (by decide) hD (fun hD => ?_) (fun hD => ?_)
          · refine g_loc (L' := [(0, .ref (ρ 119)), (2, .int x6)]) h [1, 0] rfl ?_
            exact hk8 _ hD
          · refine g_aload_n h 1 t_X12_thing_41 rfl ?_
            refine g_dup h t_X12_thing_42 rfl ?_
            refine g_getI h 119 11 fl_12_131 rfl (by decide) rfl t_X12_thing_43 ?_
            refine g_iconst (v := 1) h t_X12_thing_46 (by decide) ?_
            refine g_iadd h t_X12_thing_47 ?_
            refine g_putI h 119 11 fl_12_131 fp_12_11 rfl (by decide) rfl t_X12_thing_48 hD (fun w19 hD => ?_)
            refine g_aload_n h 1 t_X12_thing_51 rfl ?_
            refine g_iload_n h 2 t_X12_thing_52 rfl ?_
            refine g_iconst (v := 1) h t_X12_thing_53 (by decide) ?_
            refine g_iadd h t_X12_thing_54 ?_
            refine g_callVI h 119 (As := [.int (p1 + 1)]) (st := []) my_X12_held mi_X12_held ml_12_191 rfl (by decide) rfl rfl rfl (Nat.le_of_ble_eq_true rfl) (by omega) t_X12_thing_55 hD (fun _ _ e => hrec.1  e) (fun x21 w20 hD => ?_)
            refine g_istore_n (L' := [(3, .int x21), (2, .int x6), (0, .ref (ρ 119)), (1, .int p1)]) h hn t_X12_thing_58 rfl (by decide) rfl ?_
            refine g_aload_n h 2 t_X12_thing_59 rfl ?_
            refine g_bipush (v := 41) h t_X12_thing_60 (by decide) ?_
            refine g_callVV h 119 (As := [.int 41]) (st := []) my_X12_need mi_X12_need ml_12_194 rfl (by decide) rfl rfl rfl (Nat.le_of_ble_eq_true rfl) (by omega) t_X12_thing_62 hD (fun _ e => S_X12_need hρ  e) (fun w22 hD => ?_)
            refine g_iload_n h 0 t_X12_thing_65 rfl ?_
            obtain rfl := Option.some.inj hD
            exact hR _ _ t_X12_thing_66 rfl
    · refine g_iconst (v := 0) h t_X12_thing_23 (by decide) ?_
      obtain rfl := Option.some.inj hD
      exact hR _ _ t_X12_thing_24 rfl
  · refine g_aload_n h 0 t_X12_thing_9 rfl ?_
    refine g_iload_n h 1 t_X12_thing_10 rfl ?_
    refine g_callVI h 119 (As := [.int p1]) (st := []) my_X12_thing mi_X12_thing ml_12_188 rfl (by decide) rfl rfl rfl (Nat.le_of_ble_eq_true rfl) (by omega) t_X12_thing_11 hD (fun _ _ e => hrec.2.2.2  e) (fun x24 w23 hD => ?_)
    refine g_ineg h t_X12_thing_14 ?_
    obtain rfl := Option.some.inj hD
    exact hR _ _ t_X12_thing_15 rfl
def E_X12_held : Nat → Nat → Int32 → Wd → Option (Int32 × Wd)
  | 0, _, _, _ => none
  | n + 1, t, p1, w => if t = 0 then B_X12_held (fun t p1 w => E_X12_held n t p1 w) p1 w else if t = 1 then B_X12_sum (fun t p1 w => E_X12_held n t p1 w) p1 w else if t = 2 then B_X12_product (fun t p1 w => E_X12_held n t p1 w) p1 w else B_X12_thing (fun t p1 w => E_X12_held n t p1 w) p1 w
set_option maxRecDepth 20000 in
theorem SE_X12_held {l0 : Launch} {ρ : Nat → Nat} {cs : Nat → ClassId} {G : va_G} (hρ : injN ρ) : ∀ n : Nat, (∀ {p1 : Int32} {w : Wd} {rr : (Int32 × Wd)}, E_X12_held n 0 p1 w = some rr → CtI l0 ρ cs G y_X12_held prog_14_method_23_code 3 .int (4 + n) [.ref (ρ 119), .int p1] w rr.1 rr.2) ∧ (∀ {p1 : Int32} {w : Wd} {rr : (Int32 × Wd)}, E_X12_held n 1 p1 w = some rr → CtI l0 ρ cs G y_X12_sum prog_14_method_24_code 5 .int (4 + n) [.ref (ρ 119), .int p1] w rr.1 rr.2) ∧ (∀ {p1 : Int32} {w : Wd} {rr : (Int32 × Wd)}, E_X12_held n 2 p1 w = some rr → CtI l0 ρ cs G y_X12_product prog_14_method_25_code 5 .int (4 + n) [.ref (ρ 119), .int p1] w rr.1 rr.2) ∧ (∀ {p1 : Int32} {w : Wd} {rr : (Int32 × Wd)}, E_X12_held n 3 p1 w = some rr → CtI l0 ρ cs G y_X12_thing prog_14_method_27_code 4 .int (4 + n) [.ref (ρ 119), .int p1] w rr.1 rr.2) := by
  intro n
  induction n with
  | zero => exact ⟨(fun hD => by cases hD), (fun hD => by cases hD), (fun hD => by cases hD), (fun hD => by cases hD)⟩
  | succ n ih =>
    exact ⟨fun hD => SB_X12_held hρ (rec := fun t p1 w => E_X12_held n t p1 w) (dr := 4 + n) (d := 4 + (n + 1)) (by omega) (by omega) ih hD, fun hD => SB_X12_sum hρ (rec := fun t p1 w => E_X12_held n t p1 w) (dr := 4 + n) (d := 4 + (n + 1)) (by omega) (by omega) ih hD, fun hD => SB_X12_product hρ (rec := fun t p1 w => E_X12_held n t p1 w) (dr := 4 + n) (d := 4 + (n + 1)) (by omega) (by omega) ih hD, fun hD => SB_X12_thing hρ (rec := fun t p1 w => E_X12_held n t p1 w) (dr := 4 + n) (d := 4 + (n + 1)) (by omega) (by omega) ih hD⟩
def D_X12_held (p1 : Int32) : Wd → Option (Int32 × Wd) := fun w => E_X12_held 80 0 p1 w
set_option maxRecDepth 20000 in
theorem S_X12_held {l0 : Launch} {ρ : Nat → Nat} {cs : Nat → ClassId} {G : va_G} (hρ : injN ρ) {p1 : Int32} {w : Wd} {rr : (Int32 × Wd)} (hD : D_X12_held p1 w = some rr) : CtI l0 ρ cs G y_X12_held prog_14_method_23_code 3 .int 84 [.ref (ρ 119), .int p1] w rr.1 rr.2 := (SE_X12_held hρ 80).1 hD
def D_X12_sum (p1 : Int32) : Wd → Option (Int32 × Wd) := fun w => E_X12_held 80 1 p1 w
set_option maxRecDepth 20000 in
theorem S_X12_sum {l0 : Launch} {ρ : Nat → Nat} {cs : Nat → ClassId} {G : va_G} (hρ : injN ρ) {p1 : Int32} {w : Wd} {rr : (Int32 × Wd)} (hD : D_X12_sum p1 w = some rr) : CtI l0 ρ cs G y_X12_sum prog_14_method_24_code 5 .int 84 [.ref (ρ 119), .int p1] w rr.1 rr.2 := (SE_X12_held hρ 80).2.1 hD
def D_X12_product (p1 : Int32) : Wd → Option (Int32 × Wd) := fun w => E_X12_held 80 2 p1 w
set_option maxRecDepth 20000 in
theorem S_X12_product {l0 : Launch} {ρ : Nat → Nat} {cs : Nat → ClassId} {G : va_G} (hρ : injN ρ) {p1 : Int32} {w : Wd} {rr : (Int32 × Wd)} (hD : D_X12_product p1 w = some rr) : CtI l0 ρ cs G y_X12_product prog_14_method_25_code 5 .int 84 [.ref (ρ 119), .int p1] w rr.1 rr.2 := (SE_X12_held hρ 80).2.2.1 hD
def D_X12_thing (p1 : Int32) : Wd → Option (Int32 × Wd) := fun w => E_X12_held 80 3 p1 w
set_option maxRecDepth 20000 in
theorem S_X12_thing {l0 : Launch} {ρ : Nat → Nat} {cs : Nat → ClassId} {G : va_G} (hρ : injN ρ) {p1 : Int32} {w : Wd} {rr : (Int32 × Wd)} (hD : D_X12_thing p1 w = some rr) : CtI l0 ρ cs G y_X12_thing prog_14_method_27_code 4 .int 84 [.ref (ρ 119), .int p1] w rr.1 rr.2 := (SE_X12_held hρ 80).2.2.2 hD
def D_X12_readRule  : Wd → Option (Int32 × Wd) := fun w =>
  bv (D_X12_beginText 40 w) fun w1 => if b01 0 then (bd (wI w1 119 17 0) fun w2 => if (w2.1 119 9) ≤ 0 then (bc (D_X12_wasRight w2) fun x4 w3 => if b01 x4 then some (x4, w3) else none) else (bc (D_X12_held 0 w2) fun x6 w5 => bc (D_X12_wasRight w5) fun x8 w7 => if b01 x8 then some (x8, w7) else none)) else none
set_option maxRecDepth 20000 in
theorem S_X12_readRule {l0 : Launch} {ρ : Nat → Nat} {cs : Nat → ClassId} {G : va_G} (hρ : injN ρ)  {w : Wd} {rr : (Int32 × Wd)} (hD : D_X12_readRule w = some rr) : CtI l0 ρ cs G y_X12_readRule prog_14_method_28_code 1 .boolean 85 [.ref (ρ 119)] w rr.1 rr.2 := by
  refine ctI_of hρ (by decide) (Nat.le_of_ble_eq_true rfl) (fun X hn h hR => ?_)
  unfold D_X12_readRule at hD
  show gG ρ cs G X 0 [(0, .ref (ρ 119))] [] w
  refine g_aload_n h 0 t_X12_readRule_0 rfl ?_
  refine g_bipush (v := 40) h t_X12_readRule_1 (by decide) ?_
  refine g_callVV h 119 (As := [.int 40]) (st := []) my_X12_beginText mi_X12_beginText ml_12_161 rfl (by decide) rfl rfl rfl (Nat.le_of_ble_eq_true rfl) (by decide) t_X12_readRule_3 hD (fun _ e => S_X12_beginText hρ  e) (fun w1 hD => ?_)
  refine g_aload_n h 0 t_X12_readRule_6 rfl ?_
  refine g_iconst (v := 0) h t_X12_readRule_7 (by decide) ?_
  refine g_putZ h 119 17 fl_12_204 fp_12_17 rfl (by decide) rfl t_X12_readRule_8 hD (fun w2 hD => ?_)
  refine g_aload_n h 0 t_X12_readRule_11 rfl ?_
  refine g_getI h 119 9 fl_12_125 rfl (by decide) rfl t_X12_readRule_12 ?_
  refine g_if_le (tgt := 24) h t_X12_readRule_15 (by decide) hD (fun hD => ?_) (fun hD => ?_)
  · refine g_aload_n h 0 t_X12_readRule_24 rfl ?_
    refine g_callVI h 119 (As := []) (st := []) my_X12_wasRight mi_X12_wasRight ml_12_164 rfl (by decide) rfl rfl rfl (Nat.le_of_ble_eq_true rfl) (by decide) t_X12_readRule_25 hD (fun _ _ e => S_X12_wasRight hρ  e) (fun x4 w3 hD => ?_)
    obtain ⟨hb, hD⟩ := of_ite hD
    obtain rfl := Option.some.inj hD
    exact hR _ _ t_X12_readRule_28 (b01_n hb)
  · refine g_aload_n h 0 t_X12_readRule_18 rfl ?_
    refine g_iconst (v := 0) h t_X12_readRule_19 (by decide) ?_
    refine g_callVI h 119 (As := [.int 0]) (st := []) my_X12_held mi_X12_held ml_12_191 rfl (by decide) rfl rfl rfl (Nat.le_of_ble_eq_true rfl) (by decide) t_X12_readRule_20 hD (fun _ _ e => S_X12_held hρ  e) (fun x6 w5 hD => ?_)
    refine g_pop h t_X12_readRule_23 rfl ?_
    refine g_aload_n h 0 t_X12_readRule_24 rfl ?_
    refine g_callVI h 119 (As := []) (st := []) my_X12_wasRight mi_X12_wasRight ml_12_164 rfl (by decide) rfl rfl rfl (Nat.le_of_ble_eq_true rfl) (by decide) t_X12_readRule_25 hD (fun _ _ e => S_X12_wasRight hρ  e) (fun x8 w7 hD => ?_)
    obtain ⟨hb, hD⟩ := of_ite hD
    obtain rfl := Option.some.inj hD
    exact hR _ _ t_X12_readRule_28 (b01_n hb)
def L_X12_rule_26 (x5 : Int32) (k6 : Wd → Option (Int32 × Wd)) : Nat → Int32 → Wd → Option (Int32 × Wd)
  | 0, _, _ => none
  | n7 + 1, x8, w9 =>
    if x5 ≤ x8 then (k6 w9) else (if bq (w9.2.2 1) then (if ib x8 80 then (if ib x8 (ln (w9.2.2 1)) then bd (wI w9 (w9.2.2 1) x8.toNatClampNeg (vp_nar .byte (w9.1 121 x8.toNatClampNeg))) (fun w11 => bd (x8 + 1) fun x12 => L_X12_rule_26 x5 k6 n7 x12 w11) else none) else none) else none)
def J_X12_rule_x49_1 (x2 : Int32) : Wd → Option (Int32 × Wd) := fun w13 =>
  bd (wI w13 119 16 x2) fun w14 => some (0, w14)
def D_X12_rule  : Wd → Option (Int32 × Wd) := fun w =>
  bd (wI w 119 7 0) fun w1 => bd (w1.1 119 4) fun x2 => bc (D_X12_readRule w1) fun x4 w3 => if x4 = 0 then (some ((-1) - (w3.1 119 12), w3)) else (L_X12_rule_26 x2 (J_X12_rule_x49_1 x2) FU 0 w3)
set_option maxRecDepth 20000 in
theorem Q_X12_rule_26 {l0 : Launch} {ρ : Nat → Nat} {cs : Nat → ClassId} {G : va_G} {X : Cx} (hρ : injN ρ) (hn : X.2.2.2.2.2.2.2.2.2.2.1 = 3) (h : Okx l0 ρ cs G X prog_14_method_29_code "SowingBoardsModel" 86) {rr : (Int32 × Wd)} (hR : ∀ pc L, decode prog_14_method_29_code pc = .ok (.ireturn, 1) → narrow .int (.int rr.1) = .int rr.1 → gG ρ cs G X pc L [.int rr.1] rr.2) {x5 : Int32} {k6 : Wd → Option (Int32 × Wd)} (hk6 : ∀ (w1 : Wd), k6 w1 = some rr → gG ρ cs G X 49 [(0, .ref (ρ 119)), (1, .int x5)] [] w1) : ∀ (n : Nat) (x8 : Int32) (w : Wd), L_X12_rule_26 x5 k6 n x8 w = some rr → gG ρ cs G X 26 [(0, .ref (ρ 119)), (1, .int x5), (2, .int x8)] [] w := by
  intro n
  induction n with
  | zero =>
    intro x8 w hD
    cases hD
  | succ n7 ih =>
    intro x8 w9 hD
    unfold L_X12_rule_26 at hD
    refine g_iload_n h 2 t_X12_rule_26 rfl ?_
    refine g_iload_n h 1 t_X12_rule_27 rfl ?_
    refine g_icmp_ge (tgt := 49) h t_X12_rule_28 (by decide) hD (fun hD => ?_) (fun hD => ?_)
    · refine g_loc (L' := [(0, .ref (ρ 119)), (1, .int x5)]) h [0, 1] rfl ?_
      exact hk6 _ hD
    · refine g_aload_n h 0 t_X12_rule_31 rfl ?_
      obtain ⟨hb10, hD⟩ := of_ite hD
      refine g_getZ h 119 14 1 (by decide) hb10 fl_12_31 rfl (by decide) rfl t_X12_rule_32 ?_
      refine g_iload_n h 2 t_X12_rule_35 rfl ?_
      refine g_aload_n h 0 t_X12_rule_36 rfl ?_
      refine g_getR h 119 3 121 fl_12_20 rfl (by decide) rfl t_X12_rule_37 ?_
      refine g_iload_n h 2 t_X12_rule_40 rfl ?_
      refine g_bald h 121 rfl (by decide) t_X12_rule_41 hD (fun hD => ?_)
      refine g_bast h (w9.2.2 1) (bq_sh hb10) (bq_lt hb10) t_X12_rule_42 hD (fun w11 hD => ?_)
      obtain ⟨x12, ex12, hD⟩ := bd_ex hD
      refine g_iinc (v := x12) (L' := [(2, .int x12), (0, .ref (ρ 119)), (1, .int x5)]) h hn t_X12_rule_43 (k := 2) rfl (by rw [ex12]; rfl) (by decide) rfl ?_
      refine g_goto (tgt := 26) h t_X12_rule_46 (by decide) ?_
      refine g_loc (L' := [(0, .ref (ρ 119)), (1, .int x5), (2, .int x12)]) h [1, 2, 0] rfl ?_
      exact ih x12 _ hD
set_option maxRecDepth 20000 in
theorem S_X12_rule {l0 : Launch} {ρ : Nat → Nat} {cs : Nat → ClassId} {G : va_G} (hρ : injN ρ)  {w : Wd} {rr : (Int32 × Wd)} (hD : D_X12_rule w = some rr) : CtI l0 ρ cs G y_X12_rule prog_14_method_29_code 3 .int 86 [.ref (ρ 119)] w rr.1 rr.2 := by
  refine ctI_of hρ (by decide) (Nat.le_of_ble_eq_true rfl) (fun X hn h hR => ?_)
  unfold D_X12_rule at hD
  show gG ρ cs G X 0 [(0, .ref (ρ 119))] [] w
  refine g_aload_n h 0 t_X12_rule_0 rfl ?_
  refine g_iconst (v := 0) h t_X12_rule_1 (by decide) ?_
  refine g_putI h 119 7 fl_12_109 fp_12_7 rfl (by decide) rfl t_X12_rule_2 hD (fun w1 hD => ?_)
  refine g_aload_n h 0 t_X12_rule_5 rfl ?_
  refine g_getI h 119 4 fl_12_115 rfl (by decide) rfl t_X12_rule_6 ?_
  refine g_bdI hD (fun x2 hD => ?_)
  refine g_istore_n (L' := [(1, .int x2), (0, .ref (ρ 119))]) h hn t_X12_rule_9 rfl (by decide) rfl ?_
  refine g_aload_n h 1 t_X12_rule_10 rfl ?_
  refine g_callVI h 119 (As := []) (st := []) my_X12_readRule mi_X12_readRule ml_12_208 rfl (by decide) rfl rfl rfl (Nat.le_of_ble_eq_true rfl) (by decide) t_X12_rule_11 hD (fun _ _ e => S_X12_readRule hρ  e) (fun x4 w3 hD => ?_)
  refine g_if_ne (tgt := 24) h t_X12_rule_14 (by decide) hD (fun hD => ?_) (fun hD => ?_)
  · refine g_iconst (v := 0) h t_X12_rule_24 (by decide) ?_
    refine g_istore_n (L' := [(2, .int 0), (1, .int x2), (0, .ref (ρ 119))]) h hn t_X12_rule_25 rfl (by decide) rfl ?_
    refine g_loc (L' := [(0, .ref (ρ 119)), (1, .int x2), (2, .int 0)]) h [2, 1, 0] rfl ?_
    refine Q_X12_rule_26 hρ hn h hR  ?_ _ _ _ hD
    · intro w13 hD
      unfold J_X12_rule_x49_1 at hD
      refine g_aload_n h 0 t_X12_rule_49 rfl ?_
      refine g_iload_n h 1 t_X12_rule_50 rfl ?_
      refine g_putI h 119 16 fl_12_211 fp_12_16 rfl (by decide) rfl t_X12_rule_51 hD (fun w14 hD => ?_)
      refine g_iconst (v := 0) h t_X12_rule_54 (by decide) ?_
      obtain rfl := Option.some.inj hD
      exact hR _ _ t_X12_rule_55 rfl
  · refine g_iconst (v := (-1)) h t_X12_rule_17 (by decide) ?_
    refine g_aload_n h 1 t_X12_rule_18 rfl ?_
    refine g_getI h 119 12 fl_12_134 rfl (by decide) rfl t_X12_rule_19 ?_
    refine g_isub h t_X12_rule_22 ?_
    obtain rfl := Option.some.inj hD
    exact hR _ _ t_X12_rule_23 rfl
def D_X12_pit (p1 : Int32) : Wd → Option (Int32 × Wd) := fun w =>
  bd (wI w 119 7 0) fun w1 => bc (D_X12_pits w1) fun x3 w2 => bc (D_X12_in p1 0 (x3 - 1) w2) fun x5 w4 => if x5 = 0 then (bc (D_X12_lost w4) fun x7 w6 => some (x7, w6)) else (if ib p1 16 then (some (w4.1 120 p1.toNatClampNeg, w4)) else none)
set_option maxRecDepth 20000 in
theorem S_X12_pit {l0 : Launch} {ρ : Nat → Nat} {cs : Nat → ClassId} {G : va_G} (hρ : injN ρ) {p1 : Int32} {w : Wd} {rr : (Int32 × Wd)} (hD : D_X12_pit p1 w = some rr) : CtI l0 ρ cs G y_X12_pit prog_14_method_30_code 2 .int 1 [.ref (ρ 119), .int p1] w rr.1 rr.2 := by
  refine ctI_of hρ (by decide) (Nat.le_of_ble_eq_true rfl) (fun X hn h hR => ?_)
  unfold D_X12_pit at hD
  show gG ρ cs G X 0 [(0, .ref (ρ 119)), (1, .int p1)] [] w
  refine g_aload_n h 0 t_X12_pit_0 rfl ?_
  refine g_iconst (v := 0) h t_X12_pit_1 (by decide) ?_
  refine g_putI h 119 7 fl_12_109 fp_12_7 rfl (by decide) rfl t_X12_pit_2 hD (fun w1 hD => ?_)
  refine g_iload_n h 1 t_X12_pit_5 rfl ?_
  refine g_iconst (v := 0) h t_X12_pit_6 (by decide) ?_
  refine g_aload_n h 0 t_X12_pit_7 rfl ?_
  refine g_callVI h 119 (As := []) (st := [.int 0, .int p1]) my_X12_pits mi_X12_pits ml_12_214 rfl (by decide) rfl rfl rfl (Nat.le_of_ble_eq_true rfl) (by decide) t_X12_pit_8 hD (fun _ _ e => S_X12_pits hρ  e) (fun x3 w2 hD => ?_)
  refine g_iconst (v := 1) h t_X12_pit_11 (by decide) ?_
  refine g_isub h t_X12_pit_12 ?_
  refine g_callSI h (As := [.int p1, .int 0, .int (x3 - 1)]) (st := []) my_X12_in ms_X12_in ml_12_118 rfl rfl (Nat.le_of_ble_eq_true rfl) (by decide) t_X12_pit_13 hD (fun _ _ e => S_X12_in hρ  e) (fun x5 w4 hD => ?_)
  refine g_if_eq (tgt := 28) h t_X12_pit_16 (by decide) hD (fun hD => ?_) (fun hD => ?_)
  · refine g_aload_n h 0 t_X12_pit_28 rfl ?_
    refine g_callVI h 119 (As := []) (st := []) my_X12_lost mi_X12_lost ml_12_217 rfl (by decide) rfl rfl rfl (Nat.le_of_ble_eq_true rfl) (by decide) t_X12_pit_29 hD (fun _ _ e => S_X12_lost hρ  e) (fun x7 w6 hD => ?_)
    obtain rfl := Option.some.inj hD
    exact hR _ _ t_X12_pit_32 rfl
  · refine g_aload_n h 0 t_X12_pit_19 rfl ?_
    refine g_getR h 119 0 120 fl_12_9 rfl (by decide) rfl t_X12_pit_20 ?_
    refine g_iload_n h 1 t_X12_pit_23 rfl ?_
    refine g_iald h 120 rfl (by decide) t_X12_pit_24 hD (fun hD => ?_)
    refine g_goto (tgt := 32) h t_X12_pit_25 (by decide) ?_
    obtain rfl := Option.some.inj hD
    exact hR _ _ t_X12_pit_32 rfl
def D_X12_store (p1 : Int32) : Wd → Option (Int32 × Wd) := fun w =>
  bd (wI w 119 7 0) fun w1 => bc (D_X12_in p1 0 1 w1) fun x3 w2 => if x3 = 0 then (bc (D_X12_lost w2) fun x5 w4 => some (x5, w4)) else (if ib (12 + p1) 16 then (some (w2.1 120 (12 + p1).toNatClampNeg, w2)) else none)
set_option maxRecDepth 20000 in
theorem S_X12_store {l0 : Launch} {ρ : Nat → Nat} {cs : Nat → ClassId} {G : va_G} (hρ : injN ρ) {p1 : Int32} {w : Wd} {rr : (Int32 × Wd)} (hD : D_X12_store p1 w = some rr) : CtI l0 ρ cs G y_X12_store prog_14_method_31_code 2 .int 1 [.ref (ρ 119), .int p1] w rr.1 rr.2 := by
  refine ctI_of hρ (by decide) (Nat.le_of_ble_eq_true rfl) (fun X hn h hR => ?_)
  unfold D_X12_store at hD
  show gG ρ cs G X 0 [(0, .ref (ρ 119)), (1, .int p1)] [] w
  refine g_aload_n h 0 t_X12_store_0 rfl ?_
  refine g_iconst (v := 0) h t_X12_store_1 (by decide) ?_
  refine g_putI h 119 7 fl_12_109 fp_12_7 rfl (by decide) rfl t_X12_store_2 hD (fun w1 hD => ?_)
  refine g_iload_n h 1 t_X12_store_5 rfl ?_
  refine g_iconst (v := 0) h t_X12_store_6 (by decide) ?_
  refine g_iconst (v := 1) h t_X12_store_7 (by decide) ?_
  refine g_callSI h (As := [.int p1, .int 0, .int 1]) (st := []) my_X12_in ms_X12_in ml_12_118 rfl rfl (Nat.le_of_ble_eq_true rfl) (by decide) t_X12_store_8 hD (fun _ _ e => S_X12_in hρ  e) (fun x3 w2 hD => ?_)
  refine g_if_eq (tgt := 26) h t_X12_store_11 (by decide) hD (fun hD => ?_) (fun hD => ?_)
  · refine g_aload_n h 0 t_X12_store_26 rfl ?_
    refine g_callVI h 119 (As := []) (st := []) my_X12_lost mi_X12_lost ml_12_217 rfl (by decide) rfl rfl rfl (Nat.le_of_ble_eq_true rfl) (by decide) t_X12_store_27 hD (fun _ _ e => S_X12_lost hρ  e) (fun x5 w4 hD => ?_)
    obtain rfl := Option.some.inj hD
    exact hR _ _ t_X12_store_30 rfl
  · refine g_aload_n h 0 t_X12_store_14 rfl ?_
    refine g_getR h 119 0 120 fl_12_9 rfl (by decide) rfl t_X12_store_15 ?_
    refine g_bipush (v := 12) h t_X12_store_18 (by decide) ?_
    refine g_iload_n h 1 t_X12_store_20 rfl ?_
    refine g_iadd h t_X12_store_21 ?_
    refine g_iald h 120 rfl (by decide) t_X12_store_22 hD (fun hD => ?_)
    refine g_goto (tgt := 30) h t_X12_store_23 (by decide) ?_
    obtain rfl := Option.some.inj hD
    exact hR _ _ t_X12_store_30 rfl
def L_X12_seeds_6 (q1 : Nat) (x2 : Int32) (x3 : Int32) (k4 : Int32 → Wd → Option (Int32 × Wd)) : Nat → Int32 → Int32 → Wd → Option (Int32 × Wd)
  | 0, _, _, _ => none
  | n5 + 1, x6, x7, w8 =>
    if x3 ≤ x7 then (k4 x6 w8) else (if ib (x2 + x7) (ln q1) then (bd (x6 + (w8.1 q1 (x2 + x7).toNatClampNeg)) fun x9 => bd (x7 + 1) fun x10 => L_X12_seeds_6 q1 x2 x3 k4 n5 x9 x10 w8) else none)
def J_X12_seeds_x29_1  : Int32 → Wd → Option (Int32 × Wd) := fun x11 w12 =>
  some (x11, w12)
def D_X12_seeds (o1 : Nat) (p2 : Int32) (p3 : Int32) : Wd → Option (Int32 × Wd) := fun w =>
  L_X12_seeds_6 o1 p2 p3 J_X12_seeds_x29_1 FU 0 0 w
set_option maxRecDepth 20000 in
theorem Q_X12_seeds_6 {l0 : Launch} {ρ : Nat → Nat} {cs : Nat → ClassId} {G : va_G} {X : Cx} (hρ : injN ρ) (hn : X.2.2.2.2.2.2.2.2.2.2.1 = 6) (h : Okx l0 ρ cs G X prog_14_method_32_code "SowingBoardsModel" 0) {rr : (Int32 × Wd)} (hR : ∀ pc L, decode prog_14_method_32_code pc = .ok (.ireturn, 1) → narrow .int (.int rr.1) = .int rr.1 → gG ρ cs G X pc L [.int rr.1] rr.2) {q1 : Nat} (hq1 : isIA q1) {x2 : Int32} {x3 : Int32} {k4 : Int32 → Wd → Option (Int32 × Wd)} (hk4 : ∀ (z4 : Int32) (w1 : Wd), k4 z4 w1 = some rr → gG ρ cs G X 29 [(4, .int z4)] [] w1) : ∀ (n : Nat) (x6 : Int32) (x7 : Int32) (w : Wd), L_X12_seeds_6 q1 x2 x3 k4 n x6 x7 w = some rr → gG ρ cs G X 6 [(1, .ref (ρ q1)), (2, .int x2), (3, .int x3), (4, .int x6), (5, .int x7)] [] w := by
  intro n
  induction n with
  | zero =>
    intro x6 x7 w hD
    cases hD
  | succ n5 ih =>
    intro x6 x7 w8 hD
    unfold L_X12_seeds_6 at hD
    refine g_iload h 4 t_X12_seeds_6 rfl ?_
    refine g_iload_n h 2 t_X12_seeds_8 rfl ?_
    refine g_icmp_ge (tgt := 29) h t_X12_seeds_9 (by decide) hD (fun hD => ?_) (fun hD => ?_)
    · refine g_loc (L' := [(4, .int x6)]) h [3] rfl ?_
      exact hk4 x6 _ hD
    · refine g_iload h 3 t_X12_seeds_12 rfl ?_
      refine g_aload_n h 0 t_X12_seeds_14 rfl ?_
      refine g_iload_n h 1 t_X12_seeds_15 rfl ?_
      refine g_iload h 4 t_X12_seeds_16 rfl ?_
      refine g_iadd h t_X12_seeds_18 ?_
      refine g_iald h q1 (isIA_sh hq1) (isIA_lt hq1) t_X12_seeds_19 hD (fun hD => ?_)
      refine g_iadd h t_X12_seeds_20 ?_
      refine g_bdI hD (fun x9 hD => ?_)
      refine g_istore (L' := [(4, .int x9), (1, .ref (ρ q1)), (2, .int x2), (3, .int x3), (5, .int x7)]) h hn t_X12_seeds_21 (by decide) rfl ?_
      obtain ⟨x10, ex10, hD⟩ := bd_ex hD
      refine g_iinc (v := x10) (L' := [(5, .int x10), (4, .int x9), (1, .ref (ρ q1)), (2, .int x2), (3, .int x3)]) h hn t_X12_seeds_23 (k := 4) rfl (by rw [ex10]; rfl) (by decide) rfl ?_
      refine g_goto (tgt := 6) h t_X12_seeds_26 (by decide) ?_
      refine g_loc (L' := [(1, .ref (ρ q1)), (2, .int x2), (3, .int x3), (4, .int x9), (5, .int x10)]) h [2, 3, 4, 1, 0] rfl ?_
      exact ih x9 x10 _ hD
set_option maxRecDepth 20000 in
theorem S_X12_seeds {l0 : Launch} {ρ : Nat → Nat} {cs : Nat → ClassId} {G : va_G} (hρ : injN ρ) {o1 : Nat} (ho1 : isIA o1) {p2 : Int32} {p3 : Int32} {w : Wd} {rr : (Int32 × Wd)} (hD : D_X12_seeds o1 p2 p3 w = some rr) : CtI l0 ρ cs G y_X12_seeds prog_14_method_32_code 6 .int 0 [.ref (ρ 119), .ref (ρ o1), .int p2, .int p3] w rr.1 rr.2 := by
  refine ctI_of hρ (by decide) (Nat.le_of_ble_eq_true rfl) (fun X hn h hR => ?_)
  unfold D_X12_seeds at hD
  show gG ρ cs G X 0 [(0, .ref (ρ 119)), (1, .ref (ρ o1)), (2, .int p2), (3, .int p3)] [] w
  refine g_iconst (v := 0) h t_X12_seeds_0 (by decide) ?_
  refine g_istore (L' := [(4, .int 0), (0, .ref (ρ 119)), (1, .ref (ρ o1)), (2, .int p2), (3, .int p3)]) h hn t_X12_seeds_1 (by decide) rfl ?_
  refine g_iconst (v := 0) h t_X12_seeds_3 (by decide) ?_
  refine g_istore (L' := [(5, .int 0), (4, .int 0), (0, .ref (ρ 119)), (1, .ref (ρ o1)), (2, .int p2), (3, .int p3)]) h hn t_X12_seeds_4 (by decide) rfl ?_
  refine g_loc (L' := [(1, .ref (ρ o1)), (2, .int p2), (3, .int p3), (4, .int 0), (5, .int 0)]) h [3, 4, 5, 1, 0] rfl ?_
  refine Q_X12_seeds_6 hρ hn h hR ho1 ?_ _ _ _ _ hD
  · intro x11 w12 hD
    unfold J_X12_seeds_x29_1 at hD
    refine g_iload h 0 t_X12_seeds_29 rfl ?_
    obtain rfl := Option.some.inj hD
    exact hR _ _ t_X12_seeds_31 rfl
def J_X12_sheet_j91_1 (k21 : Int32 → Wd → Option (Int32 × Wd)) : Wd → Option (Int32 × Wd) := fun w25 =>
  k21 0 w25
def J_X12_sheet_j106_2 (r40 : Int32 → Int32 → Wd → Option (Int32 × Wd)) (x12 : Int32) (x11 : Int32) (x8 : Int32) : Int32 → Wd → Option (Int32 × Wd) := fun x19 w20 =>
  if ib x12 16 then bd (wI w20 120 x12.toNatClampNeg x19) (fun w22 => bd (x11 + x8) fun x23 => bd (x12 + 1) fun x24 => r40 x23 x24 w22) else none
def J_X12_sheet_j72_3 (r40 : Int32 → Int32 → Wd → Option (Int32 × Wd)) (x12 : Int32) (x11 : Int32) (x8 : Int32) (x6 : Int32) (x7 : Int32) : Int32 → Wd → Option (Int32 × Wd) := fun x16 w17 =>
  bd (J_X12_sheet_j106_2 (r40) x12 x11 x8) fun k21 => bd (J_X12_sheet_j91_1 k21) fun k26 => if x6 = 3 then (k26 w17) else (if x12 < x7 then (k21 (imax 0 (imin 9 x16)) w17) else (k26 w17))
def L_X12_sheet_40 (x6 : Int32) (x7 : Int32) (x8 : Int32) (k9 : Wd → Option (Int32 × Wd)) : Nat → Int32 → Int32 → Wd → Option (Int32 × Wd)
  | 0, _, _, _ => none
  | n10 + 1, x11, x12, w13 =>
    bc (D_X12_pits w13) fun x15 w14 => if x15 ≤ x12 then (k9 w14) else (bd (J_X12_sheet_j72_3 (L_X12_sheet_40 x6 x7 x8 k9 n10) x12 x11 x8 x6 x7) fun k18 => if x6 = 0 then (k18 x11.toInt8.toInt32 w14) else (if x6 = 1 then (k18 x11.toInt16.toInt32 w14) else (k18 x11 w14)))
def J_X12_sheet_x120_4 (p1 : Int32) : Wd → Option (Int32 × Wd) := fun w27 =>
  if p1 = 3 then (some ((-3), w27)) else (bc (D_X12_pits w27) fun x29 w28 => bc (D_X12_seeds 120 0 x29 w28) fun x31 w30 => some (x31, w30))
def J_X12_sheet_j34_5 (p1 : Int32) (p2 : Int32) (p4 : Int32) (p3 : Int32) : Wd → Option (Int32 × Wd) := fun w4 =>
  L_X12_sheet_40 p1 p2 p4 (J_X12_sheet_x120_4 p1) FU p3 0 w4
def D_X12_sheet (p1 : Int32) (p2 : Int32) (p3 : Int32) (p4 : Int32) : Wd → Option (Int32 × Wd) := fun w =>
  bd (wI w 119 7 0) fun w1 => bc (D_X12_in p1 0 3 w1) fun x3 w2 => if x3 = 0 then (some ((-1), w2)) else (if p2 ≤ 12 then (bd (J_X12_sheet_j34_5 p1 p2 p4 p3) fun k5 => if 3 ≤ p1 then (k5 w2) else (if 0 ≤ p2 then (k5 w2) else (some ((-2), w2)))) else (some ((-1), w2)))
set_option maxRecDepth 20000 in
theorem Q_X12_sheet_40 {l0 : Launch} {ρ : Nat → Nat} {cs : Nat → ClassId} {G : va_G} {X : Cx} (hρ : injN ρ) (hn : X.2.2.2.2.2.2.2.2.2.2.1 = 8) (h : Okx l0 ρ cs G X prog_14_method_33_code "SowingBoardsModel" 1) {rr : (Int32 × Wd)} (hR : ∀ pc L, decode prog_14_method_33_code pc = .ok (.ireturn, 1) → narrow .int (.int rr.1) = .int rr.1 → gG ρ cs G X pc L [.int rr.1] rr.2) {x6 : Int32} {x7 : Int32} {x8 : Int32} {k9 : Wd → Option (Int32 × Wd)} (hk9 : ∀ (w1 : Wd), k9 w1 = some rr → gG ρ cs G X 120 [(0, .ref (ρ 119)), (1, .int x6)] [] w1) : ∀ (n : Nat) (x11 : Int32) (x12 : Int32) (w : Wd), L_X12_sheet_40 x6 x7 x8 k9 n x11 x12 w = some rr → gG ρ cs G X 40 [(0, .ref (ρ 119)), (1, .int x6), (2, .int x7), (4, .int x8), (5, .int x11), (6, .int x12)] [] w := by
  intro n
  induction n with
  | zero =>
    intro x11 x12 w hD
    cases hD
  | succ n10 ih =>
    intro x11 x12 w13 hD
    unfold L_X12_sheet_40 at hD
    refine g_iload h 5 t_X12_sheet_40 rfl ?_
    refine g_aload_n h 0 t_X12_sheet_42 rfl ?_
    refine g_callVI h 119 (As := []) (st := [.int x12]) my_X12_pits mi_X12_pits ml_12_214 rfl (by decide) rfl rfl rfl (Nat.le_of_ble_eq_true rfl) (by decide) t_X12_sheet_43 hD (fun _ _ e => S_X12_pits hρ  e) (fun x15 w14 hD => ?_)
    refine g_icmp_ge (tgt := 120) h t_X12_sheet_46 (by decide) hD (fun hD => ?_) (fun hD => ?_)
    · refine g_loc (L' := [(0, .ref (ρ 119)), (1, .int x6)]) h [0, 1] rfl ?_
      exact hk9 _ hD
    · refine g_iload_n h 1 t_X12_sheet_49 rfl ?_
      refine g_join (P := fun k18 => ∀ (x16 : Int32) (w17 : Wd), k18 x16 w17 = some rr → gG ρ cs G X 72 [(0, .ref (ρ 119)), (1, .int x6), (2, .int x7), (4, .int x8), (5, .int x11), (6, .int x12)] [.int x16] w17) hD ?_ (fun k18 hk18 hD => ?_)
      · intro x16 w17 hD
        unfold J_X12_sheet_j72_3 at hD
        refine g_istore (L' := [(7, .int x16), (0, .ref (ρ 119)), (1, .int x6), (2, .int x7), (4, .int x8), (5, .int x11), (6, .int x12)]) h hn t_X12_sheet_72 (by decide) rfl ?_
        refine g_aload_n h 1 t_X12_sheet_74 rfl ?_
        refine g_getR h 119 0 120 fl_12_9 rfl (by decide) rfl t_X12_sheet_75 ?_
        refine g_iload h 6 t_X12_sheet_78 rfl ?_
        refine g_iload_n h 2 t_X12_sheet_80 rfl ?_
        refine g_iconst (v := 3) h t_X12_sheet_81 (by decide) ?_
        refine g_join (P := fun k21 => ∀ (x19 : Int32) (w20 : Wd), k21 x19 w20 = some rr → gG ρ cs G X 106 [(0, .ref (ρ 119)), (1, .int x6), (2, .int x7), (4, .int x8), (5, .int x11), (6, .int x12)] [.int x19, .int x12, .ref (ρ 120)] w20) hD ?_ (fun k21 hk21 hD => ?_)
        · intro x19 w20 hD
          unfold J_X12_sheet_j106_2 at hD
          refine g_iast h 120 rfl (by decide) t_X12_sheet_106 hD (fun w22 hD => ?_)
          refine g_iload h 4 t_X12_sheet_107 rfl ?_
          refine g_iload h 3 t_X12_sheet_109 rfl ?_
          refine g_iadd h t_X12_sheet_111 ?_
          refine g_bdI hD (fun x23 hD => ?_)
          refine g_istore (L' := [(5, .int x23), (0, .ref (ρ 119)), (1, .int x6), (2, .int x7), (4, .int x8), (6, .int x12)]) h hn t_X12_sheet_112 (by decide) rfl ?_
          obtain ⟨x24, ex24, hD⟩ := bd_ex hD
          refine g_iinc (v := x24) (L' := [(6, .int x24), (5, .int x23), (0, .ref (ρ 119)), (1, .int x6), (2, .int x7), (4, .int x8)]) h hn t_X12_sheet_114 (k := 5) rfl (by rw [ex24]; rfl) (by decide) rfl ?_
          refine g_goto (tgt := 40) h t_X12_sheet_117 (by decide) ?_
          refine g_loc (L' := [(0, .ref (ρ 119)), (1, .int x6), (2, .int x7), (4, .int x8), (5, .int x23), (6, .int x24)]) h [2, 3, 4, 5, 1, 0] rfl ?_
          exact ih x23 x24 _ hD
        · refine g_join (P := fun k26 => ∀ (w25 : Wd), k26 w25 = some rr → gG ρ cs G X 91 [(0, .ref (ρ 119)), (1, .int x6), (2, .int x7), (4, .int x8), (5, .int x11), (6, .int x12)] [.int x12, .ref (ρ 120)] w25) hD ?_ (fun k26 hk26 hD => ?_)
          · intro w25 hD
            unfold J_X12_sheet_j91_1 at hD
            refine g_iconst (v := 0) h t_X12_sheet_91 (by decide) ?_
            refine g_goto (tgt := 106) h t_X12_sheet_92 (by decide) ?_
            refine g_loc (L' := [(0, .ref (ρ 119)), (1, .int x6), (2, .int x7), (4, .int x8), (5, .int x11), (6, .int x12)]) h [0, 1, 2, 3, 4, 5] rfl ?_
            exact hk21 0 _ hD
          · refine g_icmp_eq (tgt := 91) h t_X12_sheet_82 (by decide) hD (fun hD => ?_) (fun hD => ?_)
            · refine g_loc (L' := [(0, .ref (ρ 119)), (1, .int x6), (2, .int x7), (4, .int x8), (5, .int x11), (6, .int x12)]) h [1, 2, 3, 4, 5, 6] rfl ?_
              exact hk26 _ hD
            · refine g_iload h 6 t_X12_sheet_85 rfl ?_
              refine g_iload_n h 3 t_X12_sheet_87 rfl ?_
              refine g_icmp_lt (tgt := 95) h t_X12_sheet_88 (by decide) hD (fun hD => ?_) (fun hD => ?_)
              · refine g_iconst (v := 0) h t_X12_sheet_95 (by decide) ?_
                refine g_bipush (v := 9) h t_X12_sheet_96 (by decide) ?_
                refine g_iload h 0 t_X12_sheet_98 rfl ?_
                refine g_mmin h (st := [.int 0, .int x12, .ref (ρ 120)]) (vtb_at 1618 (by decide +kernel) rfl) (Nat.le_of_ble_eq_true rfl) t_X12_sheet_100 ?_
                refine g_mmax h (st := [.int x12, .ref (ρ 120)]) (vtb_at 1619 (by decide +kernel) rfl) (Nat.le_of_ble_eq_true rfl) t_X12_sheet_103 ?_
                refine g_loc (L' := [(0, .ref (ρ 119)), (1, .int x6), (2, .int x7), (4, .int x8), (5, .int x11), (6, .int x12)]) h [1, 2, 3, 4, 5, 6] rfl ?_
                exact hk21 (imax 0 (imin 9 x16)) _ hD
              · refine g_loc (L' := [(0, .ref (ρ 119)), (1, .int x6), (2, .int x7), (4, .int x8), (5, .int x11), (6, .int x12)]) h [1, 2, 3, 4, 5, 6] rfl ?_
                exact hk26 _ hD
      · refine g_if_ne (tgt := 59) h t_X12_sheet_50 (by decide) hD (fun hD => ?_) (fun hD => ?_)
        · refine g_iload_n h 1 t_X12_sheet_59 rfl ?_
          refine g_iconst (v := 1) h t_X12_sheet_60 (by decide) ?_
          refine g_icmp_ne (tgt := 70) h t_X12_sheet_61 (by decide) hD (fun hD => ?_) (fun hD => ?_)
          · refine g_iload h 4 t_X12_sheet_70 rfl ?_
            refine g_loc (L' := [(0, .ref (ρ 119)), (1, .int x6), (2, .int x7), (4, .int x8), (5, .int x11), (6, .int x12)]) h [0, 1, 2, 3, 4, 5] rfl ?_
            exact hk18 x11 _ hD
          · refine g_iload h 4 t_X12_sheet_64 rfl ?_
            refine g_i2s h t_X12_sheet_66 ?_
            refine g_goto (tgt := 72) h t_X12_sheet_67 (by decide) ?_
            refine g_loc (L' := [(0, .ref (ρ 119)), (1, .int x6), (2, .int x7), (4, .int x8), (5, .int x11), (6, .int x12)]) h [0, 1, 2, 3, 4, 5] rfl ?_
            exact hk18 x11.toInt16.toInt32 _ hD
        · refine g_iload h 4 t_X12_sheet_53 rfl ?_
          refine g_i2b h t_X12_sheet_55 ?_
          refine g_goto (tgt := 72) h t_X12_sheet_56 (by decide) ?_
          refine g_loc (L' := [(0, .ref (ρ 119)), (1, .int x6), (2, .int x7), (4, .int x8), (5, .int x11), (6, .int x12)]) h [0, 1, 2, 3, 4, 5] rfl ?_
          exact hk18 x11.toInt8.toInt32 _ hD
set_option maxRecDepth 20000 in
theorem S_X12_sheet {l0 : Launch} {ρ : Nat → Nat} {cs : Nat → ClassId} {G : va_G} (hρ : injN ρ) {p1 : Int32} {p2 : Int32} {p3 : Int32} {p4 : Int32} {w : Wd} {rr : (Int32 × Wd)} (hD : D_X12_sheet p1 p2 p3 p4 w = some rr) : CtI l0 ρ cs G y_X12_sheet prog_14_method_33_code 8 .int 1 [.ref (ρ 119), .int p1, .int p2, .int p3, .int p4] w rr.1 rr.2 := by
  refine ctI_of hρ (by decide) (Nat.le_of_ble_eq_true rfl) (fun X hn h hR => ?_)
  unfold D_X12_sheet at hD
  show gG ρ cs G X 0 [(0, .ref (ρ 119)), (1, .int p1), (2, .int p2), (3, .int p3), (4, .int p4)] [] w
  refine g_aload_n h 0 t_X12_sheet_0 rfl ?_
  refine g_iconst (v := 0) h t_X12_sheet_1 (by decide) ?_
  refine g_putI h 119 7 fl_12_109 fp_12_7 rfl (by decide) rfl t_X12_sheet_2 hD (fun w1 hD => ?_)
  refine g_iload_n h 1 t_X12_sheet_5 rfl ?_
  refine g_iconst (v := 0) h t_X12_sheet_6 (by decide) ?_
  refine g_iconst (v := 3) h t_X12_sheet_7 (by decide) ?_
  refine g_callSI h (As := [.int p1, .int 0, .int 3]) (st := []) my_X12_in ms_X12_in ml_12_118 rfl rfl (Nat.le_of_ble_eq_true rfl) (by decide) t_X12_sheet_8 hD (fun _ _ e => S_X12_in hρ  e) (fun x3 w2 hD => ?_)
  refine g_if_eq (tgt := 20) h t_X12_sheet_11 (by decide) hD (fun hD => ?_) (fun hD => ?_)
  · refine g_iconst (v := (-1)) h t_X12_sheet_20 (by decide) ?_
    obtain rfl := Option.some.inj hD
    exact hR _ _ t_X12_sheet_21 rfl
  · refine g_iload_n h 2 t_X12_sheet_14 rfl ?_
    refine g_bipush (v := 12) h t_X12_sheet_15 (by decide) ?_
    refine g_icmp_le (tgt := 22) h t_X12_sheet_17 (by decide) hD (fun hD => ?_) (fun hD => ?_)
    · refine g_iload_n h 1 t_X12_sheet_22 rfl ?_
      refine g_iconst (v := 3) h t_X12_sheet_23 (by decide) ?_
      refine g_join (P := fun k5 => ∀ (w4 : Wd), k5 w4 = some rr → gG ρ cs G X 34 [(0, .ref (ρ 119)), (1, .int p1), (2, .int p2), (3, .int p3), (4, .int p4)] [] w4) hD ?_ (fun k5 hk5 hD => ?_)
      · intro w4 hD
        unfold J_X12_sheet_j34_5 at hD
        refine g_iload_n h 3 t_X12_sheet_34 rfl ?_
        refine g_istore (L' := [(5, .int p3), (0, .ref (ρ 119)), (1, .int p1), (2, .int p2), (3, .int p3), (4, .int p4)]) h hn t_X12_sheet_35 (by decide) rfl ?_
        refine g_iconst (v := 0) h t_X12_sheet_37 (by decide) ?_
        refine g_istore (L' := [(6, .int 0), (5, .int p3), (0, .ref (ρ 119)), (1, .int p1), (2, .int p2), (3, .int p3), (4, .int p4)]) h hn t_X12_sheet_38 (by decide) rfl ?_
        refine g_loc (L' := [(0, .ref (ρ 119)), (1, .int p1), (2, .int p2), (4, .int p4), (5, .int p3), (6, .int 0)]) h [2, 3, 4, 6, 1, 0] rfl ?_
        refine Q_X12_sheet_40 hρ hn h hR  ?_ _ _ _ _ hD
        · intro w27 hD
          unfold J_X12_sheet_x120_4 at hD
          refine g_iload_n h 1 t_X12_sheet_120 rfl ?_
          refine g_iconst (v := 3) h t_X12_sheet_121 (by decide) ?_
          refine g_icmp_ne (tgt := 130) h t_X12_sheet_122 (by decide) hD (fun hD => ?_) (fun hD => ?_)
          · refine g_aload_n h 0 t_X12_sheet_130 rfl ?_
            refine g_aload_n h 0 t_X12_sheet_131 rfl ?_
            refine g_getR h 119 0 120 fl_12_9 rfl (by decide) rfl t_X12_sheet_132 ?_
            refine g_iconst (v := 0) h t_X12_sheet_135 (by decide) ?_
            refine g_aload_n h 0 t_X12_sheet_136 rfl ?_
            refine g_callVI h 119 (As := []) (st := [.int 0, .ref (ρ 120), .ref (ρ 119)]) my_X12_pits mi_X12_pits ml_12_214 rfl (by decide) rfl rfl rfl (Nat.le_of_ble_eq_true rfl) (by decide) t_X12_sheet_137 hD (fun _ _ e => S_X12_pits hρ  e) (fun x29 w28 hD => ?_)
            refine g_callVI h 119 (As := [.ref (ρ 120), .int 0, .int x29]) (st := []) my_X12_seeds mi_X12_seeds ml_12_229 rfl (by decide) rfl rfl rfl (Nat.le_of_ble_eq_true rfl) (by decide) t_X12_sheet_140 hD (fun _ _ e => S_X12_seeds hρ (by decide) e) (fun x31 w30 hD => ?_)
            obtain rfl := Option.some.inj hD
            exact hR _ _ t_X12_sheet_143 rfl
          · refine g_bipush (v := (-3)) h t_X12_sheet_125 (by decide) ?_
            refine g_goto (tgt := 143) h t_X12_sheet_127 (by decide) ?_
            obtain rfl := Option.some.inj hD
            exact hR _ _ t_X12_sheet_143 rfl
      · refine g_icmp_ge (tgt := 34) h t_X12_sheet_24 (by decide) hD (fun hD => ?_) (fun hD => ?_)
        · refine g_loc (L' := [(0, .ref (ρ 119)), (1, .int p1), (2, .int p2), (3, .int p3), (4, .int p4)]) h [0, 1, 2, 3, 4] rfl ?_
          exact hk5 _ hD
        · refine g_iload_n h 2 t_X12_sheet_27 rfl ?_
          refine g_if_ge (tgt := 34) h t_X12_sheet_28 (by decide) hD (fun hD => ?_) (fun hD => ?_)
          · refine g_loc (L' := [(0, .ref (ρ 119)), (1, .int p1), (2, .int p2), (3, .int p3), (4, .int p4)]) h [0, 1, 2, 3, 4] rfl ?_
            exact hk5 _ hD
          · refine g_bipush (v := (-2)) h t_X12_sheet_31 (by decide) ?_
            obtain rfl := Option.some.inj hD
            exact hR _ _ t_X12_sheet_33 rfl
    · refine g_iconst (v := (-1)) h t_X12_sheet_20 (by decide) ?_
      obtain rfl := Option.some.inj hD
      exact hR _ _ t_X12_sheet_21 rfl
