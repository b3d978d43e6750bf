def y_X0_push : MethodName := ⟨"SowingBoards$History", "push", "(LSowingBoards$Position;)V"⟩
theorem t_X0_push_0 : decode prog_2_method_2_code 0 = .ok (.aload_n 0, 1) := by decide +kernel
theorem t_X0_push_1 : decode prog_2_method_2_code 1 = .ok (.getfield 11, 3) := by decide +kernel
theorem t_X0_push_4 : decode prog_2_method_2_code 4 = .ok (.aload_n 0, 1) := by decide +kernel
theorem t_X0_push_5 : decode prog_2_method_2_code 5 = .ok (.getfield 16, 3) := by decide +kernel
theorem t_X0_push_8 : decode prog_2_method_2_code 8 = .ok (.aaload, 1) := by decide +kernel
theorem t_X0_push_9 : decode prog_2_method_2_code 9 = .ok (.aload_n 1, 1) := by decide +kernel
theorem t_X0_push_10 : decode prog_2_method_2_code 10 = .ok (.invokevirtual 20, 3) := by decide +kernel
theorem t_X0_push_13 : decode prog_2_method_2_code 13 = .ok (.aload_n 0, 1) := by decide +kernel
theorem t_X0_push_14 : decode prog_2_method_2_code 14 = .ok (.aload_n 0, 1) := by decide +kernel
theorem t_X0_push_15 : decode prog_2_method_2_code 15 = .ok (.getfield 16, 3) := by decide +kernel
theorem t_X0_push_18 : decode prog_2_method_2_code 18 = .ok (.iconst 1, 1) := by decide +kernel
theorem t_X0_push_19 : decode prog_2_method_2_code 19 = .ok (.iadd, 1) := by decide +kernel
theorem t_X0_push_20 : decode prog_2_method_2_code 20 = .ok (.bipush 12, 2) := by decide +kernel
theorem t_X0_push_22 : decode prog_2_method_2_code 22 = .ok (.if_icmp .ge 12, 3) := by decide +kernel
theorem t_X0_push_25 : decode prog_2_method_2_code 25 = .ok (.aload_n 0, 1) := by decide +kernel
theorem t_X0_push_26 : decode prog_2_method_2_code 26 = .ok (.getfield 16, 3) := by decide +kernel
theorem t_X0_push_29 : decode prog_2_method_2_code 29 = .ok (.iconst 1, 1) := by decide +kernel
theorem t_X0_push_30 : decode prog_2_method_2_code 30 = .ok (.iadd, 1) := by decide +kernel
theorem t_X0_push_31 : decode prog_2_method_2_code 31 = .ok (.goto 4, 3) := by decide +kernel
theorem t_X0_push_34 : decode prog_2_method_2_code 34 = .ok (.iconst 0, 1) := by decide +kernel
theorem t_X0_push_35 : decode prog_2_method_2_code 35 = .ok (.putfield 16, 3) := by decide +kernel
theorem t_X0_push_38 : decode prog_2_method_2_code 38 = .ok (.aload_n 0, 1) := by decide +kernel
theorem t_X0_push_39 : decode prog_2_method_2_code 39 = .ok (.aload_n 0, 1) := by decide +kernel
theorem t_X0_push_40 : decode prog_2_method_2_code 40 = .ok (.getfield 24, 3) := by decide +kernel
theorem t_X0_push_43 : decode prog_2_method_2_code 43 = .ok (.iconst 1, 1) := by decide +kernel
theorem t_X0_push_44 : decode prog_2_method_2_code 44 = .ok (.iadd, 1) := by decide +kernel
theorem t_X0_push_45 : decode prog_2_method_2_code 45 = .ok (.bipush 12, 2) := by decide +kernel
theorem t_X0_push_47 : decode prog_2_method_2_code 47 = .ok (.invokestatic 27, 3) := by decide +kernel
theorem t_X0_push_50 : decode prog_2_method_2_code 50 = .ok (.putfield 24, 3) := by decide +kernel
theorem t_X0_push_53 : decode prog_2_method_2_code 53 = .ok (.return_, 1) := by decide +kernel
def y_X0_pop : MethodName := ⟨"SowingBoards$History", "pop", "(LSowingBoards$Position;)Z"⟩
theorem t_X0_pop_0 : decode prog_2_method_3_code 0 = .ok (.aload_n 0, 1) := by decide +kernel
theorem t_X0_pop_1 : decode prog_2_method_3_code 1 = .ok (.getfield 24, 3) := by decide +kernel
theorem t_X0_pop_4 : decode prog_2_method_3_code 4 = .ok (.ifCond .ne 5, 3) := by decide +kernel
theorem t_X0_pop_7 : decode prog_2_method_3_code 7 = .ok (.iconst 0, 1) := by decide +kernel
theorem t_X0_pop_8 : decode prog_2_method_3_code 8 = .ok (.ireturn, 1) := by decide +kernel
theorem t_X0_pop_9 : decode prog_2_method_3_code 9 = .ok (.aload_n 0, 1) := by decide +kernel
theorem t_X0_pop_10 : decode prog_2_method_3_code 10 = .ok (.aload_n 0, 1) := by decide +kernel
theorem t_X0_pop_11 : decode prog_2_method_3_code 11 = .ok (.getfield 16, 3) := by decide +kernel
theorem t_X0_pop_14 : decode prog_2_method_3_code 14 = .ok (.ifCond .le 12, 3) := by decide +kernel
theorem t_X0_pop_17 : decode prog_2_method_3_code 17 = .ok (.aload_n 0, 1) := by decide +kernel
theorem t_X0_pop_18 : decode prog_2_method_3_code 18 = .ok (.getfield 16, 3) := by decide +kernel
theorem t_X0_pop_21 : decode prog_2_method_3_code 21 = .ok (.iconst 1, 1) := by decide +kernel
theorem t_X0_pop_22 : decode prog_2_method_3_code 22 = .ok (.isub, 1) := by decide +kernel
theorem t_X0_pop_23 : decode prog_2_method_3_code 23 = .ok (.goto 5, 3) := by decide +kernel
theorem t_X0_pop_26 : decode prog_2_method_3_code 26 = .ok (.bipush 11, 2) := by decide +kernel
theorem t_X0_pop_28 : decode prog_2_method_3_code 28 = .ok (.putfield 16, 3) := by decide +kernel
theorem t_X0_pop_31 : decode prog_2_method_3_code 31 = .ok (.aload_n 0, 1) := by decide +kernel
theorem t_X0_pop_32 : decode prog_2_method_3_code 32 = .ok (.dup, 1) := by decide +kernel
theorem t_X0_pop_33 : decode prog_2_method_3_code 33 = .ok (.getfield 24, 3) := by decide +kernel
theorem t_X0_pop_36 : decode prog_2_method_3_code 36 = .ok (.iconst 1, 1) := by decide +kernel
theorem t_X0_pop_37 : decode prog_2_method_3_code 37 = .ok (.isub, 1) := by decide +kernel
theorem t_X0_pop_38 : decode prog_2_method_3_code 38 = .ok (.putfield 24, 3) := by decide +kernel
theorem t_X0_pop_41 : decode prog_2_method_3_code 41 = .ok (.aload_n 1, 1) := by decide +kernel
theorem t_X0_pop_42 : decode prog_2_method_3_code 42 = .ok (.aload_n 0, 1) := by decide +kernel
theorem t_X0_pop_43 : decode prog_2_method_3_code 43 = .ok (.getfield 11, 3) := by decide +kernel
theorem t_X0_pop_46 : decode prog_2_method_3_code 46 = .ok (.aload_n 0, 1) := by decide +kernel
theorem t_X0_pop_47 : decode prog_2_method_3_code 47 = .ok (.getfield 16, 3) := by decide +kernel
theorem t_X0_pop_50 : decode prog_2_method_3_code 50 = .ok (.aaload, 1) := by decide +kernel
theorem t_X0_pop_51 : decode prog_2_method_3_code 51 = .ok (.invokevirtual 20, 3) := by decide +kernel
theorem t_X0_pop_54 : decode prog_2_method_3_code 54 = .ok (.iconst 1, 1) := by decide +kernel
theorem t_X0_pop_55 : decode prog_2_method_3_code 55 = .ok (.ireturn, 1) := by decide +kernel
def y_X0_clear : MethodName := ⟨"SowingBoards$History", "clear", "()V"⟩
theorem t_X0_clear_0 : decode prog_2_method_4_code 0 = .ok (.aload_n 0, 1) := by decide +kernel
theorem t_X0_clear_1 : decode prog_2_method_4_code 1 = .ok (.iconst 0, 1) := by decide +kernel
theorem t_X0_clear_2 : decode prog_2_method_4_code 2 = .ok (.putfield 24, 3) := by decide +kernel
theorem t_X0_clear_5 : decode prog_2_method_4_code 5 = .ok (.return_, 1) := by decide +kernel
def y_X2_add : MethodName := ⟨"SowingBoards$Notes", "add", "(II)Z"⟩
theorem t_X2_add_0 : decode prog_4_method_2_code 0 = .ok (.aload_n 0, 1) := by decide +kernel
theorem t_X2_add_1 : decode prog_4_method_2_code 1 = .ok (.getfield 28, 3) := by decide +kernel
theorem t_X2_add_4 : decode prog_4_method_2_code 4 = .ok (.aload_n 0, 1) := by decide +kernel
theorem t_X2_add_5 : decode prog_4_method_2_code 5 = .ok (.getfield 24, 3) := by decide +kernel
theorem t_X2_add_8 : decode prog_4_method_2_code 8 = .ok (.if_icmp .lt 5, 3) := by decide +kernel
theorem t_X2_add_11 : decode prog_4_method_2_code 11 = .ok (.iconst 0, 1) := by decide +kernel
theorem t_X2_add_12 : decode prog_4_method_2_code 12 = .ok (.ireturn, 1) := by decide +kernel
theorem t_X2_add_13 : decode prog_4_method_2_code 13 = .ok (.aload_n 0, 1) := by decide +kernel
theorem t_X2_add_14 : decode prog_4_method_2_code 14 = .ok (.getfield 9, 3) := by decide +kernel
theorem t_X2_add_17 : decode prog_4_method_2_code 17 = .ok (.aload_n 0, 1) := by decide +kernel
theorem t_X2_add_18 : decode prog_4_method_2_code 18 = .ok (.getfield 28, 3) := by decide +kernel
theorem t_X2_add_21 : decode prog_4_method_2_code 21 = .ok (.iload_n 1, 1) := by decide +kernel
theorem t_X2_add_22 : decode prog_4_method_2_code 22 = .ok (.iastore, 1) := by decide +kernel
theorem t_X2_add_23 : decode prog_4_method_2_code 23 = .ok (.aload_n 0, 1) := by decide +kernel
theorem t_X2_add_24 : decode prog_4_method_2_code 24 = .ok (.getfield 15, 3) := by decide +kernel
theorem t_X2_add_27 : decode prog_4_method_2_code 27 = .ok (.aload_n 0, 1) := by decide +kernel
theorem t_X2_add_28 : decode prog_4_method_2_code 28 = .ok (.getfield 28, 3) := by decide +kernel
theorem t_X2_add_31 : decode prog_4_method_2_code 31 = .ok (.iload_n 2, 1) := by decide +kernel
theorem t_X2_add_32 : decode prog_4_method_2_code 32 = .ok (.iastore, 1) := by decide +kernel
theorem t_X2_add_33 : decode prog_4_method_2_code 33 = .ok (.aload_n 0, 1) := by decide +kernel
theorem t_X2_add_34 : decode prog_4_method_2_code 34 = .ok (.dup, 1) := by decide +kernel
theorem t_X2_add_35 : decode prog_4_method_2_code 35 = .ok (.getfield 28, 3) := by decide +kernel
theorem t_X2_add_38 : decode prog_4_method_2_code 38 = .ok (.iconst 1, 1) := by decide +kernel
theorem t_X2_add_39 : decode prog_4_method_2_code 39 = .ok (.iadd, 1) := by decide +kernel
theorem t_X2_add_40 : decode prog_4_method_2_code 40 = .ok (.putfield 28, 3) := by decide +kernel
theorem t_X2_add_43 : decode prog_4_method_2_code 43 = .ok (.iconst 1, 1) := by decide +kernel
theorem t_X2_add_44 : decode prog_4_method_2_code 44 = .ok (.ireturn, 1) := by decide +kernel
def y_X2_clear : MethodName := ⟨"SowingBoards$Notes", "clear", "()I"⟩
theorem t_X2_clear_0 : decode prog_4_method_3_code 0 = .ok (.aload_n 0, 1) := by decide +kernel
theorem t_X2_clear_1 : decode prog_4_method_3_code 1 = .ok (.getfield 28, 3) := by decide +kernel
theorem t_X2_clear_4 : decode prog_4_method_3_code 4 = .ok (.istore_n 1, 1) := by decide +kernel
theorem t_X2_clear_5 : decode prog_4_method_3_code 5 = .ok (.aload_n 0, 1) := by decide +kernel
theorem t_X2_clear_6 : decode prog_4_method_3_code 6 = .ok (.iconst 0, 1) := by decide +kernel
theorem t_X2_clear_7 : decode prog_4_method_3_code 7 = .ok (.putfield 28, 3) := by decide +kernel
theorem t_X2_clear_10 : decode prog_4_method_3_code 10 = .ok (.iload_n 1, 1) := by decide +kernel
theorem t_X2_clear_11 : decode prog_4_method_3_code 11 = .ok (.ireturn, 1) := by decide +kernel
def y_X3_clear : MethodName := ⟨"SowingBoards$Numbers", "clear", "()V"⟩
theorem t_X3_clear_0 : decode prog_5_method_2_code 0 = .ok (.aload_n 0, 1) := by decide +kernel
theorem t_X3_clear_1 : decode prog_5_method_2_code 1 = .ok (.iconst 0, 1) := by decide +kernel
theorem t_X3_clear_2 : decode prog_5_method_2_code 2 = .ok (.putfield 15, 3) := by decide +kernel
theorem t_X3_clear_5 : decode prog_5_method_2_code 5 = .ok (.return_, 1) := by decide +kernel
def y_X3_add : MethodName := ⟨"SowingBoards$Numbers", "add", "(J)V"⟩
theorem t_X3_add_0 : decode prog_5_method_3_code 0 = .ok (.aload_n 0, 1) := by decide +kernel
theorem t_X3_add_1 : decode prog_5_method_3_code 1 = .ok (.getfield 15, 3) := by decide +kernel
theorem t_X3_add_4 : decode prog_5_method_3_code 4 = .ok (.aload_n 0, 1) := by decide +kernel
theorem t_X3_add_5 : decode prog_5_method_3_code 5 = .ok (.getfield 9, 3) := by decide +kernel
theorem t_X3_add_8 : decode prog_5_method_3_code 8 = .ok (.arraylength, 1) := by decide +kernel
theorem t_X3_add_9 : decode prog_5_method_3_code 9 = .ok (.if_icmp .ge 23, 3) := by decide +kernel
theorem t_X3_add_12 : decode prog_5_method_3_code 12 = .ok (.aload_n 0, 1) := by decide +kernel
theorem t_X3_add_13 : decode prog_5_method_3_code 13 = .ok (.getfield 9, 3) := by decide +kernel
theorem t_X3_add_16 : decode prog_5_method_3_code 16 = .ok (.aload_n 0, 1) := by decide +kernel
theorem t_X3_add_17 : decode prog_5_method_3_code 17 = .ok (.getfield 15, 3) := by decide +kernel
theorem t_X3_add_20 : decode prog_5_method_3_code 20 = .ok (.lload_n 1, 1) := by decide +kernel
theorem t_X3_add_21 : decode prog_5_method_3_code 21 = .ok (.lastore, 1) := by decide +kernel
theorem t_X3_add_22 : decode prog_5_method_3_code 22 = .ok (.aload_n 0, 1) := by decide +kernel
theorem t_X3_add_23 : decode prog_5_method_3_code 23 = .ok (.dup, 1) := by decide +kernel
theorem t_X3_add_24 : decode prog_5_method_3_code 24 = .ok (.getfield 15, 3) := by decide +kernel
theorem t_X3_add_27 : decode prog_5_method_3_code 27 = .ok (.iconst 1, 1) := by decide +kernel
theorem t_X3_add_28 : decode prog_5_method_3_code 28 = .ok (.iadd, 1) := by decide +kernel
theorem t_X3_add_29 : decode prog_5_method_3_code 29 = .ok (.putfield 15, 3) := by decide +kernel
theorem t_X3_add_32 : decode prog_5_method_3_code 32 = .ok (.return_, 1) := by decide +kernel
def y_X3_tell : MethodName := ⟨"SowingBoards$Numbers", "tell", "(J)V"⟩
theorem t_X3_tell_0 : decode prog_5_method_4_code 0 = .ok (.aload_n 0, 1) := by decide +kernel
theorem t_X3_tell_1 : decode prog_5_method_4_code 1 = .ok (.invokevirtual 19, 3) := by decide +kernel
theorem t_X3_tell_4 : decode prog_5_method_4_code 4 = .ok (.aload_n 0, 1) := by decide +kernel
theorem t_X3_tell_5 : decode prog_5_method_4_code 5 = .ok (.lload_n 1, 1) := by decide +kernel
theorem t_X3_tell_6 : decode prog_5_method_4_code 6 = .ok (.invokevirtual 22, 3) := by decide +kernel
theorem t_X3_tell_9 : decode prog_5_method_4_code 9 = .ok (.return_, 1) := by decide +kernel
def y_X3_tell_ : MethodName := ⟨"SowingBoards$Numbers", "tell", "(JJ)V"⟩
theorem t_X3_tell__0 : decode prog_5_method_5_code 0 = .ok (.aload_n 0, 1) := by decide +kernel
theorem t_X3_tell__1 : decode prog_5_method_5_code 1 = .ok (.lload_n 1, 1) := by decide +kernel
theorem t_X3_tell__2 : decode prog_5_method_5_code 2 = .ok (.invokevirtual 26, 3) := by decide +kernel
theorem t_X3_tell__5 : decode prog_5_method_5_code 5 = .ok (.aload_n 0, 1) := by decide +kernel
theorem t_X3_tell__6 : decode prog_5_method_5_code 6 = .ok (.lload_n 3, 1) := by decide +kernel
theorem t_X3_tell__7 : decode prog_5_method_5_code 7 = .ok (.invokevirtual 22, 3) := by decide +kernel
theorem t_X3_tell__10 : decode prog_5_method_5_code 10 = .ok (.return_, 1) := by decide +kernel
def y_X3_tell__ : MethodName := ⟨"SowingBoards$Numbers", "tell", "(JJJ)V"⟩
theorem t_X3_tell___0 : decode prog_5_method_6_code 0 = .ok (.aload_n 0, 1) := by decide +kernel
theorem t_X3_tell___1 : decode prog_5_method_6_code 1 = .ok (.lload_n 1, 1) := by decide +kernel
theorem t_X3_tell___2 : decode prog_5_method_6_code 2 = .ok (.lload_n 3, 1) := by decide +kernel
theorem t_X3_tell___3 : decode prog_5_method_6_code 3 = .ok (.invokevirtual 29, 3) := by decide +kernel
theorem t_X3_tell___6 : decode prog_5_method_6_code 6 = .ok (.aload_n 0, 1) := by decide +kernel
theorem t_X3_tell___7 : decode prog_5_method_6_code 7 = .ok (.lload 5, 2) := by decide +kernel
theorem t_X3_tell___9 : decode prog_5_method_6_code 9 = .ok (.invokevirtual 22, 3) := by decide +kernel
theorem t_X3_tell___12 : decode prog_5_method_6_code 12 = .ok (.return_, 1) := by decide +kernel
def y_X9_at : MethodName := ⟨"SowingBoards$Signs", "at", "(I)I"⟩
theorem t_X9_at_0 : decode prog_11_method_5_code 0 = .ok (.iload_n 1, 1) := by decide +kernel
theorem t_X9_at_1 : decode prog_11_method_5_code 1 = .ok (.ifCond .lt 20, 3) := by decide +kernel
theorem t_X9_at_4 : decode prog_11_method_5_code 4 = .ok (.iload_n 1, 1) := by decide +kernel
theorem t_X9_at_5 : decode prog_11_method_5_code 5 = .ok (.aload_n 0, 1) := by decide +kernel
theorem t_X9_at_6 : decode prog_11_method_5_code 6 = .ok (.getfield 13, 3) := by decide +kernel
theorem t_X9_at_9 : decode prog_11_method_5_code 9 = .ok (.if_icmp .ge 12, 3) := by decide +kernel
theorem t_X9_at_12 : decode prog_11_method_5_code 12 = .ok (.aload_n 0, 1) := by decide +kernel
theorem t_X9_at_13 : decode prog_11_method_5_code 13 = .ok (.getfield 9, 3) := by decide +kernel
theorem t_X9_at_16 : decode prog_11_method_5_code 16 = .ok (.iload_n 1, 1) := by decide +kernel
theorem t_X9_at_17 : decode prog_11_method_5_code 17 = .ok (.iaload, 1) := by decide +kernel
theorem t_X9_at_18 : decode prog_11_method_5_code 18 = .ok (.goto 4, 3) := by decide +kernel
theorem t_X9_at_21 : decode prog_11_method_5_code 21 = .ok (.iconst 0, 1) := by decide +kernel
theorem t_X9_at_22 : decode prog_11_method_5_code 22 = .ok (.ireturn, 1) := by decide +kernel
def y_X8_clear : MethodName := ⟨"SowingBoards$Shelf", "clear", "()V"⟩
theorem t_X8_clear_0 : decode prog_10_method_2_code 0 = .ok (.aload_n 0, 1) := by decide +kernel
theorem t_X8_clear_1 : decode prog_10_method_2_code 1 = .ok (.iconst 0, 1) := by decide +kernel
theorem t_X8_clear_2 : decode prog_10_method_2_code 2 = .ok (.putfield 15, 3) := by decide +kernel
theorem t_X8_clear_5 : decode prog_10_method_2_code 5 = .ok (.return_, 1) := by decide +kernel
def y_X8_isAt : MethodName := ⟨"SowingBoards$Shelf", "isAt", "(ILSowingBoards$Position;)Z"⟩
theorem t_X8_isAt_0 : decode prog_10_method_6_code 0 = .ok (.iload_n 1, 1) := by decide +kernel
theorem t_X8_isAt_1 : decode prog_10_method_6_code 1 = .ok (.bipush 15, 2) := by decide +kernel
theorem t_X8_isAt_3 : decode prog_10_method_6_code 3 = .ok (.imul, 1) := by decide +kernel
theorem t_X8_isAt_4 : decode prog_10_method_6_code 4 = .ok (.istore_n 3, 1) := by decide +kernel
theorem t_X8_isAt_5 : decode prog_10_method_6_code 5 = .ok (.iconst 0, 1) := by decide +kernel
theorem t_X8_isAt_6 : decode prog_10_method_6_code 6 = .ok (.istore 4, 2) := by decide +kernel
theorem t_X8_isAt_8 : decode prog_10_method_6_code 8 = .ok (.iload 4, 2) := by decide +kernel
theorem t_X8_isAt_10 : decode prog_10_method_6_code 10 = .ok (.bipush 12, 2) := by decide +kernel
theorem t_X8_isAt_12 : decode prog_10_method_6_code 12 = .ok (.if_icmp .ge 30, 3) := by decide +kernel
theorem t_X8_isAt_15 : decode prog_10_method_6_code 15 = .ok (.aload_n 0, 1) := by decide +kernel
theorem t_X8_isAt_16 : decode prog_10_method_6_code 16 = .ok (.getfield 11, 3) := by decide +kernel
theorem t_X8_isAt_19 : decode prog_10_method_6_code 19 = .ok (.iload_n 3, 1) := by decide +kernel
theorem t_X8_isAt_20 : decode prog_10_method_6_code 20 = .ok (.iload 4, 2) := by decide +kernel
theorem t_X8_isAt_22 : decode prog_10_method_6_code 22 = .ok (.iadd, 1) := by decide +kernel
theorem t_X8_isAt_23 : decode prog_10_method_6_code 23 = .ok (.iaload, 1) := by decide +kernel
theorem t_X8_isAt_24 : decode prog_10_method_6_code 24 = .ok (.aload_n 2, 1) := by decide +kernel
theorem t_X8_isAt_25 : decode prog_10_method_6_code 25 = .ok (.getfield 27, 3) := by decide +kernel
theorem t_X8_isAt_28 : decode prog_10_method_6_code 28 = .ok (.iload 4, 2) := by decide +kernel
theorem t_X8_isAt_30 : decode prog_10_method_6_code 30 = .ok (.iaload, 1) := by decide +kernel
theorem t_X8_isAt_31 : decode prog_10_method_6_code 31 = .ok (.if_icmp .eq 5, 3) := by decide +kernel
theorem t_X8_isAt_34 : decode prog_10_method_6_code 34 = .ok (.iconst 0, 1) := by decide +kernel
theorem t_X8_isAt_35 : decode prog_10_method_6_code 35 = .ok (.ireturn, 1) := by decide +kernel
theorem t_X8_isAt_36 : decode prog_10_method_6_code 36 = .ok (.iinc 4 1, 3) := by decide +kernel
theorem t_X8_isAt_39 : decode prog_10_method_6_code 39 = .ok (.goto (-31), 3) := by decide +kernel
theorem t_X8_isAt_42 : decode prog_10_method_6_code 42 = .ok (.aload_n 0, 1) := by decide +kernel
theorem t_X8_isAt_43 : decode prog_10_method_6_code 43 = .ok (.getfield 11, 3) := by decide +kernel
theorem t_X8_isAt_46 : decode prog_10_method_6_code 46 = .ok (.iload_n 3, 1) := by decide +kernel
theorem t_X8_isAt_47 : decode prog_10_method_6_code 47 = .ok (.bipush 12, 2) := by decide +kernel
theorem t_X8_isAt_49 : decode prog_10_method_6_code 49 = .ok (.iadd, 1) := by decide +kernel
theorem t_X8_isAt_50 : decode prog_10_method_6_code 50 = .ok (.iaload, 1) := by decide +kernel
theorem t_X8_isAt_51 : decode prog_10_method_6_code 51 = .ok (.aload_n 2, 1) := by decide +kernel
theorem t_X8_isAt_52 : decode prog_10_method_6_code 52 = .ok (.getfield 38, 3) := by decide +kernel
theorem t_X8_isAt_55 : decode prog_10_method_6_code 55 = .ok (.iconst 0, 1) := by decide +kernel
theorem t_X8_isAt_56 : decode prog_10_method_6_code 56 = .ok (.iaload, 1) := by decide +kernel
theorem t_X8_isAt_57 : decode prog_10_method_6_code 57 = .ok (.if_icmp .ne 45, 3) := by decide +kernel
theorem t_X8_isAt_60 : decode prog_10_method_6_code 60 = .ok (.aload_n 0, 1) := by decide +kernel
theorem t_X8_isAt_61 : decode prog_10_method_6_code 61 = .ok (.getfield 11, 3) := by decide +kernel
theorem t_X8_isAt_64 : decode prog_10_method_6_code 64 = .ok (.iload_n 3, 1) := by decide +kernel
theorem t_X8_isAt_65 : decode prog_10_method_6_code 65 = .ok (.bipush 12, 2) := by decide +kernel
theorem t_X8_isAt_67 : decode prog_10_method_6_code 67 = .ok (.iadd, 1) := by decide +kernel
theorem t_X8_isAt_68 : decode prog_10_method_6_code 68 = .ok (.iconst 1, 1) := by decide +kernel
theorem t_X8_isAt_69 : decode prog_10_method_6_code 69 = .ok (.iadd, 1) := by decide +kernel
theorem t_X8_isAt_70 : decode prog_10_method_6_code 70 = .ok (.iaload, 1) := by decide +kernel
theorem t_X8_isAt_71 : decode prog_10_method_6_code 71 = .ok (.aload_n 2, 1) := by decide +kernel
theorem t_X8_isAt_72 : decode prog_10_method_6_code 72 = .ok (.getfield 38, 3) := by decide +kernel
theorem t_X8_isAt_75 : decode prog_10_method_6_code 75 = .ok (.iconst 1, 1) := by decide +kernel
theorem t_X8_isAt_76 : decode prog_10_method_6_code 76 = .ok (.iaload, 1) := by decide +kernel
theorem t_X8_isAt_77 : decode prog_10_method_6_code 77 = .ok (.if_icmp .ne 25, 3) := by decide +kernel
theorem t_X8_isAt_80 : decode prog_10_method_6_code 80 = .ok (.aload_n 0, 1) := by decide +kernel
theorem t_X8_isAt_81 : decode prog_10_method_6_code 81 = .ok (.getfield 11, 3) := by decide +kernel
theorem t_X8_isAt_84 : decode prog_10_method_6_code 84 = .ok (.iload_n 3, 1) := by decide +kernel
theorem t_X8_isAt_85 : decode prog_10_method_6_code 85 = .ok (.bipush 12, 2) := by decide +kernel
theorem t_X8_isAt_87 : decode prog_10_method_6_code 87 = .ok (.iadd, 1) := by decide +kernel
theorem t_X8_isAt_88 : decode prog_10_method_6_code 88 = .ok (.iconst 2, 1) := by decide +kernel
theorem t_X8_isAt_89 : decode prog_10_method_6_code 89 = .ok (.iadd, 1) := by decide +kernel
theorem t_X8_isAt_90 : decode prog_10_method_6_code 90 = .ok (.iaload, 1) := by decide +kernel
theorem t_X8_isAt_91 : decode prog_10_method_6_code 91 = .ok (.aload_n 2, 1) := by decide +kernel
theorem t_X8_isAt_92 : decode prog_10_method_6_code 92 = .ok (.getfield 41, 3) := by decide +kernel
theorem t_X8_isAt_95 : decode prog_10_method_6_code 95 = .ok (.if_icmp .ne 7, 3) := by decide +kernel
theorem t_X8_isAt_98 : decode prog_10_method_6_code 98 = .ok (.iconst 1, 1) := by decide +kernel
theorem t_X8_isAt_99 : decode prog_10_method_6_code 99 = .ok (.goto 4, 3) := by decide +kernel
theorem t_X8_isAt_102 : decode prog_10_method_6_code 102 = .ok (.iconst 0, 1) := by decide +kernel
theorem t_X8_isAt_103 : decode prog_10_method_6_code 103 = .ok (.ireturn, 1) := by decide +kernel
def y_X8_find : MethodName := ⟨"SowingBoards$Shelf", "find", "(LSowingBoards$Position;)I"⟩
theorem t_X8_find_0 : decode prog_10_method_5_code 0 = .ok (.iconst 0, 1) := by decide +kernel
theorem t_X8_find_1 : decode prog_10_method_5_code 1 = .ok (.istore_n 2, 1) := by decide +kernel
theorem t_X8_find_2 : decode prog_10_method_5_code 2 = .ok (.iload_n 2, 1) := by decide +kernel
theorem t_X8_find_3 : decode prog_10_method_5_code 3 = .ok (.aload_n 0, 1) := by decide +kernel
theorem t_X8_find_4 : decode prog_10_method_5_code 4 = .ok (.getfield 15, 3) := by decide +kernel
theorem t_X8_find_7 : decode prog_10_method_5_code 7 = .ok (.if_icmp .ge 20, 3) := by decide +kernel
theorem t_X8_find_10 : decode prog_10_method_5_code 10 = .ok (.aload_n 0, 1) := by decide +kernel
theorem t_X8_find_11 : decode prog_10_method_5_code 11 = .ok (.iload_n 2, 1) := by decide +kernel
theorem t_X8_find_12 : decode prog_10_method_5_code 12 = .ok (.aload_n 1, 1) := by decide +kernel
theorem t_X8_find_13 : decode prog_10_method_5_code 13 = .ok (.invokevirtual 44, 3) := by decide +kernel
theorem t_X8_find_16 : decode prog_10_method_5_code 16 = .ok (.ifCond .eq 5, 3) := by decide +kernel
theorem t_X8_find_19 : decode prog_10_method_5_code 19 = .ok (.iload_n 2, 1) := by decide +kernel
theorem t_X8_find_20 : decode prog_10_method_5_code 20 = .ok (.ireturn, 1) := by decide +kernel
theorem t_X8_find_21 : decode prog_10_method_5_code 21 = .ok (.iinc 2 1, 3) := by decide +kernel
theorem t_X8_find_24 : decode prog_10_method_5_code 24 = .ok (.goto (-22), 3) := by decide +kernel
theorem t_X8_find_27 : decode prog_10_method_5_code 27 = .ok (.iconst (-1), 1) := by decide +kernel
theorem t_X8_find_28 : decode prog_10_method_5_code 28 = .ok (.ireturn, 1) := by decide +kernel
def y_X8_put : MethodName := ⟨"SowingBoards$Shelf", "put", "(LSowingBoards$Position;)V"⟩
theorem t_X8_put_0 : decode prog_10_method_4_code 0 = .ok (.aload_n 0, 1) := by decide +kernel
theorem t_X8_put_1 : decode prog_10_method_4_code 1 = .ok (.getfield 15, 3) := by decide +kernel
theorem t_X8_put_4 : decode prog_10_method_4_code 4 = .ok (.sipush 216, 3) := by decide +kernel
theorem t_X8_put_7 : decode prog_10_method_4_code 7 = .ok (.if_icmp .ge 83, 3) := by decide +kernel
theorem t_X8_put_10 : decode prog_10_method_4_code 10 = .ok (.aload_n 0, 1) := by decide +kernel
theorem t_X8_put_11 : decode prog_10_method_4_code 11 = .ok (.getfield 15, 3) := by decide +kernel
theorem t_X8_put_14 : decode prog_10_method_4_code 14 = .ok (.bipush 15, 2) := by decide +kernel
theorem t_X8_put_16 : decode prog_10_method_4_code 16 = .ok (.imul, 1) := by decide +kernel
theorem t_X8_put_17 : decode prog_10_method_4_code 17 = .ok (.istore_n 2, 1) := by decide +kernel
theorem t_X8_put_18 : decode prog_10_method_4_code 18 = .ok (.aload_n 1, 1) := by decide +kernel
theorem t_X8_put_19 : decode prog_10_method_4_code 19 = .ok (.getfield 27, 3) := by decide +kernel
theorem t_X8_put_22 : decode prog_10_method_4_code 22 = .ok (.iconst 0, 1) := by decide +kernel
theorem t_X8_put_23 : decode prog_10_method_4_code 23 = .ok (.aload_n 0, 1) := by decide +kernel
theorem t_X8_put_24 : decode prog_10_method_4_code 24 = .ok (.getfield 11, 3) := by decide +kernel
theorem t_X8_put_27 : decode prog_10_method_4_code 27 = .ok (.iload_n 2, 1) := by decide +kernel
theorem t_X8_put_28 : decode prog_10_method_4_code 28 = .ok (.bipush 12, 2) := by decide +kernel
theorem t_X8_put_30 : decode prog_10_method_4_code 30 = .ok (.invokestatic 32, 3) := by decide +kernel
theorem t_X8_put_33 : decode prog_10_method_4_code 33 = .ok (.aload_n 0, 1) := by decide +kernel
theorem t_X8_put_34 : decode prog_10_method_4_code 34 = .ok (.getfield 11, 3) := by decide +kernel
theorem t_X8_put_37 : decode prog_10_method_4_code 37 = .ok (.iload_n 2, 1) := by decide +kernel
theorem t_X8_put_38 : decode prog_10_method_4_code 38 = .ok (.bipush 12, 2) := by decide +kernel
theorem t_X8_put_40 : decode prog_10_method_4_code 40 = .ok (.iadd, 1) := by decide +kernel
theorem t_X8_put_41 : decode prog_10_method_4_code 41 = .ok (.aload_n 1, 1) := by decide +kernel
theorem t_X8_put_42 : decode prog_10_method_4_code 42 = .ok (.getfield 38, 3) := by decide +kernel
theorem t_X8_put_45 : decode prog_10_method_4_code 45 = .ok (.iconst 0, 1) := by decide +kernel
theorem t_X8_put_46 : decode prog_10_method_4_code 46 = .ok (.iaload, 1) := by decide +kernel
theorem t_X8_put_47 : decode prog_10_method_4_code 47 = .ok (.iastore, 1) := by decide +kernel
theorem t_X8_put_48 : decode prog_10_method_4_code 48 = .ok (.aload_n 0, 1) := by decide +kernel
theorem t_X8_put_49 : decode prog_10_method_4_code 49 = .ok (.getfield 11, 3) := by decide +kernel
theorem t_X8_put_52 : decode prog_10_method_4_code 52 = .ok (.iload_n 2, 1) := by decide +kernel
theorem t_X8_put_53 : decode prog_10_method_4_code 53 = .ok (.bipush 12, 2) := by decide +kernel
theorem t_X8_put_55 : decode prog_10_method_4_code 55 = .ok (.iadd, 1) := by decide +kernel
theorem t_X8_put_56 : decode prog_10_method_4_code 56 = .ok (.iconst 1, 1) := by decide +kernel
theorem t_X8_put_57 : decode prog_10_method_4_code 57 = .ok (.iadd, 1) := by decide +kernel
theorem t_X8_put_58 : decode prog_10_method_4_code 58 = .ok (.aload_n 1, 1) := by decide +kernel
theorem t_X8_put_59 : decode prog_10_method_4_code 59 = .ok (.getfield 38, 3) := by decide +kernel
theorem t_X8_put_62 : decode prog_10_method_4_code 62 = .ok (.iconst 1, 1) := by decide +kernel
theorem t_X8_put_63 : decode prog_10_method_4_code 63 = .ok (.iaload, 1) := by decide +kernel
theorem t_X8_put_64 : decode prog_10_method_4_code 64 = .ok (.iastore, 1) := by decide +kernel
theorem t_X8_put_65 : decode prog_10_method_4_code 65 = .ok (.aload_n 0, 1) := by decide +kernel
theorem t_X8_put_66 : decode prog_10_method_4_code 66 = .ok (.getfield 11, 3) := by decide +kernel
theorem t_X8_put_69 : decode prog_10_method_4_code 69 = .ok (.iload_n 2, 1) := by decide +kernel
theorem t_X8_put_70 : decode prog_10_method_4_code 70 = .ok (.bipush 12, 2) := by decide +kernel
theorem t_X8_put_72 : decode prog_10_method_4_code 72 = .ok (.iadd, 1) := by decide +kernel
theorem t_X8_put_73 : decode prog_10_method_4_code 73 = .ok (.iconst 2, 1) := by decide +kernel
theorem t_X8_put_74 : decode prog_10_method_4_code 74 = .ok (.iadd, 1) := by decide +kernel
theorem t_X8_put_75 : decode prog_10_method_4_code 75 = .ok (.aload_n 1, 1) := by decide +kernel
theorem t_X8_put_76 : decode prog_10_method_4_code 76 = .ok (.getfield 41, 3) := by decide +kernel
theorem t_X8_put_79 : decode prog_10_method_4_code 79 = .ok (.iastore, 1) := by decide +kernel
theorem t_X8_put_80 : decode prog_10_method_4_code 80 = .ok (.aload_n 0, 1) := by decide +kernel
theorem t_X8_put_81 : decode prog_10_method_4_code 81 = .ok (.dup, 1) := by decide +kernel
theorem t_X8_put_82 : decode prog_10_method_4_code 82 = .ok (.getfield 15, 3) := by decide +kernel
theorem t_X8_put_85 : decode prog_10_method_4_code 85 = .ok (.iconst 1, 1) := by decide +kernel
theorem t_X8_put_86 : decode prog_10_method_4_code 86 = .ok (.iadd, 1) := by decide +kernel
theorem t_X8_put_87 : decode prog_10_method_4_code 87 = .ok (.putfield 15, 3) := by decide +kernel
theorem t_X8_put_90 : decode prog_10_method_4_code 90 = .ok (.return_, 1) := by decide +kernel
def y_X8_putNew : MethodName := ⟨"SowingBoards$Shelf", "putNew", "(LSowingBoards$Position;)V"⟩
theorem t_X8_putNew_0 : decode prog_10_method_3_code 0 = .ok (.aload_n 0, 1) := by decide +kernel
theorem t_X8_putNew_1 : decode prog_10_method_3_code 1 = .ok (.aload_n 1, 1) := by decide +kernel
theorem t_X8_putNew_2 : decode prog_10_method_3_code 2 = .ok (.invokevirtual 19, 3) := by decide +kernel
theorem t_X8_putNew_5 : decode prog_10_method_3_code 5 = .ok (.ifCond .ge 8, 3) := by decide +kernel
theorem t_X8_putNew_8 : decode prog_10_method_3_code 8 = .ok (.aload_n 0, 1) := by decide +kernel
theorem t_X8_putNew_9 : decode prog_10_method_3_code 9 = .ok (.aload_n 1, 1) := by decide +kernel
theorem t_X8_putNew_10 : decode prog_10_method_3_code 10 = .ok (.invokevirtual 23, 3) := by decide +kernel
theorem t_X8_putNew_13 : decode prog_10_method_3_code 13 = .ok (.return_, 1) := by decide +kernel
def y_X9_addFour : MethodName := ⟨"SowingBoards$Signs", "addFour", "(I)Z"⟩
theorem t_X9_addFour_0 : decode prog_11_method_2_code 0 = .ok (.aload_n 0, 1) := by decide +kernel
theorem t_X9_addFour_1 : decode prog_11_method_2_code 1 = .ok (.getfield 13, 3) := by decide +kernel
theorem t_X9_addFour_4 : decode prog_11_method_2_code 4 = .ok (.iconst 4, 1) := by decide +kernel
theorem t_X9_addFour_5 : decode prog_11_method_2_code 5 = .ok (.iadd, 1) := by decide +kernel
theorem t_X9_addFour_6 : decode prog_11_method_2_code 6 = .ok (.bipush 80, 2) := by decide +kernel
theorem t_X9_addFour_8 : decode prog_11_method_2_code 8 = .ok (.if_icmp .le 5, 3) := by decide +kernel
theorem t_X9_addFour_11 : decode prog_11_method_2_code 11 = .ok (.iconst 0, 1) := by decide +kernel
theorem t_X9_addFour_12 : decode prog_11_method_2_code 12 = .ok (.ireturn, 1) := by decide +kernel
theorem t_X9_addFour_13 : decode prog_11_method_2_code 13 = .ok (.bipush 24, 2) := by decide +kernel
theorem t_X9_addFour_15 : decode prog_11_method_2_code 15 = .ok (.istore_n 2, 1) := by decide +kernel
theorem t_X9_addFour_16 : decode prog_11_method_2_code 16 = .ok (.iload_n 2, 1) := by decide +kernel
theorem t_X9_addFour_17 : decode prog_11_method_2_code 17 = .ok (.ifCond .lt 35, 3) := by decide +kernel
theorem t_X9_addFour_20 : decode prog_11_method_2_code 20 = .ok (.aload_n 0, 1) := by decide +kernel
theorem t_X9_addFour_21 : decode prog_11_method_2_code 21 = .ok (.getfield 9, 3) := by decide +kernel
theorem t_X9_addFour_24 : decode prog_11_method_2_code 24 = .ok (.aload_n 0, 1) := by decide +kernel
theorem t_X9_addFour_25 : decode prog_11_method_2_code 25 = .ok (.getfield 13, 3) := by decide +kernel
theorem t_X9_addFour_28 : decode prog_11_method_2_code 28 = .ok (.iload_n 1, 1) := by decide +kernel
theorem t_X9_addFour_29 : decode prog_11_method_2_code 29 = .ok (.iload_n 2, 1) := by decide +kernel
theorem t_X9_addFour_30 : decode prog_11_method_2_code 30 = .ok (.iushr, 1) := by decide +kernel
theorem t_X9_addFour_31 : decode prog_11_method_2_code 31 = .ok (.sipush 255, 3) := by decide +kernel
theorem t_X9_addFour_34 : decode prog_11_method_2_code 34 = .ok (.iand, 1) := by decide +kernel
theorem t_X9_addFour_35 : decode prog_11_method_2_code 35 = .ok (.iastore, 1) := by decide +kernel
theorem t_X9_addFour_36 : decode prog_11_method_2_code 36 = .ok (.aload_n 0, 1) := by decide +kernel
theorem t_X9_addFour_37 : decode prog_11_method_2_code 37 = .ok (.dup, 1) := by decide +kernel
theorem t_X9_addFour_38 : decode prog_11_method_2_code 38 = .ok (.getfield 13, 3) := by decide +kernel
theorem t_X9_addFour_41 : decode prog_11_method_2_code 41 = .ok (.iconst 1, 1) := by decide +kernel
theorem t_X9_addFour_42 : decode prog_11_method_2_code 42 = .ok (.iadd, 1) := by decide +kernel
theorem t_X9_addFour_43 : decode prog_11_method_2_code 43 = .ok (.putfield 13, 3) := by decide +kernel
theorem t_X9_addFour_46 : decode prog_11_method_2_code 46 = .ok (.iinc 2 (-8), 3) := by decide +kernel
theorem t_X9_addFour_49 : decode prog_11_method_2_code 49 = .ok (.goto (-33), 3) := by decide +kernel
theorem t_X9_addFour_52 : decode prog_11_method_2_code 52 = .ok (.iconst 1, 1) := by decide +kernel
theorem t_X9_addFour_53 : decode prog_11_method_2_code 53 = .ok (.ireturn, 1) := by decide +kernel
def y_X9_cut : MethodName := ⟨"SowingBoards$Signs", "cut", "(I)Z"⟩
theorem t_X9_cut_0 : decode prog_11_method_3_code 0 = .ok (.iload_n 1, 1) := by decide +kernel
theorem t_X9_cut_1 : decode prog_11_method_3_code 1 = .ok (.ifCond .lt 11, 3) := by decide +kernel
theorem t_X9_cut_4 : decode prog_11_method_3_code 4 = .ok (.iload_n 1, 1) := by decide +kernel
theorem t_X9_cut_5 : decode prog_11_method_3_code 5 = .ok (.aload_n 0, 1) := by decide +kernel
theorem t_X9_cut_6 : decode prog_11_method_3_code 6 = .ok (.getfield 13, 3) := by decide +kernel
theorem t_X9_cut_9 : decode prog_11_method_3_code 9 = .ok (.if_icmp .le 5, 3) := by decide +kernel
theorem t_X9_cut_12 : decode prog_11_method_3_code 12 = .ok (.iconst 0, 1) := by decide +kernel
theorem t_X9_cut_13 : decode prog_11_method_3_code 13 = .ok (.ireturn, 1) := by decide +kernel
theorem t_X9_cut_14 : decode prog_11_method_3_code 14 = .ok (.aload_n 0, 1) := by decide +kernel
theorem t_X9_cut_15 : decode prog_11_method_3_code 15 = .ok (.iload_n 1, 1) := by decide +kernel
theorem t_X9_cut_16 : decode prog_11_method_3_code 16 = .ok (.putfield 13, 3) := by decide +kernel
theorem t_X9_cut_19 : decode prog_11_method_3_code 19 = .ok (.iconst 1, 1) := by decide +kernel
theorem t_X9_cut_20 : decode prog_11_method_3_code 20 = .ok (.ireturn, 1) := by decide +kernel
def y_X9_clear : MethodName := ⟨"SowingBoards$Signs", "clear", "()V"⟩
theorem t_X9_clear_0 : decode prog_11_method_4_code 0 = .ok (.aload_n 0, 1) := by decide +kernel
theorem t_X9_clear_1 : decode prog_11_method_4_code 1 = .ok (.iconst 0, 1) := by decide +kernel
theorem t_X9_clear_2 : decode prog_11_method_4_code 2 = .ok (.putfield 13, 3) := by decide +kernel
theorem t_X9_clear_5 : decode prog_11_method_4_code 5 = .ok (.return_, 1) := by decide +kernel
def y_X9_digitAt : MethodName := ⟨"SowingBoards$Signs", "digitAt", "(I)I"⟩
theorem t_X9_digitAt_0 : decode prog_11_method_6_code 0 = .ok (.aload_n 0, 1) := by decide +kernel
theorem t_X9_digitAt_1 : decode prog_11_method_6_code 1 = .ok (.iload_n 1, 1) := by decide +kernel
theorem t_X9_digitAt_2 : decode prog_11_method_6_code 2 = .ok (.invokevirtual 17, 3) := by decide +kernel
theorem t_X9_digitAt_5 : decode prog_11_method_6_code 5 = .ok (.istore_n 2, 1) := by decide +kernel
theorem t_X9_digitAt_6 : decode prog_11_method_6_code 6 = .ok (.iload_n 2, 1) := by decide +kernel
theorem t_X9_digitAt_7 : decode prog_11_method_6_code 7 = .ok (.bipush 48, 2) := by decide +kernel
theorem t_X9_digitAt_9 : decode prog_11_method_6_code 9 = .ok (.if_icmp .lt 16, 3) := by decide +kernel
theorem t_X9_digitAt_12 : decode prog_11_method_6_code 12 = .ok (.iload_n 2, 1) := by decide +kernel
theorem t_X9_digitAt_13 : decode prog_11_method_6_code 13 = .ok (.bipush 57, 2) := by decide +kernel
theorem t_X9_digitAt_15 : decode prog_11_method_6_code 15 = .ok (.if_icmp .gt 10, 3) := by decide +kernel
theorem t_X9_digitAt_18 : decode prog_11_method_6_code 18 = .ok (.iload_n 2, 1) := by decide +kernel
theorem t_X9_digitAt_19 : decode prog_11_method_6_code 19 = .ok (.bipush 48, 2) := by decide +kernel
theorem t_X9_digitAt_21 : decode prog_11_method_6_code 21 = .ok (.isub, 1) := by decide +kernel
theorem t_X9_digitAt_22 : decode prog_11_method_6_code 22 = .ok (.goto 4, 3) := by decide +kernel
theorem t_X9_digitAt_25 : decode prog_11_method_6_code 25 = .ok (.iconst (-1), 1) := by decide +kernel
theorem t_X9_digitAt_26 : decode prog_11_method_6_code 26 = .ok (.ireturn, 1) := by decide +kernel
theorem fl_0_11 : FLk "SowingBoards$History" 11 0 0 := ⟨_, rfl, by decide, Or.inl (vtb_at 223 (by decide +kernel) rfl)⟩
theorem fl_0_16 : FLk "SowingBoards$History" 16 0 1 := ⟨_, rfl, by decide, Or.inl (vtb_at 224 (by decide +kernel) rfl)⟩
theorem fl_0_24 : FLk "SowingBoards$History" 24 0 2 := ⟨_, rfl, by decide, Or.inl (vtb_at 225 (by decide +kernel) rfl)⟩
theorem fl_2_9 : FLk "SowingBoards$Notes" 9 2 0 := ⟨_, rfl, by decide, Or.inl (vtb_at 447 (by decide +kernel) rfl)⟩
theorem fl_2_15 : FLk "SowingBoards$Notes" 15 2 1 := ⟨_, rfl, by decide, Or.inl (vtb_at 449 (by decide +kernel) rfl)⟩
theorem fl_2_24 : FLk "SowingBoards$Notes" 24 2 2 := ⟨_, rfl, by decide, Or.inl (vtb_at 451 (by decide +kernel) rfl)⟩
theorem fl_2_28 : FLk "SowingBoards$Notes" 28 2 3 := ⟨_, rfl, by decide, Or.inl (vtb_at 452 (by decide +kernel) rfl)⟩
theorem fl_3_9 : FLk "SowingBoards$Numbers" 9 3 0 := ⟨_, rfl, by decide, Or.inl (vtb_at 256 (by decide +kernel) rfl)⟩
theorem fl_3_15 : FLk "SowingBoards$Numbers" 15 3 1 := ⟨_, rfl, by decide, Or.inl (vtb_at 258 (by decide +kernel) rfl)⟩
theorem fl_8_11 : FLk "SowingBoards$Shelf" 11 8 0 := ⟨_, rfl, by decide, Or.inl (vtb_at 382 (by decide +kernel) rfl)⟩
theorem fl_8_15 : FLk "SowingBoards$Shelf" 15 8 1 := ⟨_, rfl, by decide, Or.inl (vtb_at 383 (by decide +kernel) rfl)⟩
theorem fl_8_27 : FLk "SowingBoards$Shelf" 27 5 0 := ⟨_, rfl, by decide, Or.inr ⟨"SowingBoards", vnl_at 183 (by decide +kernel) rfl⟩⟩
theorem fl_8_38 : FLk "SowingBoards$Shelf" 38 5 1 := ⟨_, rfl, by decide, Or.inr ⟨"SowingBoards", vnl_at 186 (by decide +kernel) rfl⟩⟩
theorem fl_8_41 : FLk "SowingBoards$Shelf" 41 5 3 := ⟨_, rfl, by decide, Or.inr ⟨"SowingBoards", vnl_at 197 (by decide +kernel) rfl⟩⟩
theorem fl_9_9 : FLk "SowingBoards$Signs" 9 9 0 := ⟨_, rfl, by decide, Or.inl (vtb_at 241 (by decide +kernel) rfl)⟩
theorem fl_9_13 : FLk "SowingBoards$Signs" 13 9 1 := ⟨_, rfl, by decide, Or.inl (vtb_at 242 (by decide +kernel) rfl)⟩
theorem fp_0_1 : FPk 0 1 "I" := ⟨_, rfl, rfl, rfl⟩
theorem fp_0_2 : FPk 0 2 "I" := ⟨_, rfl, rfl, rfl⟩
theorem fp_2_3 : FPk 2 3 "I" := ⟨_, rfl, rfl, rfl⟩
theorem fp_3_1 : FPk 3 1 "I" := ⟨_, rfl, rfl, rfl⟩
theorem fp_8_1 : FPk 8 1 "I" := ⟨_, rfl, rfl, rfl⟩
theorem fp_9_1 : FPk 9 1 "I" := ⟨_, rfl, rfl, rfl⟩
theorem my_X5_take : MY y_X5_take prog_7_method_2_code 2 none 1 := ⟨vtb_at 771 (by decide +kernel) rfl, vtb_at 140 (by decide +kernel) rfl, ⟨by decide, by decide, by decide +kernel⟩, by decide⟩
theorem mi_X5_take : MI y_X5_take := ⟨vtb_at 770 (by decide +kernel) rfl, vtb_at 27 (by decide +kernel) rfl⟩
theorem my_X3_clear : MY y_X3_clear prog_5_method_2_code 1 none 0 := ⟨vtb_at 835 (by decide +kernel) rfl, vtb_at 143 (by decide +kernel) rfl, ⟨by decide, by decide, by decide +kernel⟩, by decide⟩
theorem mi_X3_clear : MI y_X3_clear := ⟨vtb_at 834 (by decide +kernel) rfl, vtb_at 42 (by decide +kernel) rfl⟩
theorem my_X3_add : MY y_X3_add prog_5_method_3_code 3 none 1 := ⟨vtb_at 839 (by decide +kernel) rfl, vtb_at 143 (by decide +kernel) rfl, ⟨by decide, by decide, by decide +kernel⟩, by decide⟩
theorem mi_X3_add : MI y_X3_add := ⟨vtb_at 838 (by decide +kernel) rfl, vtb_at 43 (by decide +kernel) rfl⟩
theorem my_X3_tell : MY y_X3_tell prog_5_method_4_code 3 none 1 := ⟨vtb_at 831 (by decide +kernel) rfl, vtb_at 143 (by decide +kernel) rfl, ⟨by decide, by decide, by decide +kernel⟩, by decide⟩
theorem mi_X3_tell : MI y_X3_tell := ⟨vtb_at 830 (by decide +kernel) rfl, vtb_at 41 (by decide +kernel) rfl⟩
theorem my_X3_tell_ : MY y_X3_tell_ prog_5_method_5_code 5 none 2 := ⟨vtb_at 827 (by decide +kernel) rfl, vtb_at 143 (by decide +kernel) rfl, ⟨by decide, by decide, by decide +kernel⟩, by decide⟩
theorem mi_X3_tell_ : MI y_X3_tell_ := ⟨vtb_at 826 (by decide +kernel) rfl, vtb_at 40 (by decide +kernel) rfl⟩
theorem my_X8_isAt : MY y_X8_isAt prog_10_method_6_code 5 (some .boolean) 2 := ⟨vtb_at 1037 (by decide +kernel) rfl, vtb_at 147 (by decide +kernel) rfl, ⟨by decide, by decide, by decide +kernel⟩, by decide⟩
theorem mi_X8_isAt : MI y_X8_isAt := ⟨vtb_at 1036 (by decide +kernel) rfl, vtb_at 67 (by decide +kernel) rfl⟩
theorem my_X8_find : MY y_X8_find prog_10_method_5_code 3 (some .int) 1 := ⟨vtb_at 1033 (by decide +kernel) rfl, vtb_at 147 (by decide +kernel) rfl, ⟨by decide, by decide, by decide +kernel⟩, by decide⟩
theorem mi_X8_find : MI y_X8_find := ⟨vtb_at 1032 (by decide +kernel) rfl, vtb_at 66 (by decide +kernel) rfl⟩
theorem my_X8_put : MY y_X8_put prog_10_method_4_code 3 none 1 := ⟨vtb_at 1041 (by decide +kernel) rfl, vtb_at 147 (by decide +kernel) rfl, ⟨by decide, by decide, by decide +kernel⟩, by decide⟩
theorem mi_X8_put : MI y_X8_put := ⟨vtb_at 1040 (by decide +kernel) rfl, vtb_at 68 (by decide +kernel) rfl⟩
theorem my_X9_at : MY y_X9_at prog_11_method_5_code 2 (some .int) 1 := ⟨vtb_at 564 (by decide +kernel) rfl, vtb_at 142 (by decide +kernel) rfl, ⟨by decide, by decide, by decide +kernel⟩, by decide⟩
theorem mi_X9_at : MI y_X9_at := ⟨vtb_at 563 (by decide +kernel) rfl, vtb_at 7 (by decide +kernel) rfl⟩
theorem ml_0_20 : ML "SowingBoards$History" 20 y_X5_take := Or.inr ⟨"SowingBoards", vnl_at 768 (by decide +kernel) rfl⟩
theorem ml_3_19 : ML "SowingBoards$Numbers" 19 y_X3_clear := Or.inl (vtb_at 832 (by decide +kernel) rfl)
theorem ml_3_22 : ML "SowingBoards$Numbers" 22 y_X3_add := Or.inl (vtb_at 836 (by decide +kernel) rfl)
theorem ml_3_26 : ML "SowingBoards$Numbers" 26 y_X3_tell := Or.inl (vtb_at 828 (by decide +kernel) rfl)
theorem ml_3_29 : ML "SowingBoards$Numbers" 29 y_X3_tell_ := Or.inl (vtb_at 824 (by decide +kernel) rfl)
theorem ml_8_19 : ML "SowingBoards$Shelf" 19 y_X8_find := Or.inl (vtb_at 1030 (by decide +kernel) rfl)
theorem ml_8_23 : ML "SowingBoards$Shelf" 23 y_X8_put := Or.inl (vtb_at 1038 (by decide +kernel) rfl)
theorem ml_8_32 : Cond.methodLink "SowingBoards$Shelf" 32 arraycopyName ∈ vtb := vtb_at 1042 (by decide +kernel) rfl
theorem ml_8_44 : ML "SowingBoards$Shelf" 44 y_X8_isAt := Or.inl (vtb_at 1034 (by decide +kernel) rfl)
theorem ml_9_17 : ML "SowingBoards$Signs" 17 y_X9_at := Or.inl (vtb_at 561 (by decide +kernel) rfl)
def J_X0_push_j35_1  : Int32 → Wd → Option Wd := fun x3 w4 =>
  bd (wI w4 78 1 x3) fun w6 => bd (wI w6 78 2 (imin ((w6.1 78 2) + 1) 12)) fun w7 => some w7
def D_X0_push (o1 : Nat) : Wd → Option Wd := fun w =>
  if ib (w.1 78 1) 12 then bd (15 + 3 * (w.1 78 1).toNatClampNeg) (fun q1 => bv (D_X5_take q1 o1 w) fun w2 => bd J_X0_push_j35_1 fun k5 => if 12 ≤ ((w2.1 78 1) + 1) then (k5 0 w2) else (k5 ((w2.1 78 1) + 1) w2)) else none
set_option maxRecDepth 20000 in
theorem S_X0_push {l0 : Launch} {ρ : Nat → Nat} {cs : Nat → ClassId} {G : va_G} (hρ : injN ρ) {o1 : Nat} (ho1 : isPos o1) {w : Wd} {rr : Wd} (hD : D_X0_push o1 w = some rr) : CtV l0 ρ cs G y_X0_push prog_2_method_2_code 2 1 [.ref (ρ 78), .ref (ρ o1)] w rr := by
  refine ctV_of hρ (by decide) (Nat.le_of_ble_eq_true rfl) (fun X hn h hR => ?_)
  unfold D_X0_push at hD
  show gG ρ cs G X 0 [(0, .ref (ρ 78)), (1, .ref (ρ o1))] [] w
  refine g_aload_n h 0 t_X0_push_0 rfl ?_
  refine g_getR h 78 0 79 fl_0_11 rfl (by decide) rfl t_X0_push_1 ?_
  refine g_aload_n h 0 t_X0_push_4 rfl ?_
  refine g_getI h 78 1 fl_0_16 rfl (by decide) rfl t_X0_push_5 ?_
  refine g_pald h 79 rfl (by decide) t_X0_push_8 hD (fun q1 eq1 lq1 hD => ?_)
  have hq1 : isPos q1 := posA (by decide) (by decide) eq1 lq1
  refine g_aload_n h 1 t_X0_push_9 rfl ?_
  refine g_callVV h q1 (As := [.ref (ρ o1)]) (st := []) my_X5_take mi_X5_take ml_0_20 (isPos_sh hq1) (isPos_lt hq1) rfl rfl rfl (Nat.le_of_ble_eq_true rfl) (by decide) t_X0_push_10 hD (fun _ e => S_X5_take hρ hq1 ho1 e) (fun w2 hD => ?_)
  refine g_aload_n h 0 t_X0_push_13 rfl ?_
  refine g_aload_n h 0 t_X0_push_14 rfl ?_
  refine g_getI h 78 1 fl_0_16 rfl (by decide) rfl t_X0_push_15 ?_
  refine g_iconst (v := 1) h t_X0_push_18 (by decide) ?_
  refine g_iadd h t_X0_push_19 ?_
  refine g_bipush (v := 12) h t_X0_push_20 (by decide) ?_
  refine g_join (P := fun k5 => ∀ (x3 : Int32) (w4 : Wd), k5 x3 w4 = some rr → gG ρ cs G X 35 [(0, .ref (ρ 78))] [.int x3, .ref (ρ 78)] w4) hD ?_ (fun k5 hk5 hD => ?_)
  · intro x3 w4 hD
    unfold J_X0_push_j35_1 at hD
    refine g_putI h 78 1 fl_0_16 fp_0_1 rfl (by decide) rfl t_X0_push_35 hD (fun w6 hD => ?_)
    refine g_aload_n h 0 t_X0_push_38 rfl ?_
    refine g_aload_n h 0 t_X0_push_39 rfl ?_
    refine g_getI h 78 2 fl_0_24 rfl (by decide) rfl t_X0_push_40 ?_
    refine g_iconst (v := 1) h t_X0_push_43 (by decide) ?_
    refine g_iadd h t_X0_push_44 ?_
    refine g_bipush (v := 12) h t_X0_push_45 (by decide) ?_
    refine g_mmin h (st := [.ref (ρ 78)]) (vtb_at 773 (by decide +kernel) rfl) (Nat.le_of_ble_eq_true rfl) t_X0_push_47 ?_
    refine g_putI h 78 2 fl_0_24 fp_0_2 rfl (by decide) rfl t_X0_push_50 hD (fun w7 hD => ?_)
    obtain rfl := Option.some.inj hD
    exact hR _ _ t_X0_push_53
  · refine g_icmp_ge (tgt := 34) h t_X0_push_22 (by decide) hD (fun hD => ?_) (fun hD => ?_)
    · refine g_iconst (v := 0) h t_X0_push_34 (by decide) ?_
      refine g_loc (L' := [(0, .ref (ρ 78))]) h [0] rfl ?_
      exact hk5 0 _ hD
    · refine g_aload_n h 0 t_X0_push_25 rfl ?_
      refine g_getI h 78 1 fl_0_16 rfl (by decide) rfl t_X0_push_26 ?_
      refine g_iconst (v := 1) h t_X0_push_29 (by decide) ?_
      refine g_iadd h t_X0_push_30 ?_
      refine g_goto (tgt := 35) h t_X0_push_31 (by decide) ?_
      refine g_loc (L' := [(0, .ref (ρ 78))]) h [0] rfl ?_
      exact hk5 ((w2.1 78 1) + 1) _ hD
def J_X0_pop_j28_1 (o1 : Nat) : Int32 → Wd → Option (Int32 × Wd) := fun x1 w2 =>
  bd (wI w2 78 1 x1) fun w4 => bd (wI w4 78 2 ((w4.1 78 2) - 1)) fun w5 => if ib (w5.1 78 1) 12 then bd (15 + 3 * (w5.1 78 1).toNatClampNeg) (fun q6 => bv (D_X5_take o1 q6 w5) fun w7 => some (1, w7)) else none
def D_X0_pop (o1 : Nat) : Wd → Option (Int32 × Wd) := fun w =>
  if (w.1 78 2) = 0 then (some (0, w)) else (bd (J_X0_pop_j28_1 o1) fun k3 => if (w.1 78 1) ≤ 0 then (k3 11 w) else (k3 ((w.1 78 1) - 1) w))
set_option maxRecDepth 20000 in
theorem S_X0_pop {l0 : Launch} {ρ : Nat → Nat} {cs : Nat → ClassId} {G : va_G} (hρ : injN ρ) {o1 : Nat} (ho1 : isPos o1) {w : Wd} {rr : (Int32 × Wd)} (hD : D_X0_pop o1 w = some rr) : CtI l0 ρ cs G y_X0_pop prog_2_method_3_code 2 .boolean 1 [.ref (ρ 78), .ref (ρ o1)] w rr.1 rr.2 := by
  refine ctI_of hρ (by decide) (Nat.le_of_ble_eq_true rfl) (fun X hn h hR => ?_)
  unfold D_X0_pop at hD
  show gG ρ cs G X 0 [(0, .ref (ρ 78)), (1, .ref (ρ o1))] [] w
  refine g_aload_n h 0 t_X0_pop_0 rfl ?_
  refine g_getI h 78 2 fl_0_24 rfl (by decide) rfl t_X0_pop_1 ?_
  refine g_if_ne (tgt := 9) h t_X0_pop_4 (by decide) hD (fun hD => ?_) (fun hD => ?_)
  · refine g_aload_n h 0 t_X0_pop_9 rfl ?_
    refine g_aload_n h 0 t_X0_pop_10 rfl ?_
    refine g_getI h 78 1 fl_0_16 rfl (by decide) rfl t_X0_pop_11 ?_
    refine g_join (P := fun k3 => ∀ (x1 : Int32) (w2 : Wd), k3 x1 w2 = some rr → gG ρ cs G X 28 [(0, .ref (ρ 78)), (1, .ref (ρ o1))] [.int x1, .ref (ρ 78)] w2) hD ?_ (fun k3 hk3 hD => ?_)
    · intro x1 w2 hD
      unfold J_X0_pop_j28_1 at hD
      refine g_putI h 78 1 fl_0_16 fp_0_1 rfl (by decide) rfl t_X0_pop_28 hD (fun w4 hD => ?_)
      refine g_aload_n h 0 t_X0_pop_31 rfl ?_
      refine g_dup h t_X0_pop_32 rfl ?_
      refine g_getI h 78 2 fl_0_24 rfl (by decide) rfl t_X0_pop_33 ?_
      refine g_iconst (v := 1) h t_X0_pop_36 (by decide) ?_
      refine g_isub h t_X0_pop_37 ?_
      refine g_putI h 78 2 fl_0_24 fp_0_2 rfl (by decide) rfl t_X0_pop_38 hD (fun w5 hD => ?_)
      refine g_aload_n h 1 t_X0_pop_41 rfl ?_
      refine g_aload_n h 0 t_X0_pop_42 rfl ?_
      refine g_getR h 78 0 79 fl_0_11 rfl (by decide) rfl t_X0_pop_43 ?_
      refine g_aload_n h 0 t_X0_pop_46 rfl ?_
      refine g_getI h 78 1 fl_0_16 rfl (by decide) rfl t_X0_pop_47 ?_
      refine g_pald h 79 rfl (by decide) t_X0_pop_50 hD (fun q6 eq6 lq6 hD => ?_)
      have hq6 : isPos q6 := posA (by decide) (by decide) eq6 lq6
      refine g_callVV h o1 (As := [.ref (ρ q6)]) (st := []) my_X5_take mi_X5_take ml_0_20 (isPos_sh ho1) (isPos_lt ho1) rfl rfl rfl (Nat.le_of_ble_eq_true rfl) (by decide) t_X0_pop_51 hD (fun _ e => S_X5_take hρ ho1 hq6 e) (fun w7 hD => ?_)
      refine g_iconst (v := 1) h t_X0_pop_54 (by decide) ?_
      obtain rfl := Option.some.inj hD
      exact hR _ _ t_X0_pop_55 (b01_n rfl)
    · refine g_if_le (tgt := 26) h t_X0_pop_14 (by decide) hD (fun hD => ?_) (fun hD => ?_)
      · refine g_bipush (v := 11) h t_X0_pop_26 (by decide) ?_
        refine g_loc (L' := [(0, .ref (ρ 78)), (1, .ref (ρ o1))]) h [0, 1] rfl ?_
        exact hk3 11 _ hD
      · refine g_aload_n h 0 t_X0_pop_17 rfl ?_
        refine g_getI h 78 1 fl_0_16 rfl (by decide) rfl t_X0_pop_18 ?_
        refine g_iconst (v := 1) h t_X0_pop_21 (by decide) ?_
        refine g_isub h t_X0_pop_22 ?_
        refine g_goto (tgt := 28) h t_X0_pop_23 (by decide) ?_
        refine g_loc (L' := [(0, .ref (ρ 78)), (1, .ref (ρ o1))]) h [0, 1] rfl ?_
        exact hk3 ((w.1 78 1) - 1) _ hD
  · refine g_iconst (v := 0) h t_X0_pop_7 (by decide) ?_
    obtain rfl := Option.some.inj hD
    exact hR _ _ t_X0_pop_8 (b01_n rfl)
def D_X0_clear  : Wd → Option Wd := fun w =>
  bd (wI w 78 2 0) fun w1 => some w1
set_option maxRecDepth 20000 in
theorem S_X0_clear {l0 : Launch} {ρ : Nat → Nat} {cs : Nat → ClassId} {G : va_G} (hρ : injN ρ)  {w : Wd} {rr : Wd} (hD : D_X0_clear w = some rr) : CtV l0 ρ cs G y_X0_clear prog_2_method_4_code 1 0 [.ref (ρ 78)] w rr := by
  refine ctV_of hρ (by decide) (Nat.le_of_ble_eq_true rfl) (fun X hn h hR => ?_)
  unfold D_X0_clear at hD
  show gG ρ cs G X 0 [(0, .ref (ρ 78))] [] w
  refine g_aload_n h 0 t_X0_clear_0 rfl ?_
  refine g_iconst (v := 0) h t_X0_clear_1 (by decide) ?_
  refine g_putI h 78 2 fl_0_24 fp_0_2 rfl (by decide) rfl t_X0_clear_2 hD (fun w1 hD => ?_)
  obtain rfl := Option.some.inj hD
  exact hR _ _ t_X0_clear_5
def D_X2_add (o0 : Nat) (p1 : Int32) (p2 : Int32) : Wd → Option (Int32 × Wd) := fun w =>
  if (w.1 o0 3) < (w.1 o0 2) then (if ib (w.1 o0 3) 12 then bd (wI w (o0 + 1) (w.1 o0 3).toNatClampNeg p1) (fun w1 => if ib (w1.1 o0 3) 12 then bd (wI w1 (o0 + 2) (w1.1 o0 3).toNatClampNeg p2) (fun w2 => bd (wI w2 o0 3 ((w2.1 o0 3) + 1)) fun w3 => some (1, w3)) else none) else none) else (some (0, w))
set_option maxRecDepth 20000 in
theorem S_X2_add {l0 : Launch} {ρ : Nat → Nat} {cs : Nat → ClassId} {G : va_G} (hρ : injN ρ) {o0 : Nat} (ho0 : isNotes o0) {p1 : Int32} {p2 : Int32} {w : Wd} {rr : (Int32 × Wd)} (hD : D_X2_add o0 p1 p2 w = some rr) : CtI l0 ρ cs G y_X2_add prog_4_method_2_code 3 .boolean 0 [.ref (ρ o0), .int p1, .int p2] w rr.1 rr.2 := by
  refine ctI_of hρ (by decide) (Nat.le_of_ble_eq_true rfl) (fun X hn h hR => ?_)
  unfold D_X2_add at hD
  show gG ρ cs G X 0 [(0, .ref (ρ o0)), (1, .int p1), (2, .int p2)] [] w
  refine g_aload_n h 0 t_X2_add_0 rfl ?_
  refine g_getI h o0 3 fl_2_28 (isNotes_sh ho0) (isNotes_lt ho0) rfl t_X2_add_1 ?_
  refine g_aload_n h 0 t_X2_add_4 rfl ?_
  refine g_getI h o0 2 fl_2_24 (isNotes_sh ho0) (isNotes_lt ho0) rfl t_X2_add_5 ?_
  refine g_icmp_lt (tgt := 13) h t_X2_add_8 (by decide) hD (fun hD => ?_) (fun hD => ?_)
  · refine g_aload_n h 0 t_X2_add_13 rfl ?_
    refine g_getQ h o0 0 (o0 + 1) 1 (by decide) rfl fl_2_9 (isNotes_sh ho0) (isNotes_lt ho0) rfl t_X2_add_14 ?_
    refine g_aload_n h 0 t_X2_add_17 rfl ?_
    refine g_getI h o0 3 fl_2_28 (isNotes_sh ho0) (isNotes_lt ho0) rfl t_X2_add_18 ?_
    refine g_iload_n h 1 t_X2_add_21 rfl ?_
    refine g_iast h (o0 + 1) (isNotes_s1 ho0) (isNotes_l1 ho0) t_X2_add_22 hD (fun w1 hD => ?_)
    refine g_aload_n h 0 t_X2_add_23 rfl ?_
    refine g_getQ h o0 1 (o0 + 2) 2 (by decide) rfl fl_2_15 (isNotes_sh ho0) (isNotes_lt ho0) rfl t_X2_add_24 ?_
    refine g_aload_n h 0 t_X2_add_27 rfl ?_
    refine g_getI h o0 3 fl_2_28 (isNotes_sh ho0) (isNotes_lt ho0) rfl t_X2_add_28 ?_
    refine g_iload_n h 2 t_X2_add_31 rfl ?_
    refine g_iast h (o0 + 2) (isNotes_s2 ho0) (isNotes_l2 ho0) t_X2_add_32 hD (fun w2 hD => ?_)
    refine g_aload_n h 0 t_X2_add_33 rfl ?_
    refine g_dup h t_X2_add_34 rfl ?_
    refine g_getI h o0 3 fl_2_28 (isNotes_sh ho0) (isNotes_lt ho0) rfl t_X2_add_35 ?_
    refine g_iconst (v := 1) h t_X2_add_38 (by decide) ?_
    refine g_iadd h t_X2_add_39 ?_
    refine g_putI h o0 3 fl_2_28 fp_2_3 (isNotes_sh ho0) (isNotes_lt ho0) rfl t_X2_add_40 hD (fun w3 hD => ?_)
    refine g_iconst (v := 1) h t_X2_add_43 (by decide) ?_
    obtain rfl := Option.some.inj hD
    exact hR _ _ t_X2_add_44 (b01_n rfl)
  · refine g_iconst (v := 0) h t_X2_add_11 (by decide) ?_
    obtain rfl := Option.some.inj hD
    exact hR _ _ t_X2_add_12 (b01_n rfl)
def D_X2_clear (o0 : Nat) : Wd → Option (Int32 × Wd) := fun w =>
  bd (w.1 o0 3) fun x1 => bd (wI w o0 3 0) fun w2 => some (x1, w2)
set_option maxRecDepth 20000 in
theorem S_X2_clear {l0 : Launch} {ρ : Nat → Nat} {cs : Nat → ClassId} {G : va_G} (hρ : injN ρ) {o0 : Nat} (ho0 : isNotes o0) {w : Wd} {rr : (Int32 × Wd)} (hD : D_X2_clear o0 w = some rr) : CtI l0 ρ cs G y_X2_clear prog_4_method_3_code 2 .int 0 [.ref (ρ o0)] w rr.1 rr.2 := by
  refine ctI_of hρ (by decide) (Nat.le_of_ble_eq_true rfl) (fun X hn h hR => ?_)
  unfold D_X2_clear at hD
  show gG ρ cs G X 0 [(0, .ref (ρ o0))] [] w
  refine g_aload_n h 0 t_X2_clear_0 rfl ?_
  refine g_getI h o0 3 fl_2_28 (isNotes_sh ho0) (isNotes_lt ho0) rfl t_X2_clear_1 ?_
  refine g_bdI hD (fun x1 hD => ?_)
  refine g_istore_n (L' := [(1, .int x1), (0, .ref (ρ o0))]) h hn t_X2_clear_4 rfl (by decide) rfl ?_
  refine g_aload_n h 1 t_X2_clear_5 rfl ?_
  refine g_iconst (v := 0) h t_X2_clear_6 (by decide) ?_
  refine g_putI h o0 3 fl_2_28 fp_2_3 (isNotes_sh ho0) (isNotes_lt ho0) rfl t_X2_clear_7 hD (fun w2 hD => ?_)
  refine g_iload_n h 0 t_X2_clear_10 rfl ?_
  obtain rfl := Option.some.inj hD
  exact hR _ _ t_X2_clear_11 rfl
def D_X3_clear  : Wd → Option Wd := fun w =>
  bd (wI w 82 1 0) fun w1 => some w1
set_option maxRecDepth 20000 in
theorem S_X3_clear {l0 : Launch} {ρ : Nat → Nat} {cs : Nat → ClassId} {G : va_G} (hρ : injN ρ)  {w : Wd} {rr : Wd} (hD : D_X3_clear w = some rr) : CtV l0 ρ cs G y_X3_clear prog_5_method_2_code 1 0 [.ref (ρ 82)] w rr := by
  refine ctV_of hρ (by decide) (Nat.le_of_ble_eq_true rfl) (fun X hn h hR => ?_)
  unfold D_X3_clear at hD
  show gG ρ cs G X 0 [(0, .ref (ρ 82))] [] w
  refine g_aload_n h 0 t_X3_clear_0 rfl ?_
  refine g_iconst (v := 0) h t_X3_clear_1 (by decide) ?_
  refine g_putI h 82 1 fl_3_15 fp_3_1 rfl (by decide) rfl t_X3_clear_2 hD (fun w1 hD => ?_)
  obtain rfl := Option.some.inj hD
  exact hR _ _ t_X3_clear_5
def D_X3_add (p1 : Int64) : Wd → Option Wd := fun w =>
  if 20 ≤ (w.1 82 1) then (some w) else (if ib (w.1 82 1) 20 then bd (wJ w 83 (w.1 82 1).toNatClampNeg p1) (fun w1 => bd (wI w1 82 1 ((w1.1 82 1) + 1)) fun w2 => some w2) else none)
set_option maxRecDepth 20000 in
theorem S_X3_add {l0 : Launch} {ρ : Nat → Nat} {cs : Nat → ClassId} {G : va_G} (hρ : injN ρ) {p1 : Int64} {w : Wd} {rr : Wd} (hD : D_X3_add p1 w = some rr) : CtV l0 ρ cs G y_X3_add prog_5_method_3_code 3 0 [.ref (ρ 82), .long p1] w rr := by
  refine ctV_of hρ (by decide) (Nat.le_of_ble_eq_true rfl) (fun X hn h hR => ?_)
  unfold D_X3_add at hD
  show gG ρ cs G X 0 [(0, .ref (ρ 82)), (1, .long p1)] [] w
  refine g_aload_n h 0 t_X3_add_0 rfl ?_
  refine g_getI h 82 1 fl_3_15 rfl (by decide) rfl t_X3_add_1 ?_
  refine g_aload_n h 0 t_X3_add_4 rfl ?_
  refine g_getR h 82 0 83 fl_3_9 rfl (by decide) rfl t_X3_add_5 ?_
  refine g_alenJ (v := 20) h 83 rfl (by decide) (by decide) t_X3_add_8 ?_
  refine g_icmp_ge (tgt := 32) h t_X3_add_9 (by decide) hD (fun hD => ?_) (fun hD => ?_)
  · obtain rfl := Option.some.inj hD
    exact hR _ _ t_X3_add_32
  · refine g_aload_n h 0 t_X3_add_12 rfl ?_
    refine g_getR h 82 0 83 fl_3_9 rfl (by decide) rfl t_X3_add_13 ?_
    refine g_aload_n h 0 t_X3_add_16 rfl ?_
    refine g_getI h 82 1 fl_3_15 rfl (by decide) rfl t_X3_add_17 ?_
    refine g_lload_n h 1 t_X3_add_20 rfl ?_
    refine g_last h 83 rfl (by decide) t_X3_add_21 hD (fun w1 hD => ?_)
    refine g_aload_n h 0 t_X3_add_22 rfl ?_
    refine g_dup h t_X3_add_23 rfl ?_
    refine g_getI h 82 1 fl_3_15 rfl (by decide) rfl t_X3_add_24 ?_
    refine g_iconst (v := 1) h t_X3_add_27 (by decide) ?_
    refine g_iadd h t_X3_add_28 ?_
    refine g_putI h 82 1 fl_3_15 fp_3_1 rfl (by decide) rfl t_X3_add_29 hD (fun w2 hD => ?_)
    obtain rfl := Option.some.inj hD
    exact hR _ _ t_X3_add_32
def D_X3_tell (p1 : Int64) : Wd → Option Wd := fun w =>
  bv (D_X3_clear w) fun w1 => bv (D_X3_add p1 w1) fun w2 => some w2
set_option maxRecDepth 20000 in
theorem S_X3_tell {l0 : Launch} {ρ : Nat → Nat} {cs : Nat → ClassId} {G : va_G} (hρ : injN ρ) {p1 : Int64} {w : Wd} {rr : Wd} (hD : D_X3_tell p1 w = some rr) : CtV l0 ρ cs G y_X3_tell prog_5_method_4_code 3 1 [.ref (ρ 82), .long p1] w rr := by
  refine ctV_of hρ (by decide) (Nat.le_of_ble_eq_true rfl) (fun X hn h hR => ?_)
  unfold D_X3_tell at hD
  show gG ρ cs G X 0 [(0, .ref (ρ 82)), (1, .long p1)] [] w
  refine g_aload_n h 0 t_X3_tell_0 rfl ?_
  refine g_callVV h 82 (As := []) (st := []) my_X3_clear mi_X3_clear ml_3_19 rfl (by decide) rfl rfl rfl (Nat.le_of_ble_eq_true rfl) (by decide) t_X3_tell_1 hD (fun _ e => S_X3_clear hρ  e) (fun w1 hD => ?_)
  refine g_aload_n h 0 t_X3_tell_4 rfl ?_
  refine g_lload_n h 1 t_X3_tell_5 rfl ?_
  refine g_callVV h 82 (As := [.long p1]) (st := []) my_X3_add mi_X3_add ml_3_22 rfl (by decide) rfl rfl rfl (Nat.le_of_ble_eq_true rfl) (by decide) t_X3_tell_6 hD (fun _ e => S_X3_add hρ  e) (fun w2 hD => ?_)
  obtain rfl := Option.some.inj hD
  exact hR _ _ t_X3_tell_9
def D_X3_tell_ (p1 : Int64) (p2 : Int64) : Wd → Option Wd := fun w =>
  bv (D_X3_tell p1 w) fun w1 => bv (D_X3_add p2 w1) fun w2 => some w2
set_option maxRecDepth 20000 in
theorem S_X3_tell_ {l0 : Launch} {ρ : Nat → Nat} {cs : Nat → ClassId} {G : va_G} (hρ : injN ρ) {p1 : Int64} {p2 : Int64} {w : Wd} {rr : Wd} (hD : D_X3_tell_ p1 p2 w = some rr) : CtV l0 ρ cs G y_X3_tell_ prog_5_method_5_code 5 2 [.ref (ρ 82), .long p1, .long p2] w rr := by
  refine ctV_of hρ (by decide) (Nat.le_of_ble_eq_true rfl) (fun X hn h hR => ?_)
  unfold D_X3_tell_ at hD
  show gG ρ cs G X 0 [(0, .ref (ρ 82)), (1, .long p1), (3, .long p2)] [] w
  refine g_aload_n h 0 t_X3_tell__0 rfl ?_
  refine g_lload_n h 1 t_X3_tell__1 rfl ?_
  refine g_callVV h 82 (As := [.long p1]) (st := []) my_X3_tell mi_X3_tell ml_3_26 rfl (by decide) rfl rfl rfl (Nat.le_of_ble_eq_true rfl) (by decide) t_X3_tell__2 hD (fun _ e => S_X3_tell hρ  e) (fun w1 hD => ?_)
  refine g_aload_n h 0 t_X3_tell__5 rfl ?_
  refine g_lload_n h 2 t_X3_tell__6 rfl ?_
  refine g_callVV h 82 (As := [.long p2]) (st := []) my_X3_add mi_X3_add ml_3_22 rfl (by decide) rfl rfl rfl (Nat.le_of_ble_eq_true rfl) (by decide) t_X3_tell__7 hD (fun _ e => S_X3_add hρ  e) (fun w2 hD => ?_)
  obtain rfl := Option.some.inj hD
  exact hR _ _ t_X3_tell__10
def D_X3_tell__ (p1 : Int64) (p2 : Int64) (p3 : Int64) : Wd → Option Wd := fun w =>
  bv (D_X3_tell_ p1 p2 w) fun w1 => bv (D_X3_add p3 w1) fun w2 => some w2
set_option maxRecDepth 20000 in
theorem S_X3_tell__ {l0 : Launch} {ρ : Nat → Nat} {cs : Nat → ClassId} {G : va_G} (hρ : injN ρ) {p1 : Int64} {p2 : Int64} {p3 : Int64} {w : Wd} {rr : Wd} (hD : D_X3_tell__ p1 p2 p3 w = some rr) : CtV l0 ρ cs G y_X3_tell__ prog_5_method_6_code 7 3 [.ref (ρ 82), .long p1, .long p2, .long p3] w rr := by
  refine ctV_of hρ (by decide) (Nat.le_of_ble_eq_true rfl) (fun X hn h hR => ?_)
  unfold D_X3_tell__ at hD
  show gG ρ cs G X 0 [(0, .ref (ρ 82)), (1, .long p1), (3, .long p2), (5, .long p3)] [] w
  refine g_aload_n h 0 t_X3_tell___0 rfl ?_
  refine g_lload_n h 1 t_X3_tell___1 rfl ?_
  refine g_lload_n h 2 t_X3_tell___2 rfl ?_
  refine g_callVV h 82 (As := [.long p1, .long p2]) (st := []) my_X3_tell_ mi_X3_tell_ ml_3_29 rfl (by decide) rfl rfl rfl (Nat.le_of_ble_eq_true rfl) (by decide) t_X3_tell___3 hD (fun _ e => S_X3_tell_ hρ  e) (fun w1 hD => ?_)
  refine g_aload_n h 0 t_X3_tell___6 rfl ?_
  refine g_lload h 3 t_X3_tell___7 rfl ?_
  refine g_callVV h 82 (As := [.long p3]) (st := []) my_X3_add mi_X3_add ml_3_22 rfl (by decide) rfl rfl rfl (Nat.le_of_ble_eq_true rfl) (by decide) t_X3_tell___9 hD (fun _ e => S_X3_add hρ  e) (fun w2 hD => ?_)
  obtain rfl := Option.some.inj hD
  exact hR _ _ t_X3_tell___12
def D_X9_at (p1 : Int32) : Wd → Option (Int32 × Wd) := fun w =>
  if p1 < 0 then (some (0, w)) else (if (w.1 80 1) ≤ p1 then (some (0, w)) else (if ib p1 80 then (some (w.1 81 p1.toNatClampNeg, w)) else none))
set_option maxRecDepth 20000 in
theorem S_X9_at {l0 : Launch} {ρ : Nat → Nat} {cs : Nat → ClassId} {G : va_G} (hρ : injN ρ) {p1 : Int32} {w : Wd} {rr : (Int32 × Wd)} (hD : D_X9_at p1 w = some rr) : CtI l0 ρ cs G y_X9_at prog_11_method_5_code 2 .int 0 [.ref (ρ 80), .int p1] w rr.1 rr.2 := by
  refine ctI_of hρ (by decide) (Nat.le_of_ble_eq_true rfl) (fun X hn h hR => ?_)
  unfold D_X9_at at hD
  show gG ρ cs G X 0 [(0, .ref (ρ 80)), (1, .int p1)] [] w
  refine g_iload_n h 1 t_X9_at_0 rfl ?_
  refine g_if_lt (tgt := 21) h t_X9_at_1 (by decide) hD (fun hD => ?_) (fun hD => ?_)
  · refine g_iconst (v := 0) h t_X9_at_21 (by decide) ?_
    obtain rfl := Option.some.inj hD
    exact hR _ _ t_X9_at_22 rfl
  · refine g_iload_n h 1 t_X9_at_4 rfl ?_
    refine g_aload_n h 0 t_X9_at_5 rfl ?_
    refine g_getI h 80 1 fl_9_13 rfl (by decide) rfl t_X9_at_6 ?_
    refine g_icmp_ge (tgt := 21) h t_X9_at_9 (by decide) hD (fun hD => ?_) (fun hD => ?_)
    · refine g_iconst (v := 0) h t_X9_at_21 (by decide) ?_
      obtain rfl := Option.some.inj hD
      exact hR _ _ t_X9_at_22 rfl
    · refine g_aload_n h 0 t_X9_at_12 rfl ?_
      refine g_getR h 80 0 81 fl_9_9 rfl (by decide) rfl t_X9_at_13 ?_
      refine g_iload_n h 1 t_X9_at_16 rfl ?_
      refine g_iald h 81 rfl (by decide) t_X9_at_17 hD (fun hD => ?_)
      refine g_goto (tgt := 22) h t_X9_at_18 (by decide) ?_
      obtain rfl := Option.some.inj hD
      exact hR _ _ t_X9_at_22 rfl
def D_X8_clear  : Wd → Option Wd := fun w =>
  bd (wI w 98 1 0) fun w1 => some w1
set_option maxRecDepth 20000 in
theorem S_X8_clear {l0 : Launch} {ρ : Nat → Nat} {cs : Nat → ClassId} {G : va_G} (hρ : injN ρ)  {w : Wd} {rr : Wd} (hD : D_X8_clear w = some rr) : CtV l0 ρ cs G y_X8_clear prog_10_method_2_code 1 0 [.ref (ρ 98)] w rr := by
  refine ctV_of hρ (by decide) (Nat.le_of_ble_eq_true rfl) (fun X hn h hR => ?_)
  unfold D_X8_clear at hD
  show gG ρ cs G X 0 [(0, .ref (ρ 98))] [] w
  refine g_aload_n h 0 t_X8_clear_0 rfl ?_
  refine g_iconst (v := 0) h t_X8_clear_1 (by decide) ?_
  refine g_putI h 98 1 fl_8_15 fp_8_1 rfl (by decide) rfl t_X8_clear_2 hD (fun w1 hD => ?_)
  obtain rfl := Option.some.inj hD
  exact hR _ _ t_X8_clear_5
def L_X8_isAt_8 (q2 : Nat) (x3 : Int32) (k4 : Wd → Option (Int32 × Wd)) (k5 : Wd → Option (Int32 × Wd)) : Nat → Int32 → Wd → Option (Int32 × Wd)
  | 0, _, _ => none
  | n6 + 1, x7, w8 =>
    if 12 ≤ x7 then (k5 w8) else (if ib (x3 + x7) 3240 then (if ib x7 12 then (if (w8.1 99 (x3 + x7).toNatClampNeg) = (w8.1 (q2 + 1) x7.toNatClampNeg) then (bd (x7 + 1) fun x9 => L_X8_isAt_8 q2 x3 k4 k5 n6 x9 w8) else (k4 w8)) else none) else none)
def J_X8_isAt_x34_1  : Wd → Option (Int32 × Wd) := fun w10 =>
  some (0, w10)
def J_X8_isAt_x42_2 (x1 : Int32) (o2 : Nat) : Wd → Option (Int32 × Wd) := fun w11 =>
  if ib (x1 + 12) 3240 then (if ib 0 2 then (if (w11.1 99 (x1 + 12).toNatClampNeg) = (w11.1 (o2 + 2) (0 : Int32).toNatClampNeg) then (if ib ((x1 + 12) + 1) 3240 then (if ib 1 2 then (if (w11.1 99 ((x1 + 12) + 1).toNatClampNeg) = (w11.1 (o2 + 2) (1 : Int32).toNatClampNeg) then (if ib ((x1 + 12) + 2) 3240 then (if (w11.1 99 ((x1 + 12) + 2).toNatClampNeg) = (w11.1 o2 3) then (some (1, w11)) else (some (0, w11))) else none) else (some (0, w11))) else none) else none) else (some (0, w11))) else none) else none
def D_X8_isAt (p1 : Int32) (o2 : Nat) : Wd → Option (Int32 × Wd) := fun w =>
  bd (p1 * 15) fun x1 => L_X8_isAt_8 o2 x1 J_X8_isAt_x34_1 (J_X8_isAt_x42_2 x1 o2) FU 0 w
set_option maxRecDepth 20000 in
theorem Q_X8_isAt_8 {l0 : Launch} {ρ : Nat → Nat} {cs : Nat → ClassId} {G : va_G} {X : Cx} (hρ : injN ρ) (hn : X.2.2.2.2.2.2.2.2.2.2.1 = 5) (h : Okx l0 ρ cs G X prog_10_method_6_code "SowingBoards$Shelf" 0) {rr : (Int32 × Wd)} (hR : ∀ pc L, decode prog_10_method_6_code pc = .ok (.ireturn, 1) → narrow .boolean (.int rr.1) = .int rr.1 → gG ρ cs G X pc L [.int rr.1] rr.2) {q2 : Nat} (hq2 : isPos q2) {x3 : Int32} {k4 : Wd → Option (Int32 × Wd)} (hk4 : ∀ (w1 : Wd), k4 w1 = some rr → gG ρ cs G X 34 [] [] w1) {k5 : Wd → Option (Int32 × Wd)} (hk5 : ∀ (w1 : Wd), k5 w1 = some rr → gG ρ cs G X 42 [(0, .ref (ρ 98)), (2, .ref (ρ q2)), (3, .int x3)] [] w1) : ∀ (n : Nat) (x7 : Int32) (w : Wd), L_X8_isAt_8 q2 x3 k4 k5 n x7 w = some rr → gG ρ cs G X 8 [(0, .ref (ρ 98)), (2, .ref (ρ q2)), (3, .int x3), (4, .int x7)] [] w := by
  intro n
  induction n with
  | zero =>
    intro x7 w hD
    cases hD
  | succ n6 ih =>
    intro x7 w8 hD
    unfold L_X8_isAt_8 at hD
    refine g_iload h 3 t_X8_isAt_8 rfl ?_
    refine g_bipush (v := 12) h t_X8_isAt_10 (by decide) ?_
    refine g_icmp_ge (tgt := 42) h t_X8_isAt_12 (by decide) hD (fun hD => ?_) (fun hD => ?_)
    · refine g_loc (L' := [(0, .ref (ρ 98)), (2, .ref (ρ q2)), (3, .int x3)]) h [0, 1, 2] rfl ?_
      exact hk5 _ hD
    · refine g_aload_n h 0 t_X8_isAt_15 rfl ?_
      refine g_getR h 98 0 99 fl_8_11 rfl (by decide) rfl t_X8_isAt_16 ?_
      refine g_iload_n h 2 t_X8_isAt_19 rfl ?_
      refine g_iload h 3 t_X8_isAt_20 rfl ?_
      refine g_iadd h t_X8_isAt_22 ?_
      refine g_iald h 99 rfl (by decide) t_X8_isAt_23 hD (fun hD => ?_)
      refine g_aload_n h 1 t_X8_isAt_24 rfl ?_
      refine g_getQ h q2 0 (q2 + 1) 1 (by decide) rfl fl_8_27 (isPos_sh hq2) (isPos_lt hq2) rfl t_X8_isAt_25 ?_
      refine g_iload h 3 t_X8_isAt_28 rfl ?_
      refine g_iald h (q2 + 1) (isPos_s1 hq2) (isPos_l1 hq2) t_X8_isAt_30 hD (fun hD => ?_)
      refine g_icmp_eq (tgt := 36) h t_X8_isAt_31 (by decide) hD (fun hD => ?_) (fun hD => ?_)
      · obtain ⟨x9, ex9, hD⟩ := bd_ex hD
        refine g_iinc (v := x9) (L' := [(4, .int x9), (0, .ref (ρ 98)), (2, .ref (ρ q2)), (3, .int x3)]) h hn t_X8_isAt_36 (k := 3) rfl (by rw [ex9]; rfl) (by decide) rfl ?_
        refine g_goto (tgt := 8) h t_X8_isAt_39 (by decide) ?_
        refine g_loc (L' := [(0, .ref (ρ 98)), (2, .ref (ρ q2)), (3, .int x3), (4, .int x9)]) h [1, 2, 3, 0] rfl ?_
        exact ih x9 _ hD
      · refine g_loc (L' := []) h [] rfl ?_
        exact hk4 _ hD
set_option maxRecDepth 20000 in
theorem S_X8_isAt {l0 : Launch} {ρ : Nat → Nat} {cs : Nat → ClassId} {G : va_G} (hρ : injN ρ) {o2 : Nat} (ho2 : isPos o2) {p1 : Int32} {w : Wd} {rr : (Int32 × Wd)} (hD : D_X8_isAt p1 o2 w = some rr) : CtI l0 ρ cs G y_X8_isAt prog_10_method_6_code 5 .boolean 0 [.ref (ρ 98), .int p1, .ref (ρ o2)] w rr.1 rr.2 := by
  refine ctI_of hρ (by decide) (Nat.le_of_ble_eq_true rfl) (fun X hn h hR => ?_)
  unfold D_X8_isAt at hD
  show gG ρ cs G X 0 [(0, .ref (ρ 98)), (1, .int p1), (2, .ref (ρ o2))] [] w
  refine g_iload_n h 1 t_X8_isAt_0 rfl ?_
  refine g_bipush (v := 15) h t_X8_isAt_1 (by decide) ?_
  refine g_imul h t_X8_isAt_3 ?_
  refine g_bdI hD (fun x1 hD => ?_)
  refine g_istore_n (L' := [(3, .int x1), (0, .ref (ρ 98)), (1, .int p1), (2, .ref (ρ o2))]) h hn t_X8_isAt_4 rfl (by decide) rfl ?_
  refine g_iconst (v := 0) h t_X8_isAt_5 (by decide) ?_
  refine g_istore (L' := [(4, .int 0), (3, .int x1), (0, .ref (ρ 98)), (1, .int p1), (2, .ref (ρ o2))]) h hn t_X8_isAt_6 (by decide) rfl ?_
  refine g_loc (L' := [(0, .ref (ρ 98)), (2, .ref (ρ o2)), (3, .int x1), (4, .int 0)]) h [2, 4, 1, 0] rfl ?_
  refine Q_X8_isAt_8 hρ hn h hR ho2 ?_ ?_ _ _ _ hD
  · intro w10 hD
    unfold J_X8_isAt_x34_1 at hD
    refine g_iconst (v := 0) h t_X8_isAt_34 (by decide) ?_
    obtain rfl := Option.some.inj hD
    exact hR _ _ t_X8_isAt_35 (b01_n rfl)
  · intro w11 hD
    unfold J_X8_isAt_x42_2 at hD
    refine g_aload_n h 0 t_X8_isAt_42 rfl ?_
    refine g_getR h 98 0 99 fl_8_11 rfl (by decide) rfl t_X8_isAt_43 ?_
    refine g_iload_n h 2 t_X8_isAt_46 rfl ?_
    refine g_bipush (v := 12) h t_X8_isAt_47 (by decide) ?_
    refine g_iadd h t_X8_isAt_49 ?_
    refine g_iald h 99 rfl (by decide) t_X8_isAt_50 hD (fun hD => ?_)
    refine g_aload_n h 1 t_X8_isAt_51 rfl ?_
    refine g_getQ h o2 1 (o2 + 2) 2 (by decide) rfl fl_8_38 (isPos_sh ho2) (isPos_lt ho2) rfl t_X8_isAt_52 ?_
    refine g_iconst (v := 0) h t_X8_isAt_55 (by decide) ?_
    refine g_iald h (o2 + 2) (isPos_s2 ho2) (isPos_l2 ho2) t_X8_isAt_56 hD (fun hD => ?_)
    refine g_icmp_ne (tgt := 102) h t_X8_isAt_57 (by decide) hD (fun hD => ?_) (fun hD => ?_)
    · refine g_iconst (v := 0) h t_X8_isAt_102 (by decide) ?_
      obtain rfl := Option.some.inj hD
      exact hR _ _ t_X8_isAt_103 (b01_n rfl)
    · refine g_aload_n h 0 t_X8_isAt_60 rfl ?_
      refine g_getR h 98 0 99 fl_8_11 rfl (by decide) rfl t_X8_isAt_61 ?_
      refine g_iload_n h 2 t_X8_isAt_64 rfl ?_
      refine g_bipush (v := 12) h t_X8_isAt_65 (by decide) ?_
      refine g_iadd h t_X8_isAt_67 ?_
      refine g_iconst (v := 1) h t_X8_isAt_68 (by decide) ?_
      refine g_iadd h t_X8_isAt_69 ?_
      refine g_iald h 99 rfl (by decide) t_X8_isAt_70 hD (fun hD => ?_)
      refine g_aload_n h 1 t_X8_isAt_71 rfl ?_
      refine g_getQ h o2 1 (o2 + 2) 2 (by decide) rfl fl_8_38 (isPos_sh ho2) (isPos_lt ho2) rfl t_X8_isAt_72 ?_
      refine g_iconst (v := 1) h t_X8_isAt_75 (by decide) ?_
      refine g_iald h (o2 + 2) (isPos_s2 ho2) (isPos_l2 ho2) t_X8_isAt_76 hD (fun hD => ?_)
      refine g_icmp_ne (tgt := 102) h t_X8_isAt_77 (by decide) hD (fun hD => ?_) (fun hD => ?_)
      · refine g_iconst (v := 0) h t_X8_isAt_102 (by decide) ?_
        obtain rfl := Option.some.inj hD
        exact hR _ _ t_X8_isAt_103 (b01_n rfl)
      · refine g_aload_n h 0 t_X8_isAt_80 rfl ?_
        refine g_getR h 98 0 99 fl_8_11 rfl (by decide) rfl t_X8_isAt_81 ?_
        refine g_iload_n h 2 t_X8_isAt_84 rfl ?_
        refine g_bipush (v := 12) h t_X8_isAt_85 (by decide) ?_
        refine g_iadd h t_X8_isAt_87 ?_
        refine g_iconst (v := 2) h t_X8_isAt_88 (by decide) ?_
        refine g_iadd h t_X8_isAt_89 ?_
        refine g_iald h 99 rfl (by decide) t_X8_isAt_90 hD (fun hD => ?_)
        refine g_aload_n h 1 t_X8_isAt_91 rfl ?_
        refine g_getI h o2 3 fl_8_41 (isPos_sh ho2) (isPos_lt ho2) rfl t_X8_isAt_92 ?_
        refine g_icmp_ne (tgt := 102) h t_X8_isAt_95 (by decide) hD (fun hD => ?_) (fun hD => ?_)
        · refine g_iconst (v := 0) h t_X8_isAt_102 (by decide) ?_
          obtain rfl := Option.some.inj hD
          exact hR _ _ t_X8_isAt_103 (b01_n rfl)
        · refine g_iconst (v := 1) h t_X8_isAt_98 (by decide) ?_
          refine g_goto (tgt := 103) h t_X8_isAt_99 (by decide) ?_
          obtain rfl := Option.some.inj hD
          exact hR _ _ t_X8_isAt_103 (b01_n rfl)
def L_X8_find_2 (q1 : Nat) (k2 : Int32 → Wd → Option (Int32 × Wd)) (k3 : Wd → Option (Int32 × Wd)) : Nat → Int32 → Wd → Option (Int32 × Wd)
  | 0, _, _ => none
  | n4 + 1, x5, w6 =>
    if (w6.1 98 1) ≤ x5 then (k3 w6) else (bc (D_X8_isAt x5 q1 w6) fun x8 w7 => if x8 = 0 then (bd (x5 + 1) fun x9 => L_X8_find_2 q1 k2 k3 n4 x9 w7) else (k2 x5 w7))
def J_X8_find_x19_1  : Int32 → Wd → Option (Int32 × Wd) := fun x10 w11 =>
  some (x10, w11)
def J_X8_find_x27_2  : Wd → Option (Int32 × Wd) := fun w12 =>
  some ((-1), w12)
def D_X8_find (o1 : Nat) : Wd → Option (Int32 × Wd) := fun w =>
  L_X8_find_2 o1 J_X8_find_x19_1 J_X8_find_x27_2 FU 0 w
set_option maxRecDepth 20000 in
theorem Q_X8_find_2 {l0 : Launch} {ρ : Nat → Nat} {cs : Nat → ClassId} {G : va_G} {X : Cx} (hρ : injN ρ) (hn : X.2.2.2.2.2.2.2.2.2.2.1 = 3) (h : Okx l0 ρ cs G X prog_10_method_5_code "SowingBoards$Shelf" 1) {rr : (Int32 × Wd)} (hR : ∀ pc L, decode prog_10_method_5_code pc = .ok (.ireturn, 1) → narrow .int (.int rr.1) = .int rr.1 → gG ρ cs G X pc L [.int rr.1] rr.2) {q1 : Nat} (hq1 : isPos q1) {k2 : Int32 → Wd → Option (Int32 × Wd)} (hk2 : ∀ (z2 : Int32) (w1 : Wd), k2 z2 w1 = some rr → gG ρ cs G X 19 [(2, .int z2)] [] w1) {k3 : Wd → Option (Int32 × Wd)} (hk3 : ∀ (w1 : Wd), k3 w1 = some rr → gG ρ cs G X 27 [] [] w1) : ∀ (n : Nat) (x5 : Int32) (w : Wd), L_X8_find_2 q1 k2 k3 n x5 w = some rr → gG ρ cs G X 2 [(0, .ref (ρ 98)), (1, .ref (ρ q1)), (2, .int x5)] [] w := by
  intro n
  induction n with
  | zero =>
    intro x5 w hD
    cases hD
  | succ n4 ih =>
    intro x5 w6 hD
    unfold L_X8_find_2 at hD
    refine g_iload_n h 2 t_X8_find_2 rfl ?_
    refine g_aload_n h 0 t_X8_find_3 rfl ?_
    refine g_getI h 98 1 fl_8_15 rfl (by decide) rfl t_X8_find_4 ?_
    refine g_icmp_ge (tgt := 27) h t_X8_find_7 (by decide) hD (fun hD => ?_) (fun hD => ?_)
    · refine g_loc (L' := []) h [] rfl ?_
      exact hk3 _ hD
    · refine g_aload_n h 0 t_X8_find_10 rfl ?_
      refine g_iload_n h 2 t_X8_find_11 rfl ?_
      refine g_aload_n h 1 t_X8_find_12 rfl ?_
      refine g_callVI h 98 (As := [.int x5, .ref (ρ q1)]) (st := []) my_X8_isAt mi_X8_isAt ml_8_44 rfl (by decide) rfl rfl rfl (Nat.le_of_ble_eq_true rfl) (by decide) t_X8_find_13 hD (fun _ _ e => S_X8_isAt hρ hq1 e) (fun x8 w7 hD => ?_)
      refine g_if_eq (tgt := 21) h t_X8_find_16 (by decide) hD (fun hD => ?_) (fun hD => ?_)
      · obtain ⟨x9, ex9, hD⟩ := bd_ex hD
        refine g_iinc (v := x9) (L' := [(2, .int x9), (0, .ref (ρ 98)), (1, .ref (ρ q1))]) h hn t_X8_find_21 (k := 2) rfl (by rw [ex9]; rfl) (by decide) rfl ?_
        refine g_goto (tgt := 2) h t_X8_find_24 (by decide) ?_
        refine g_loc (L' := [(0, .ref (ρ 98)), (1, .ref (ρ q1)), (2, .int x9)]) h [1, 2, 0] rfl ?_
        exact ih x9 _ hD
      · refine g_loc (L' := [(2, .int x5)]) h [2] rfl ?_
        exact hk2 x5 _ hD
set_option maxRecDepth 20000 in
theorem S_X8_find {l0 : Launch} {ρ : Nat → Nat} {cs : Nat → ClassId} {G : va_G} (hρ : injN ρ) {o1 : Nat} (ho1 : isPos o1) {w : Wd} {rr : (Int32 × Wd)} (hD : D_X8_find o1 w = some rr) : CtI l0 ρ cs G y_X8_find prog_10_method_5_code 3 .int 1 [.ref (ρ 98), .ref (ρ o1)] w rr.1 rr.2 := by
  refine ctI_of hρ (by decide) (Nat.le_of_ble_eq_true rfl) (fun X hn h hR => ?_)
  unfold D_X8_find at hD
  show gG ρ cs G X 0 [(0, .ref (ρ 98)), (1, .ref (ρ o1))] [] w
  refine g_iconst (v := 0) h t_X8_find_0 (by decide) ?_
  refine g_istore_n (L' := [(2, .int 0), (0, .ref (ρ 98)), (1, .ref (ρ o1))]) h hn t_X8_find_1 rfl (by decide) rfl ?_
  refine g_loc (L' := [(0, .ref (ρ 98)), (1, .ref (ρ o1)), (2, .int 0)]) h [1, 2, 0] rfl ?_
  refine Q_X8_find_2 hρ hn h hR ho1 ?_ ?_ _ _ _ hD
  · intro x10 w11 hD
    unfold J_X8_find_x19_1 at hD
    refine g_iload_n h 0 t_X8_find_19 rfl ?_
    obtain rfl := Option.some.inj hD
    exact hR _ _ t_X8_find_20 rfl
  · intro w12 hD
    unfold J_X8_find_x27_2 at hD
    refine g_iconst (v := (-1)) h t_X8_find_27 (by decide) ?_
    obtain rfl := Option.some.inj hD
    exact hR _ _ t_X8_find_28 rfl
def D_X8_put (o1 : Nat) : Wd → Option Wd := fun w =>
  if 216 ≤ (w.1 98 1) then (some w) else (bd ((w.1 98 1) * 15) fun x1 => if cpb 0 x1 12 12 3240 then bd (wC w (o1 + 1) 99 0 x1 12) (fun w2 => if ib 0 2 then (if ib (x1 + 12) 3240 then bd (wI w2 99 (x1 + 12).toNatClampNeg (w2.1 (o1 + 2) (0 : Int32).toNatClampNeg)) (fun w3 => if ib 1 2 then (if ib ((x1 + 12) + 1) 3240 then bd (wI w3 99 ((x1 + 12) + 1).toNatClampNeg (w3.1 (o1 + 2) (1 : Int32).toNatClampNeg)) (fun w4 => if ib ((x1 + 12) + 2) 3240 then bd (wI w4 99 ((x1 + 12) + 2).toNatClampNeg (w4.1 o1 3)) (fun w5 => bd (wI w5 98 1 ((w5.1 98 1) + 1)) fun w6 => some w6) else none) else none) else none) else none) else none) else none)
set_option maxRecDepth 20000 in
theorem S_X8_put {l0 : Launch} {ρ : Nat → Nat} {cs : Nat → ClassId} {G : va_G} (hρ : injN ρ) {o1 : Nat} (ho1 : isPos o1) {w : Wd} {rr : Wd} (hD : D_X8_put o1 w = some rr) : CtV l0 ρ cs G y_X8_put prog_10_method_4_code 3 0 [.ref (ρ 98), .ref (ρ o1)] w rr := by
  refine ctV_of hρ (by decide) (Nat.le_of_ble_eq_true rfl) (fun X hn h hR => ?_)
  unfold D_X8_put at hD
  show gG ρ cs G X 0 [(0, .ref (ρ 98)), (1, .ref (ρ o1))] [] w
  refine g_aload_n h 0 t_X8_put_0 rfl ?_
  refine g_getI h 98 1 fl_8_15 rfl (by decide) rfl t_X8_put_1 ?_
  refine g_sipush (v := 216) h t_X8_put_4 (by decide) ?_
  refine g_icmp_ge (tgt := 90) h t_X8_put_7 (by decide) hD (fun hD => ?_) (fun hD => ?_)
  · obtain rfl := Option.some.inj hD
    exact hR _ _ t_X8_put_90
  · refine g_aload_n h 0 t_X8_put_10 rfl ?_
    refine g_getI h 98 1 fl_8_15 rfl (by decide) rfl t_X8_put_11 ?_
    refine g_bipush (v := 15) h t_X8_put_14 (by decide) ?_
    refine g_imul h t_X8_put_16 ?_
    refine g_bdI hD (fun x1 hD => ?_)
    refine g_istore_n (L' := [(2, .int x1), (0, .ref (ρ 98)), (1, .ref (ρ o1))]) h hn t_X8_put_17 rfl (by decide) rfl ?_
    refine g_aload_n h 2 t_X8_put_18 rfl ?_
    refine g_getQ h o1 0 (o1 + 1) 1 (by decide) rfl fl_8_27 (isPos_sh ho1) (isPos_lt ho1) rfl t_X8_put_19 ?_
    refine g_iconst (v := 0) h t_X8_put_22 (by decide) ?_
    refine g_aload_n h 1 t_X8_put_23 rfl ?_
    refine g_getR h 98 0 99 fl_8_11 rfl (by decide) rfl t_X8_put_24 ?_
    refine g_iload_n h 0 t_X8_put_27 rfl ?_
    refine g_bipush (v := 12) h t_X8_put_28 (by decide) ?_
    refine g_acpy h hn (st := []) (o1 + 1) 99 (isPos_s1 ho1) (isPos_l1 ho1) rfl (by decide) ml_8_32 (Nat.le_of_ble_eq_true rfl) t_X8_put_30 hD (fun w2 hD => ?_)
    refine g_aload_n h 1 t_X8_put_33 rfl ?_
    refine g_getR h 98 0 99 fl_8_11 rfl (by decide) rfl t_X8_put_34 ?_
    refine g_iload_n h 0 t_X8_put_37 rfl ?_
    refine g_bipush (v := 12) h t_X8_put_38 (by decide) ?_
    refine g_iadd h t_X8_put_40 ?_
    refine g_aload_n h 2 t_X8_put_41 rfl ?_
    refine g_getQ h o1 1 (o1 + 2) 2 (by decide) rfl fl_8_38 (isPos_sh ho1) (isPos_lt ho1) rfl t_X8_put_42 ?_
    refine g_iconst (v := 0) h t_X8_put_45 (by decide) ?_
    refine g_iald h (o1 + 2) (isPos_s2 ho1) (isPos_l2 ho1) t_X8_put_46 hD (fun hD => ?_)
    refine g_iast h 99 rfl (by decide) t_X8_put_47 hD (fun w3 hD => ?_)
    refine g_aload_n h 1 t_X8_put_48 rfl ?_
    refine g_getR h 98 0 99 fl_8_11 rfl (by decide) rfl t_X8_put_49 ?_
    refine g_iload_n h 0 t_X8_put_52 rfl ?_
    refine g_bipush (v := 12) h t_X8_put_53 (by decide) ?_
    refine g_iadd h t_X8_put_55 ?_
    refine g_iconst (v := 1) h t_X8_put_56 (by decide) ?_
    refine g_iadd h t_X8_put_57 ?_
    refine g_aload_n h 2 t_X8_put_58 rfl ?_
    refine g_getQ h o1 1 (o1 + 2) 2 (by decide) rfl fl_8_38 (isPos_sh ho1) (isPos_lt ho1) rfl t_X8_put_59 ?_
    refine g_iconst (v := 1) h t_X8_put_62 (by decide) ?_
    refine g_iald h (o1 + 2) (isPos_s2 ho1) (isPos_l2 ho1) t_X8_put_63 hD (fun hD => ?_)
    refine g_iast h 99 rfl (by decide) t_X8_put_64 hD (fun w4 hD => ?_)
    refine g_aload_n h 1 t_X8_put_65 rfl ?_
    refine g_getR h 98 0 99 fl_8_11 rfl (by decide) rfl t_X8_put_66 ?_
    refine g_iload_n h 0 t_X8_put_69 rfl ?_
    refine g_bipush (v := 12) h t_X8_put_70 (by decide) ?_
    refine g_iadd h t_X8_put_72 ?_
    refine g_iconst (v := 2) h t_X8_put_73 (by decide) ?_
    refine g_iadd h t_X8_put_74 ?_
    refine g_aload_n h 2 t_X8_put_75 rfl ?_
    refine g_getI h o1 3 fl_8_41 (isPos_sh ho1) (isPos_lt ho1) rfl t_X8_put_76 ?_
    refine g_iast h 99 rfl (by decide) t_X8_put_79 hD (fun w5 hD => ?_)
    refine g_aload_n h 1 t_X8_put_80 rfl ?_
    refine g_dup h t_X8_put_81 rfl ?_
    refine g_getI h 98 1 fl_8_15 rfl (by decide) rfl t_X8_put_82 ?_
    refine g_iconst (v := 1) h t_X8_put_85 (by decide) ?_
    refine g_iadd h t_X8_put_86 ?_
    refine g_putI h 98 1 fl_8_15 fp_8_1 rfl (by decide) rfl t_X8_put_87 hD (fun w6 hD => ?_)
    obtain rfl := Option.some.inj hD
    exact hR _ _ t_X8_put_90
def D_X8_putNew (o1 : Nat) : Wd → Option Wd := fun w =>
  bc (D_X8_find o1 w) fun x2 w1 => if 0 ≤ x2 then (some w1) else (bv (D_X8_put o1 w1) fun w3 => some w3)
set_option maxRecDepth 20000 in
theorem S_X8_putNew {l0 : Launch} {ρ : Nat → Nat} {cs : Nat → ClassId} {G : va_G} (hρ : injN ρ) {o1 : Nat} (ho1 : isPos o1) {w : Wd} {rr : Wd} (hD : D_X8_putNew o1 w = some rr) : CtV l0 ρ cs G y_X8_putNew prog_10_method_3_code 2 2 [.ref (ρ 98), .ref (ρ o1)] w rr := by
  refine ctV_of hρ (by decide) (Nat.le_of_ble_eq_true rfl) (fun X hn h hR => ?_)
  unfold D_X8_putNew at hD
  show gG ρ cs G X 0 [(0, .ref (ρ 98)), (1, .ref (ρ o1))] [] w
  refine g_aload_n h 0 t_X8_putNew_0 rfl ?_
  refine g_aload_n h 1 t_X8_putNew_1 rfl ?_
  refine g_callVI h 98 (As := [.ref (ρ o1)]) (st := []) my_X8_find mi_X8_find ml_8_19 rfl (by decide) rfl rfl rfl (Nat.le_of_ble_eq_true rfl) (by decide) t_X8_putNew_2 hD (fun _ _ e => S_X8_find hρ ho1 e) (fun x2 w1 hD => ?_)
  refine g_if_ge (tgt := 13) h t_X8_putNew_5 (by decide) hD (fun hD => ?_) (fun hD => ?_)
  · obtain rfl := Option.some.inj hD
    exact hR _ _ t_X8_putNew_13
  · refine g_aload_n h 0 t_X8_putNew_8 rfl ?_
    refine g_aload_n h 1 t_X8_putNew_9 rfl ?_
    refine g_callVV h 98 (As := [.ref (ρ o1)]) (st := []) my_X8_put mi_X8_put ml_8_23 rfl (by decide) rfl rfl rfl (Nat.le_of_ble_eq_true rfl) (by decide) t_X8_putNew_10 hD (fun _ e => S_X8_put hρ ho1 e) (fun w3 hD => ?_)
    obtain rfl := Option.some.inj hD
    exact hR _ _ t_X8_putNew_13
def L_X9_addFour_16 (x1 : Int32) (k2 : Wd → Option (Int32 × Wd)) : Nat → Int32 → Wd → Option (Int32 × Wd)
  | 0, _, _ => none
  | n3 + 1, x4, w5 =>
    if x4 < 0 then (k2 w5) else (if ib (w5.1 80 1) 80 then bd (wI w5 81 (w5.1 80 1).toNatClampNeg (((x1.toUInt32 >>> (x4.toUInt32 &&& Int32.toUInt32 31)).toInt32) &&& 255)) (fun w6 => bd (wI w6 80 1 ((w6.1 80 1) + 1)) fun w7 => bd (x4 + (-8)) fun x8 => L_X9_addFour_16 x1 k2 n3 x8 w7) else none)
def J_X9_addFour_x52_1  : Wd → Option (Int32 × Wd) := fun w9 =>
  some (1, w9)
def D_X9_addFour (p1 : Int32) : Wd → Option (Int32 × Wd) := fun w =>
  if ((w.1 80 1) + 4) ≤ 80 then (L_X9_addFour_16 p1 J_X9_addFour_x52_1 FU 24 w) else (some (0, w))
set_option maxRecDepth 20000 in
theorem Q_X9_addFour_16 {l0 : Launch} {ρ : Nat → Nat} {cs : Nat → ClassId} {G : va_G} {X : Cx} (hρ : injN ρ) (hn : X.2.2.2.2.2.2.2.2.2.2.1 = 3) (h : Okx l0 ρ cs G X prog_11_method_2_code "SowingBoards$Signs" 0) {rr : (Int32 × Wd)} (hR : ∀ pc L, decode prog_11_method_2_code pc = .ok (.ireturn, 1) → narrow .boolean (.int rr.1) = .int rr.1 → gG ρ cs G X pc L [.int rr.1] rr.2) {x1 : Int32} {k2 : Wd → Option (Int32 × Wd)} (hk2 : ∀ (w1 : Wd), k2 w1 = some rr → gG ρ cs G X 52 [] [] w1) : ∀ (n : Nat) (x4 : Int32) (w : Wd), L_X9_addFour_16 x1 k2 n x4 w = some rr → gG ρ cs G X 16 [(0, .ref (ρ 80)), (1, .int x1), (2, .int x4)] [] w := by
  intro n
  induction n with
  | zero =>
    intro x4 w hD
    cases hD
  | succ n3 ih =>
    intro x4 w5 hD
    unfold L_X9_addFour_16 at hD
    refine g_iload_n h 2 t_X9_addFour_16 rfl ?_
    refine g_if_lt (tgt := 52) h t_X9_addFour_17 (by decide) hD (fun hD => ?_) (fun hD => ?_)
    · refine g_loc (L' := []) h [] rfl ?_
      exact hk2 _ hD
    · refine g_aload_n h 0 t_X9_addFour_20 rfl ?_
      refine g_getR h 80 0 81 fl_9_9 rfl (by decide) rfl t_X9_addFour_21 ?_
      refine g_aload_n h 0 t_X9_addFour_24 rfl ?_
      refine g_getI h 80 1 fl_9_13 rfl (by decide) rfl t_X9_addFour_25 ?_
      refine g_iload_n h 1 t_X9_addFour_28 rfl ?_
      refine g_iload_n h 2 t_X9_addFour_29 rfl ?_
      refine g_iushr h t_X9_addFour_30 ?_
      refine g_sipush (v := 255) h t_X9_addFour_31 (by decide) ?_
      refine g_iand h t_X9_addFour_34 ?_
      refine g_iast h 81 rfl (by decide) t_X9_addFour_35 hD (fun w6 hD => ?_)
      refine g_aload_n h 0 t_X9_addFour_36 rfl ?_
      refine g_dup h t_X9_addFour_37 rfl ?_
      refine g_getI h 80 1 fl_9_13 rfl (by decide) rfl t_X9_addFour_38 ?_
      refine g_iconst (v := 1) h t_X9_addFour_41 (by decide) ?_
      refine g_iadd h t_X9_addFour_42 ?_
      refine g_putI h 80 1 fl_9_13 fp_9_1 rfl (by decide) rfl t_X9_addFour_43 hD (fun w7 hD => ?_)
      obtain ⟨x8, ex8, hD⟩ := bd_ex hD
      refine g_iinc (v := x8) (L' := [(2, .int x8), (0, .ref (ρ 80)), (1, .int x1)]) h hn t_X9_addFour_46 (k := 2) rfl (by rw [ex8]; rfl) (by decide) rfl ?_
      refine g_goto (tgt := 16) h t_X9_addFour_49 (by decide) ?_
      refine g_loc (L' := [(0, .ref (ρ 80)), (1, .int x1), (2, .int x8)]) h [1, 2, 0] rfl ?_
      exact ih x8 _ hD
set_option maxRecDepth 20000 in
theorem S_X9_addFour {l0 : Launch} {ρ : Nat → Nat} {cs : Nat → ClassId} {G : va_G} (hρ : injN ρ) {p1 : Int32} {w : Wd} {rr : (Int32 × Wd)} (hD : D_X9_addFour p1 w = some rr) : CtI l0 ρ cs G y_X9_addFour prog_11_method_2_code 3 .boolean 0 [.ref (ρ 80), .int p1] w rr.1 rr.2 := by
  refine ctI_of hρ (by decide) (Nat.le_of_ble_eq_true rfl) (fun X hn h hR => ?_)
  unfold D_X9_addFour at hD
  show gG ρ cs G X 0 [(0, .ref (ρ 80)), (1, .int p1)] [] w
  refine g_aload_n h 0 t_X9_addFour_0 rfl ?_
  refine g_getI h 80 1 fl_9_13 rfl (by decide) rfl t_X9_addFour_1 ?_
  refine g_iconst (v := 4) h t_X9_addFour_4 (by decide) ?_
  refine g_iadd h t_X9_addFour_5 ?_
  refine g_bipush (v := 80) h t_X9_addFour_6 (by decide) ?_
  refine g_icmp_le (tgt := 13) h t_X9_addFour_8 (by decide) hD (fun hD => ?_) (fun hD => ?_)
  · refine g_bipush (v := 24) h t_X9_addFour_13 (by decide) ?_
    refine g_istore_n (L' := [(2, .int 24), (0, .ref (ρ 80)), (1, .int p1)]) h hn t_X9_addFour_15 rfl (by decide) rfl ?_
    refine g_loc (L' := [(0, .ref (ρ 80)), (1, .int p1), (2, .int 24)]) h [1, 2, 0] rfl ?_
    refine Q_X9_addFour_16 hρ hn h hR  ?_ _ _ _ hD
    · intro w9 hD
      unfold J_X9_addFour_x52_1 at hD
      refine g_iconst (v := 1) h t_X9_addFour_52 (by decide) ?_
      obtain rfl := Option.some.inj hD
      exact hR _ _ t_X9_addFour_53 (b01_n rfl)
  · refine g_iconst (v := 0) h t_X9_addFour_11 (by decide) ?_
    obtain rfl := Option.some.inj hD
    exact hR _ _ t_X9_addFour_12 (b01_n rfl)
def D_X9_cut (p1 : Int32) : Wd → Option (Int32 × Wd) := fun w =>
  if p1 < 0 then (some (0, w)) else (if p1 ≤ (w.1 80 1) then (bd (wI w 80 1 p1) fun w1 => some (1, w1)) else (some (0, w)))
set_option maxRecDepth 20000 in
theorem S_X9_cut {l0 : Launch} {ρ : Nat → Nat} {cs : Nat → ClassId} {G : va_G} (hρ : injN ρ) {p1 : Int32} {w : Wd} {rr : (Int32 × Wd)} (hD : D_X9_cut p1 w = some rr) : CtI l0 ρ cs G y_X9_cut prog_11_method_3_code 2 .boolean 0 [.ref (ρ 80), .int p1] w rr.1 rr.2 := by
  refine ctI_of hρ (by decide) (Nat.le_of_ble_eq_true rfl) (fun X hn h hR => ?_)
  unfold D_X9_cut at hD
  show gG ρ cs G X 0 [(0, .ref (ρ 80)), (1, .int p1)] [] w
  refine g_iload_n h 1 t_X9_cut_0 rfl ?_
  refine g_if_lt (tgt := 12) h t_X9_cut_1 (by decide) hD (fun hD => ?_) (fun hD => ?_)
  · refine g_iconst (v := 0) h t_X9_cut_12 (by decide) ?_
    obtain rfl := Option.some.inj hD
    exact hR _ _ t_X9_cut_13 (b01_n rfl)
  · refine g_iload_n h 1 t_X9_cut_4 rfl ?_
    refine g_aload_n h 0 t_X9_cut_5 rfl ?_
    refine g_getI h 80 1 fl_9_13 rfl (by decide) rfl t_X9_cut_6 ?_
    refine g_icmp_le (tgt := 14) h t_X9_cut_9 (by decide) hD (fun hD => ?_) (fun hD => ?_)
    · refine g_aload_n h 0 t_X9_cut_14 rfl ?_
      refine g_iload_n h 1 t_X9_cut_15 rfl ?_
      refine g_putI h 80 1 fl_9_13 fp_9_1 rfl (by decide) rfl t_X9_cut_16 hD (fun w1 hD => ?_)
      refine g_iconst (v := 1) h t_X9_cut_19 (by decide) ?_
      obtain rfl := Option.some.inj hD
      exact hR _ _ t_X9_cut_20 (b01_n rfl)
    · refine g_iconst (v := 0) h t_X9_cut_12 (by decide) ?_
      obtain rfl := Option.some.inj hD
      exact hR _ _ t_X9_cut_13 (b01_n rfl)
def D_X9_clear  : Wd → Option Wd := fun w =>
  bd (wI w 80 1 0) fun w1 => some w1
set_option maxRecDepth 20000 in
theorem S_X9_clear {l0 : Launch} {ρ : Nat → Nat} {cs : Nat → ClassId} {G : va_G} (hρ : injN ρ)  {w : Wd} {rr : Wd} (hD : D_X9_clear w = some rr) : CtV l0 ρ cs G y_X9_clear prog_11_method_4_code 1 0 [.ref (ρ 80)] w rr := by
  refine ctV_of hρ (by decide) (Nat.le_of_ble_eq_true rfl) (fun X hn h hR => ?_)
  unfold D_X9_clear at hD
  show gG ρ cs G X 0 [(0, .ref (ρ 80))] [] w
  refine g_aload_n h 0 t_X9_clear_0 rfl ?_
  refine g_iconst (v := 0) h t_X9_clear_1 (by decide) ?_
  refine g_putI h 80 1 fl_9_13 fp_9_1 rfl (by decide) rfl t_X9_clear_2 hD (fun w1 hD => ?_)
  obtain rfl := Option.some.inj hD
  exact hR _ _ t_X9_clear_5
def D_X9_digitAt (p1 : Int32) : Wd → Option (Int32 × Wd) := fun w =>
  bc (D_X9_at p1 w) fun x2 w1 => if x2 < 48 then (some ((-1), w1)) else (if 57 < x2 then (some ((-1), w1)) else (some (x2 - 48, w1)))
set_option maxRecDepth 20000 in
theorem S_X9_digitAt {l0 : Launch} {ρ : Nat → Nat} {cs : Nat → ClassId} {G : va_G} (hρ : injN ρ) {p1 : Int32} {w : Wd} {rr : (Int32 × Wd)} (hD : D_X9_digitAt p1 w = some rr) : CtI l0 ρ cs G y_X9_digitAt prog_11_method_6_code 3 .int 1 [.ref (ρ 80), .int p1] w rr.1 rr.2 := by
  refine ctI_of hρ (by decide) (Nat.le_of_ble_eq_true rfl) (fun X hn h hR => ?_)
  unfold D_X9_digitAt at hD
  show gG ρ cs G X 0 [(0, .ref (ρ 80)), (1, .int p1)] [] w
  refine g_aload_n h 0 t_X9_digitAt_0 rfl ?_
  refine g_iload_n h 1 t_X9_digitAt_1 rfl ?_
  refine g_callVI h 80 (As := [.int p1]) (st := []) my_X9_at mi_X9_at ml_9_17 rfl (by decide) rfl rfl rfl (Nat.le_of_ble_eq_true rfl) (by decide) t_X9_digitAt_2 hD (fun _ _ e => S_X9_at hρ  e) (fun x2 w1 hD => ?_)
  refine g_istore_n (L' := [(2, .int x2), (0, .ref (ρ 80)), (1, .int p1)]) h hn t_X9_digitAt_5 rfl (by decide) rfl ?_
  refine g_iload_n h 0 t_X9_digitAt_6 rfl ?_
  refine g_bipush (v := 48) h t_X9_digitAt_7 (by decide) ?_
  refine g_icmp_lt (tgt := 25) h t_X9_digitAt_9 (by decide) hD (fun hD => ?_) (fun hD => ?_)
  · refine g_iconst (v := (-1)) h t_X9_digitAt_25 (by decide) ?_
    obtain rfl := Option.some.inj hD
    exact hR _ _ t_X9_digitAt_26 rfl
  · refine g_iload_n h 0 t_X9_digitAt_12 rfl ?_
    refine g_bipush (v := 57) h t_X9_digitAt_13 (by decide) ?_
    refine g_icmp_gt (tgt := 25) h t_X9_digitAt_15 (by decide) hD (fun hD => ?_) (fun hD => ?_)
    · refine g_iconst (v := (-1)) h t_X9_digitAt_25 (by decide) ?_
      obtain rfl := Option.some.inj hD
      exact hR _ _ t_X9_digitAt_26 rfl
    · refine g_iload_n h 0 t_X9_digitAt_18 rfl ?_
      refine g_bipush (v := 48) h t_X9_digitAt_19 (by decide) ?_
      refine g_isub h t_X9_digitAt_21 ?_
      refine g_goto (tgt := 26) h t_X9_digitAt_22 (by decide) ?_
      obtain rfl := Option.some.inj hD
      exact hR _ _ t_X9_digitAt_26 rfl
