def y_X5_take : MethodName := ⟨"SowingBoards$Position", "take", "(LSowingBoards$Position;)V"⟩
theorem t_X5_take_0 : decode prog_7_method_2_code 0 = .ok (.aload_n 1, 1) := by decide +kernel
theorem t_X5_take_1 : decode prog_7_method_2_code 1 = .ok (.getfield 9, 3) := by decide +kernel
theorem t_X5_take_4 : decode prog_7_method_2_code 4 = .ok (.iconst 0, 1) := by decide +kernel
theorem t_X5_take_5 : decode prog_7_method_2_code 5 = .ok (.aload_n 0, 1) := by decide +kernel
theorem t_X5_take_6 : decode prog_7_method_2_code 6 = .ok (.getfield 9, 3) := by decide +kernel
theorem t_X5_take_9 : decode prog_7_method_2_code 9 = .ok (.iconst 0, 1) := by decide +kernel
theorem t_X5_take_10 : decode prog_7_method_2_code 10 = .ok (.bipush 12, 2) := by decide +kernel
theorem t_X5_take_12 : decode prog_7_method_2_code 12 = .ok (.invokestatic 22, 3) := by decide +kernel
theorem t_X5_take_15 : decode prog_7_method_2_code 15 = .ok (.aload_n 0, 1) := by decide +kernel
theorem t_X5_take_16 : decode prog_7_method_2_code 16 = .ok (.getfield 15, 3) := by decide +kernel
theorem t_X5_take_19 : decode prog_7_method_2_code 19 = .ok (.iconst 0, 1) := by decide +kernel
theorem t_X5_take_20 : decode prog_7_method_2_code 20 = .ok (.aload_n 1, 1) := by decide +kernel
theorem t_X5_take_21 : decode prog_7_method_2_code 21 = .ok (.getfield 15, 3) := by decide +kernel
theorem t_X5_take_24 : decode prog_7_method_2_code 24 = .ok (.iconst 0, 1) := by decide +kernel
theorem t_X5_take_25 : decode prog_7_method_2_code 25 = .ok (.iaload, 1) := by decide +kernel
theorem t_X5_take_26 : decode prog_7_method_2_code 26 = .ok (.iastore, 1) := by decide +kernel
theorem t_X5_take_27 : decode prog_7_method_2_code 27 = .ok (.aload_n 0, 1) := by decide +kernel
theorem t_X5_take_28 : decode prog_7_method_2_code 28 = .ok (.getfield 15, 3) := by decide +kernel
theorem t_X5_take_31 : decode prog_7_method_2_code 31 = .ok (.iconst 1, 1) := by decide +kernel
theorem t_X5_take_32 : decode prog_7_method_2_code 32 = .ok (.aload_n 1, 1) := by decide +kernel
theorem t_X5_take_33 : decode prog_7_method_2_code 33 = .ok (.getfield 15, 3) := by decide +kernel
theorem t_X5_take_36 : decode prog_7_method_2_code 36 = .ok (.iconst 1, 1) := by decide +kernel
theorem t_X5_take_37 : decode prog_7_method_2_code 37 = .ok (.iaload, 1) := by decide +kernel
theorem t_X5_take_38 : decode prog_7_method_2_code 38 = .ok (.iastore, 1) := by decide +kernel
theorem t_X5_take_39 : decode prog_7_method_2_code 39 = .ok (.aload_n 0, 1) := by decide +kernel
theorem t_X5_take_40 : decode prog_7_method_2_code 40 = .ok (.aload_n 1, 1) := by decide +kernel
theorem t_X5_take_41 : decode prog_7_method_2_code 41 = .ok (.getfield 18, 3) := by decide +kernel
theorem t_X5_take_44 : decode prog_7_method_2_code 44 = .ok (.putfield 18, 3) := by decide +kernel
theorem t_X5_take_47 : decode prog_7_method_2_code 47 = .ok (.aload_n 0, 1) := by decide +kernel
theorem t_X5_take_48 : decode prog_7_method_2_code 48 = .ok (.aload_n 1, 1) := by decide +kernel
theorem t_X5_take_49 : decode prog_7_method_2_code 49 = .ok (.getfield 28, 3) := by decide +kernel
theorem t_X5_take_52 : decode prog_7_method_2_code 52 = .ok (.putfield 28, 3) := by decide +kernel
theorem t_X5_take_55 : decode prog_7_method_2_code 55 = .ok (.aload_n 0, 1) := by decide +kernel
theorem t_X5_take_56 : decode prog_7_method_2_code 56 = .ok (.aload_n 1, 1) := by decide +kernel
theorem t_X5_take_57 : decode prog_7_method_2_code 57 = .ok (.getfield 31, 3) := by decide +kernel
theorem t_X5_take_60 : decode prog_7_method_2_code 60 = .ok (.putfield 31, 3) := by decide +kernel
theorem t_X5_take_63 : decode prog_7_method_2_code 63 = .ok (.return_, 1) := by decide +kernel
def y_X5_isOf : MethodName := ⟨"SowingBoards$Position", "isOf", "(II)Z"⟩
theorem t_X5_isOf_0 : decode prog_7_method_5_code 0 = .ok (.iload_n 1, 1) := by decide +kernel
theorem t_X5_isOf_1 : decode prog_7_method_5_code 1 = .ok (.iload_n 2, 1) := by decide +kernel
theorem t_X5_isOf_2 : decode prog_7_method_5_code 2 = .ok (.aload_n 0, 1) := by decide +kernel
theorem t_X5_isOf_3 : decode prog_7_method_5_code 3 = .ok (.getfield 18, 3) := by decide +kernel
theorem t_X5_isOf_6 : decode prog_7_method_5_code 6 = .ok (.imul, 1) := by decide +kernel
theorem t_X5_isOf_7 : decode prog_7_method_5_code 7 = .ok (.if_icmp .lt 19, 3) := by decide +kernel
theorem t_X5_isOf_10 : decode prog_7_method_5_code 10 = .ok (.iload_n 1, 1) := by decide +kernel
theorem t_X5_isOf_11 : decode prog_7_method_5_code 11 = .ok (.iload_n 2, 1) := by decide +kernel
theorem t_X5_isOf_12 : decode prog_7_method_5_code 12 = .ok (.iconst 1, 1) := by decide +kernel
theorem t_X5_isOf_13 : decode prog_7_method_5_code 13 = .ok (.iadd, 1) := by decide +kernel
theorem t_X5_isOf_14 : decode prog_7_method_5_code 14 = .ok (.aload_n 0, 1) := by decide +kernel
theorem t_X5_isOf_15 : decode prog_7_method_5_code 15 = .ok (.getfield 18, 3) := by decide +kernel
theorem t_X5_isOf_18 : decode prog_7_method_5_code 18 = .ok (.imul, 1) := by decide +kernel
theorem t_X5_isOf_19 : decode prog_7_method_5_code 19 = .ok (.if_icmp .ge 7, 3) := by decide +kernel
theorem t_X5_isOf_22 : decode prog_7_method_5_code 22 = .ok (.iconst 1, 1) := by decide +kernel
theorem t_X5_isOf_23 : decode prog_7_method_5_code 23 = .ok (.goto 4, 3) := by decide +kernel
theorem t_X5_isOf_26 : decode prog_7_method_5_code 26 = .ok (.iconst 0, 1) := by decide +kernel
theorem t_X5_isOf_27 : decode prog_7_method_5_code 27 = .ok (.ireturn, 1) := by decide +kernel
def y_X5_opposite : MethodName := ⟨"SowingBoards$Position", "opposite", "(I)I"⟩
theorem t_X5_opposite_0 : decode prog_7_method_6_code 0 = .ok (.iconst 2, 1) := by decide +kernel
theorem t_X5_opposite_1 : decode prog_7_method_6_code 1 = .ok (.aload_n 0, 1) := by decide +kernel
theorem t_X5_opposite_2 : decode prog_7_method_6_code 2 = .ok (.getfield 18, 3) := by decide +kernel
theorem t_X5_opposite_5 : decode prog_7_method_6_code 5 = .ok (.imul, 1) := by decide +kernel
theorem t_X5_opposite_6 : decode prog_7_method_6_code 6 = .ok (.iconst 1, 1) := by decide +kernel
theorem t_X5_opposite_7 : decode prog_7_method_6_code 7 = .ok (.isub, 1) := by decide +kernel
theorem t_X5_opposite_8 : decode prog_7_method_6_code 8 = .ok (.iload_n 1, 1) := by decide +kernel
theorem t_X5_opposite_9 : decode prog_7_method_6_code 9 = .ok (.isub, 1) := by decide +kernel
theorem t_X5_opposite_10 : decode prog_7_method_6_code 10 = .ok (.ireturn, 1) := by decide +kernel
def y_X5_emptyPitsOf : MethodName := ⟨"SowingBoards$Position", "emptyPitsOf", "(I)I"⟩
theorem t_X5_emptyPitsOf_0 : decode prog_7_method_11_code 0 = .ok (.iconst 0, 1) := by decide +kernel
theorem t_X5_emptyPitsOf_1 : decode prog_7_method_11_code 1 = .ok (.istore_n 2, 1) := by decide +kernel
theorem t_X5_emptyPitsOf_2 : decode prog_7_method_11_code 2 = .ok (.iload_n 1, 1) := by decide +kernel
theorem t_X5_emptyPitsOf_3 : decode prog_7_method_11_code 3 = .ok (.aload_n 0, 1) := by decide +kernel
theorem t_X5_emptyPitsOf_4 : decode prog_7_method_11_code 4 = .ok (.getfield 18, 3) := by decide +kernel
theorem t_X5_emptyPitsOf_7 : decode prog_7_method_11_code 7 = .ok (.imul, 1) := by decide +kernel
theorem t_X5_emptyPitsOf_8 : decode prog_7_method_11_code 8 = .ok (.istore_n 3, 1) := by decide +kernel
theorem t_X5_emptyPitsOf_9 : decode prog_7_method_11_code 9 = .ok (.iconst 0, 1) := by decide +kernel
theorem t_X5_emptyPitsOf_10 : decode prog_7_method_11_code 10 = .ok (.istore 4, 2) := by decide +kernel
theorem t_X5_emptyPitsOf_12 : decode prog_7_method_11_code 12 = .ok (.iload 4, 2) := by decide +kernel
theorem t_X5_emptyPitsOf_14 : decode prog_7_method_11_code 14 = .ok (.aload_n 0, 1) := by decide +kernel
theorem t_X5_emptyPitsOf_15 : decode prog_7_method_11_code 15 = .ok (.getfield 18, 3) := by decide +kernel
theorem t_X5_emptyPitsOf_18 : decode prog_7_method_11_code 18 = .ok (.if_icmp .ge 24, 3) := by decide +kernel
theorem t_X5_emptyPitsOf_21 : decode prog_7_method_11_code 21 = .ok (.aload_n 0, 1) := by decide +kernel
theorem t_X5_emptyPitsOf_22 : decode prog_7_method_11_code 22 = .ok (.getfield 9, 3) := by decide +kernel
theorem t_X5_emptyPitsOf_25 : decode prog_7_method_11_code 25 = .ok (.iload_n 3, 1) := by decide +kernel
theorem t_X5_emptyPitsOf_26 : decode prog_7_method_11_code 26 = .ok (.iload 4, 2) := by decide +kernel
theorem t_X5_emptyPitsOf_28 : decode prog_7_method_11_code 28 = .ok (.iadd, 1) := by decide +kernel
theorem t_X5_emptyPitsOf_29 : decode prog_7_method_11_code 29 = .ok (.iaload, 1) := by decide +kernel
theorem t_X5_emptyPitsOf_30 : decode prog_7_method_11_code 30 = .ok (.ifCond .ne 6, 3) := by decide +kernel
theorem t_X5_emptyPitsOf_33 : decode prog_7_method_11_code 33 = .ok (.iinc 2 1, 3) := by decide +kernel
theorem t_X5_emptyPitsOf_36 : decode prog_7_method_11_code 36 = .ok (.iinc 4 1, 3) := by decide +kernel
theorem t_X5_emptyPitsOf_39 : decode prog_7_method_11_code 39 = .ok (.goto (-27), 3) := by decide +kernel
theorem t_X5_emptyPitsOf_42 : decode prog_7_method_11_code 42 = .ok (.iload_n 2, 1) := by decide +kernel
theorem t_X5_emptyPitsOf_43 : decode prog_7_method_11_code 43 = .ok (.ireturn, 1) := by decide +kernel
def y_X5_inPitsOf : MethodName := ⟨"SowingBoards$Position", "inPitsOf", "(I)I"⟩
theorem t_X5_inPitsOf_0 : decode prog_7_method_7_code 0 = .ok (.iconst 0, 1) := by decide +kernel
theorem t_X5_inPitsOf_1 : decode prog_7_method_7_code 1 = .ok (.istore_n 2, 1) := by decide +kernel
theorem t_X5_inPitsOf_2 : decode prog_7_method_7_code 2 = .ok (.iload_n 1, 1) := by decide +kernel
theorem t_X5_inPitsOf_3 : decode prog_7_method_7_code 3 = .ok (.aload_n 0, 1) := by decide +kernel
theorem t_X5_inPitsOf_4 : decode prog_7_method_7_code 4 = .ok (.getfield 18, 3) := by decide +kernel
theorem t_X5_inPitsOf_7 : decode prog_7_method_7_code 7 = .ok (.imul, 1) := by decide +kernel
theorem t_X5_inPitsOf_8 : decode prog_7_method_7_code 8 = .ok (.istore_n 3, 1) := by decide +kernel
theorem t_X5_inPitsOf_9 : decode prog_7_method_7_code 9 = .ok (.iconst 0, 1) := by decide +kernel
theorem t_X5_inPitsOf_10 : decode prog_7_method_7_code 10 = .ok (.istore 4, 2) := by decide +kernel
theorem t_X5_inPitsOf_12 : decode prog_7_method_7_code 12 = .ok (.iload 4, 2) := by decide +kernel
theorem t_X5_inPitsOf_14 : decode prog_7_method_7_code 14 = .ok (.aload_n 0, 1) := by decide +kernel
theorem t_X5_inPitsOf_15 : decode prog_7_method_7_code 15 = .ok (.getfield 18, 3) := by decide +kernel
theorem t_X5_inPitsOf_18 : decode prog_7_method_7_code 18 = .ok (.if_icmp .ge 21, 3) := by decide +kernel
theorem t_X5_inPitsOf_21 : decode prog_7_method_7_code 21 = .ok (.iload_n 2, 1) := by decide +kernel
theorem t_X5_inPitsOf_22 : decode prog_7_method_7_code 22 = .ok (.aload_n 0, 1) := by decide +kernel
theorem t_X5_inPitsOf_23 : decode prog_7_method_7_code 23 = .ok (.getfield 9, 3) := by decide +kernel
theorem t_X5_inPitsOf_26 : decode prog_7_method_7_code 26 = .ok (.iload_n 3, 1) := by decide +kernel
theorem t_X5_inPitsOf_27 : decode prog_7_method_7_code 27 = .ok (.iload 4, 2) := by decide +kernel
theorem t_X5_inPitsOf_29 : decode prog_7_method_7_code 29 = .ok (.iadd, 1) := by decide +kernel
theorem t_X5_inPitsOf_30 : decode prog_7_method_7_code 30 = .ok (.iaload, 1) := by decide +kernel
theorem t_X5_inPitsOf_31 : decode prog_7_method_7_code 31 = .ok (.iadd, 1) := by decide +kernel
theorem t_X5_inPitsOf_32 : decode prog_7_method_7_code 32 = .ok (.istore_n 2, 1) := by decide +kernel
theorem t_X5_inPitsOf_33 : decode prog_7_method_7_code 33 = .ok (.iinc 4 1, 3) := by decide +kernel
theorem t_X5_inPitsOf_36 : decode prog_7_method_7_code 36 = .ok (.goto (-24), 3) := by decide +kernel
theorem t_X5_inPitsOf_39 : decode prog_7_method_7_code 39 = .ok (.iload_n 2, 1) := by decide +kernel
theorem t_X5_inPitsOf_40 : decode prog_7_method_7_code 40 = .ok (.ireturn, 1) := by decide +kernel
def y_X5_pass : MethodName := ⟨"SowingBoards$Position", "pass", "()V"⟩
theorem t_X5_pass_0 : decode prog_7_method_16_code 0 = .ok (.aload_n 0, 1) := by decide +kernel
theorem t_X5_pass_1 : decode prog_7_method_16_code 1 = .ok (.iconst 1, 1) := by decide +kernel
theorem t_X5_pass_2 : decode prog_7_method_16_code 2 = .ok (.aload_n 0, 1) := by decide +kernel
theorem t_X5_pass_3 : decode prog_7_method_16_code 3 = .ok (.getfield 28, 3) := by decide +kernel
theorem t_X5_pass_6 : decode prog_7_method_16_code 6 = .ok (.isub, 1) := by decide +kernel
theorem t_X5_pass_7 : decode prog_7_method_16_code 7 = .ok (.putfield 28, 3) := by decide +kernel
theorem t_X5_pass_10 : decode prog_7_method_16_code 10 = .ok (.return_, 1) := by decide +kernel
def y_X5_canMove : MethodName := ⟨"SowingBoards$Position", "canMove", "(I)Z"⟩
theorem t_X5_canMove_0 : decode prog_7_method_15_code 0 = .ok (.iload_n 1, 1) := by decide +kernel
theorem t_X5_canMove_1 : decode prog_7_method_15_code 1 = .ok (.ifCond .lt 34, 3) := by decide +kernel
theorem t_X5_canMove_4 : decode prog_7_method_15_code 4 = .ok (.iload_n 1, 1) := by decide +kernel
theorem t_X5_canMove_5 : decode prog_7_method_15_code 5 = .ok (.aload_n 0, 1) := by decide +kernel
theorem t_X5_canMove_6 : decode prog_7_method_15_code 6 = .ok (.getfield 18, 3) := by decide +kernel
theorem t_X5_canMove_9 : decode prog_7_method_15_code 9 = .ok (.if_icmp .ge 26, 3) := by decide +kernel
theorem t_X5_canMove_12 : decode prog_7_method_15_code 12 = .ok (.aload_n 0, 1) := by decide +kernel
theorem t_X5_canMove_13 : decode prog_7_method_15_code 13 = .ok (.getfield 9, 3) := by decide +kernel
theorem t_X5_canMove_16 : decode prog_7_method_15_code 16 = .ok (.aload_n 0, 1) := by decide +kernel
theorem t_X5_canMove_17 : decode prog_7_method_15_code 17 = .ok (.getfield 28, 3) := by decide +kernel
theorem t_X5_canMove_20 : decode prog_7_method_15_code 20 = .ok (.aload_n 0, 1) := by decide +kernel
theorem t_X5_canMove_21 : decode prog_7_method_15_code 21 = .ok (.getfield 18, 3) := by decide +kernel
theorem t_X5_canMove_24 : decode prog_7_method_15_code 24 = .ok (.imul, 1) := by decide +kernel
theorem t_X5_canMove_25 : decode prog_7_method_15_code 25 = .ok (.iload_n 1, 1) := by decide +kernel
theorem t_X5_canMove_26 : decode prog_7_method_15_code 26 = .ok (.iadd, 1) := by decide +kernel
theorem t_X5_canMove_27 : decode prog_7_method_15_code 27 = .ok (.iaload, 1) := by decide +kernel
theorem t_X5_canMove_28 : decode prog_7_method_15_code 28 = .ok (.ifCond .le 7, 3) := by decide +kernel
theorem t_X5_canMove_31 : decode prog_7_method_15_code 31 = .ok (.iconst 1, 1) := by decide +kernel
theorem t_X5_canMove_32 : decode prog_7_method_15_code 32 = .ok (.goto 4, 3) := by decide +kernel
theorem t_X5_canMove_35 : decode prog_7_method_15_code 35 = .ok (.iconst 0, 1) := by decide +kernel
theorem t_X5_canMove_36 : decode prog_7_method_15_code 36 = .ok (.ireturn, 1) := by decide +kernel
def y_X5_pits : MethodName := ⟨"SowingBoards$Position", "pits", "()I"⟩
theorem t_X5_pits_0 : decode prog_7_method_3_code 0 = .ok (.iconst 2, 1) := by decide +kernel
theorem t_X5_pits_1 : decode prog_7_method_3_code 1 = .ok (.aload_n 0, 1) := by decide +kernel
theorem t_X5_pits_2 : decode prog_7_method_3_code 2 = .ok (.getfield 18, 3) := by decide +kernel
theorem t_X5_pits_5 : decode prog_7_method_3_code 5 = .ok (.imul, 1) := by decide +kernel
theorem t_X5_pits_6 : decode prog_7_method_3_code 6 = .ok (.ireturn, 1) := by decide +kernel
def y_X5_hasPit : MethodName := ⟨"SowingBoards$Position", "hasPit", "(I)Z"⟩
theorem t_X5_hasPit_0 : decode prog_7_method_4_code 0 = .ok (.iload_n 1, 1) := by decide +kernel
theorem t_X5_hasPit_1 : decode prog_7_method_4_code 1 = .ok (.ifCond .lt 17, 3) := by decide +kernel
theorem t_X5_hasPit_4 : decode prog_7_method_4_code 4 = .ok (.iload_n 1, 1) := by decide +kernel
theorem t_X5_hasPit_5 : decode prog_7_method_4_code 5 = .ok (.iconst 2, 1) := by decide +kernel
theorem t_X5_hasPit_6 : decode prog_7_method_4_code 6 = .ok (.aload_n 0, 1) := by decide +kernel
theorem t_X5_hasPit_7 : decode prog_7_method_4_code 7 = .ok (.getfield 18, 3) := by decide +kernel
theorem t_X5_hasPit_10 : decode prog_7_method_4_code 10 = .ok (.imul, 1) := by decide +kernel
theorem t_X5_hasPit_11 : decode prog_7_method_4_code 11 = .ok (.if_icmp .ge 7, 3) := by decide +kernel
theorem t_X5_hasPit_14 : decode prog_7_method_4_code 14 = .ok (.iconst 1, 1) := by decide +kernel
theorem t_X5_hasPit_15 : decode prog_7_method_4_code 15 = .ok (.goto 4, 3) := by decide +kernel
theorem t_X5_hasPit_18 : decode prog_7_method_4_code 18 = .ok (.iconst 0, 1) := by decide +kernel
theorem t_X5_hasPit_19 : decode prog_7_method_4_code 19 = .ok (.ireturn, 1) := by decide +kernel
def y_X5_inPits : MethodName := ⟨"SowingBoards$Position", "inPits", "()I"⟩
theorem t_X5_inPits_0 : decode prog_7_method_8_code 0 = .ok (.aload_n 0, 1) := by decide +kernel
theorem t_X5_inPits_1 : decode prog_7_method_8_code 1 = .ok (.iconst 0, 1) := by decide +kernel
theorem t_X5_inPits_2 : decode prog_7_method_8_code 2 = .ok (.invokevirtual 34, 3) := by decide +kernel
theorem t_X5_inPits_5 : decode prog_7_method_8_code 5 = .ok (.aload_n 0, 1) := by decide +kernel
theorem t_X5_inPits_6 : decode prog_7_method_8_code 6 = .ok (.iconst 1, 1) := by decide +kernel
theorem t_X5_inPits_7 : decode prog_7_method_8_code 7 = .ok (.invokevirtual 34, 3) := by decide +kernel
theorem t_X5_inPits_10 : decode prog_7_method_8_code 10 = .ok (.iadd, 1) := by decide +kernel
theorem t_X5_inPits_11 : decode prog_7_method_8_code 11 = .ok (.ireturn, 1) := by decide +kernel
def y_X5_ownedBy : MethodName := ⟨"SowingBoards$Position", "ownedBy", "(I)I"⟩
theorem t_X5_ownedBy_0 : decode prog_7_method_10_code 0 = .ok (.aload_n 0, 1) := by decide +kernel
theorem t_X5_ownedBy_1 : decode prog_7_method_10_code 1 = .ok (.getfield 15, 3) := by decide +kernel
theorem t_X5_ownedBy_4 : decode prog_7_method_10_code 4 = .ok (.iload_n 1, 1) := by decide +kernel
theorem t_X5_ownedBy_5 : decode prog_7_method_10_code 5 = .ok (.iaload, 1) := by decide +kernel
theorem t_X5_ownedBy_6 : decode prog_7_method_10_code 6 = .ok (.aload_n 0, 1) := by decide +kernel
theorem t_X5_ownedBy_7 : decode prog_7_method_10_code 7 = .ok (.iload_n 1, 1) := by decide +kernel
theorem t_X5_ownedBy_8 : decode prog_7_method_10_code 8 = .ok (.invokevirtual 34, 3) := by decide +kernel
theorem t_X5_ownedBy_11 : decode prog_7_method_10_code 11 = .ok (.iadd, 1) := by decide +kernel
theorem t_X5_ownedBy_12 : decode prog_7_method_10_code 12 = .ok (.ireturn, 1) := by decide +kernel
def y_X5_inAll : MethodName := ⟨"SowingBoards$Position", "inAll", "()I"⟩
theorem t_X5_inAll_0 : decode prog_7_method_9_code 0 = .ok (.aload_n 0, 1) := by decide +kernel
theorem t_X5_inAll_1 : decode prog_7_method_9_code 1 = .ok (.iconst 0, 1) := by decide +kernel
theorem t_X5_inAll_2 : decode prog_7_method_9_code 2 = .ok (.invokevirtual 38, 3) := by decide +kernel
theorem t_X5_inAll_5 : decode prog_7_method_9_code 5 = .ok (.aload_n 0, 1) := by decide +kernel
theorem t_X5_inAll_6 : decode prog_7_method_9_code 6 = .ok (.iconst 1, 1) := by decide +kernel
theorem t_X5_inAll_7 : decode prog_7_method_9_code 7 = .ok (.invokevirtual 38, 3) := by decide +kernel
theorem t_X5_inAll_10 : decode prog_7_method_9_code 10 = .ok (.iadd, 1) := by decide +kernel
theorem t_X5_inAll_11 : decode prog_7_method_9_code 11 = .ok (.ireturn, 1) := by decide +kernel
def y_X5_fullPits : MethodName := ⟨"SowingBoards$Position", "fullPits", "()I"⟩
theorem t_X5_fullPits_0 : decode prog_7_method_12_code 0 = .ok (.aload_n 0, 1) := by decide +kernel
theorem t_X5_fullPits_1 : decode prog_7_method_12_code 1 = .ok (.getfield 18, 3) := by decide +kernel
theorem t_X5_fullPits_4 : decode prog_7_method_12_code 4 = .ok (.aload_n 0, 1) := by decide +kernel
theorem t_X5_fullPits_5 : decode prog_7_method_12_code 5 = .ok (.aload_n 0, 1) := by decide +kernel
theorem t_X5_fullPits_6 : decode prog_7_method_12_code 6 = .ok (.getfield 28, 3) := by decide +kernel
theorem t_X5_fullPits_9 : decode prog_7_method_12_code 9 = .ok (.invokevirtual 41, 3) := by decide +kernel
theorem t_X5_fullPits_12 : decode prog_7_method_12_code 12 = .ok (.isub, 1) := by decide +kernel
theorem t_X5_fullPits_13 : decode prog_7_method_12_code 13 = .ok (.ireturn, 1) := by decide +kernel
def y_X5_fullPit : MethodName := ⟨"SowingBoards$Position", "fullPit", "(I)I"⟩
theorem t_X5_fullPit_0 : decode prog_7_method_13_code 0 = .ok (.iload_n 1, 1) := by decide +kernel
theorem t_X5_fullPit_1 : decode prog_7_method_13_code 1 = .ok (.istore_n 2, 1) := by decide +kernel
theorem t_X5_fullPit_2 : decode prog_7_method_13_code 2 = .ok (.iconst 0, 1) := by decide +kernel
theorem t_X5_fullPit_3 : decode prog_7_method_13_code 3 = .ok (.istore_n 3, 1) := by decide +kernel
theorem t_X5_fullPit_4 : decode prog_7_method_13_code 4 = .ok (.iload_n 3, 1) := by decide +kernel
theorem t_X5_fullPit_5 : decode prog_7_method_13_code 5 = .ok (.aload_n 0, 1) := by decide +kernel
theorem t_X5_fullPit_6 : decode prog_7_method_13_code 6 = .ok (.getfield 18, 3) := by decide +kernel
theorem t_X5_fullPit_9 : decode prog_7_method_13_code 9 = .ok (.if_icmp .ge 26, 3) := by decide +kernel
theorem t_X5_fullPit_12 : decode prog_7_method_13_code 12 = .ok (.aload_n 0, 1) := by decide +kernel
theorem t_X5_fullPit_13 : decode prog_7_method_13_code 13 = .ok (.iload_n 3, 1) := by decide +kernel
theorem t_X5_fullPit_14 : decode prog_7_method_13_code 14 = .ok (.invokevirtual 44, 3) := by decide +kernel
theorem t_X5_fullPit_17 : decode prog_7_method_13_code 17 = .ok (.ifCond .eq 12, 3) := by decide +kernel
theorem t_X5_fullPit_20 : decode prog_7_method_13_code 20 = .ok (.iload_n 2, 1) := by decide +kernel
theorem t_X5_fullPit_21 : decode prog_7_method_13_code 21 = .ok (.ifCond .ne 5, 3) := by decide +kernel
theorem t_X5_fullPit_24 : decode prog_7_method_13_code 24 = .ok (.iload_n 3, 1) := by decide +kernel
theorem t_X5_fullPit_25 : decode prog_7_method_13_code 25 = .ok (.ireturn, 1) := by decide +kernel
theorem t_X5_fullPit_26 : decode prog_7_method_13_code 26 = .ok (.iinc 2 (-1), 3) := by decide +kernel
theorem t_X5_fullPit_29 : decode prog_7_method_13_code 29 = .ok (.iinc 3 1, 3) := by decide +kernel
theorem t_X5_fullPit_32 : decode prog_7_method_13_code 32 = .ok (.goto (-28), 3) := by decide +kernel
theorem t_X5_fullPit_35 : decode prog_7_method_13_code 35 = .ok (.iconst (-1), 1) := by decide +kernel
theorem t_X5_fullPit_36 : decode prog_7_method_13_code 36 = .ok (.ireturn, 1) := by decide +kernel
def y_X5_isOver : MethodName := ⟨"SowingBoards$Position", "isOver", "()Z"⟩
theorem t_X5_isOver_0 : decode prog_7_method_14_code 0 = .ok (.aload_n 0, 1) := by decide +kernel
theorem t_X5_isOver_1 : decode prog_7_method_14_code 1 = .ok (.aload_n 0, 1) := by decide +kernel
theorem t_X5_isOver_2 : decode prog_7_method_14_code 2 = .ok (.getfield 28, 3) := by decide +kernel
theorem t_X5_isOver_5 : decode prog_7_method_14_code 5 = .ok (.invokevirtual 34, 3) := by decide +kernel
theorem t_X5_isOver_8 : decode prog_7_method_14_code 8 = .ok (.ifCond .ne 7, 3) := by decide +kernel
theorem t_X5_isOver_11 : decode prog_7_method_14_code 11 = .ok (.iconst 1, 1) := by decide +kernel
theorem t_X5_isOver_12 : decode prog_7_method_14_code 12 = .ok (.goto 4, 3) := by decide +kernel
theorem t_X5_isOver_15 : decode prog_7_method_14_code 15 = .ok (.iconst 0, 1) := by decide +kernel
theorem t_X5_isOver_16 : decode prog_7_method_14_code 16 = .ok (.ireturn, 1) := by decide +kernel
theorem fl_5_9 : FLk "SowingBoards$Position" 9 5 0 := ⟨_, rfl, by decide, Or.inl (vtb_at 180 (by decide +kernel) rfl)⟩
theorem fl_5_15 : FLk "SowingBoards$Position" 15 5 1 := ⟨_, rfl, by decide, Or.inl (vtb_at 184 (by decide +kernel) rfl)⟩
theorem fl_5_18 : FLk "SowingBoards$Position" 18 5 2 := ⟨_, rfl, by decide, Or.inl (vtb_at 189 (by decide +kernel) rfl)⟩
theorem fl_5_28 : FLk "SowingBoards$Position" 28 5 3 := ⟨_, rfl, by decide, Or.inl (vtb_at 195 (by decide +kernel) rfl)⟩
theorem fl_5_31 : FLk "SowingBoards$Position" 31 5 4 := ⟨_, rfl, by decide, Or.inl (vtb_at 199 (by decide +kernel) rfl)⟩
theorem fp_5_2 : FPk 5 2 "I" := ⟨_, rfl, rfl, rfl⟩
theorem fp_5_3 : FPk 5 3 "I" := ⟨_, rfl, rfl, rfl⟩
theorem fp_5_4 : FPk 5 4 "I" := ⟨_, rfl, rfl, rfl⟩
theorem my_X5_inPitsOf : MY y_X5_inPitsOf prog_7_method_7_code 5 (some .int) 1 := ⟨vtb_at 584 (by decide +kernel) rfl, vtb_at 140 (by decide +kernel) rfl, ⟨by decide, by decide, by decide +kernel⟩, by decide⟩
theorem mi_X5_inPitsOf : MI y_X5_inPitsOf := ⟨vtb_at 583 (by decide +kernel) rfl, vtb_at 12 (by decide +kernel) rfl⟩
theorem my_X5_ownedBy : MY y_X5_ownedBy prog_7_method_10_code 2 (some .int) 1 := ⟨vtb_at 894 (by decide +kernel) rfl, vtb_at 140 (by decide +kernel) rfl, ⟨by decide, by decide, by decide +kernel⟩, by decide⟩
theorem mi_X5_ownedBy : MI y_X5_ownedBy := ⟨vtb_at 893 (by decide +kernel) rfl, vtb_at 51 (by decide +kernel) rfl⟩
theorem my_X5_emptyPitsOf : MY y_X5_emptyPitsOf prog_7_method_11_code 5 (some .int) 1 := ⟨vtb_at 818 (by decide +kernel) rfl, vtb_at 140 (by decide +kernel) rfl, ⟨by decide, by decide, by decide +kernel⟩, by decide⟩
theorem mi_X5_emptyPitsOf : MI y_X5_emptyPitsOf := ⟨vtb_at 817 (by decide +kernel) rfl, vtb_at 38 (by decide +kernel) rfl⟩
theorem my_X5_canMove : MY y_X5_canMove prog_7_method_15_code 2 (some .boolean) 1 := ⟨vtb_at 763 (by decide +kernel) rfl, vtb_at 140 (by decide +kernel) rfl, ⟨by decide, by decide, by decide +kernel⟩, by decide⟩
theorem mi_X5_canMove : MI y_X5_canMove := ⟨vtb_at 762 (by decide +kernel) rfl, vtb_at 25 (by decide +kernel) rfl⟩
theorem ml_5_22 : Cond.methodLink "SowingBoards$Position" 22 arraycopyName ∈ vtb := vtb_at 772 (by decide +kernel) rfl
theorem ml_5_34 : ML "SowingBoards$Position" 34 y_X5_inPitsOf := Or.inl (vtb_at 581 (by decide +kernel) rfl)
theorem ml_5_38 : ML "SowingBoards$Position" 38 y_X5_ownedBy := Or.inl (vtb_at 891 (by decide +kernel) rfl)
theorem ml_5_41 : ML "SowingBoards$Position" 41 y_X5_emptyPitsOf := Or.inl (vtb_at 1060 (by decide +kernel) rfl)
theorem ml_5_44 : ML "SowingBoards$Position" 44 y_X5_canMove := Or.inl (vtb_at 1229 (by decide +kernel) rfl)
def D_X5_take (o0 : Nat) (o1 : Nat) : Wd → Option Wd := fun w =>
  if cpb 0 0 12 12 12 then bd (wC w (o1 + 1) (o0 + 1) 0 0 12) (fun w1 => if ib 0 2 then (if ib 0 2 then bd (wI w1 (o0 + 2) (0 : Int32).toNatClampNeg (w1.1 (o1 + 2) (0 : Int32).toNatClampNeg)) (fun w2 => if ib 1 2 then (if ib 1 2 then bd (wI w2 (o0 + 2) (1 : Int32).toNatClampNeg (w2.1 (o1 + 2) (1 : Int32).toNatClampNeg)) (fun w3 => bd (wI w3 o0 2 (w3.1 o1 2)) fun w4 => bd (wI w4 o0 3 (w4.1 o1 3)) fun w5 => bd (wI w5 o0 4 (w5.1 o1 4)) fun w6 => some w6) else none) else none) else none) else none) else none
set_option maxRecDepth 20000 in
theorem S_X5_take {l0 : Launch} {ρ : Nat → Nat} {cs : Nat → ClassId} {G : va_G} (hρ : injN ρ) {o0 : Nat} (ho0 : isPos o0) {o1 : Nat} (ho1 : isPos o1) {w : Wd} {rr : Wd} (hD : D_X5_take o0 o1 w = some rr) : CtV l0 ρ cs G y_X5_take prog_7_method_2_code 2 0 [.ref (ρ o0), .ref (ρ o1)] w rr := by
  refine ctV_of hρ (by decide) (Nat.le_of_ble_eq_true rfl) (fun X hn h hR => ?_)
  unfold D_X5_take at hD
  show gG ρ cs G X 0 [(0, .ref (ρ o0)), (1, .ref (ρ o1))] [] w
  refine g_aload_n h 1 t_X5_take_0 rfl ?_
  refine g_getQ h o1 0 (o1 + 1) 1 (by decide) rfl fl_5_9 (isPos_sh ho1) (isPos_lt ho1) rfl t_X5_take_1 ?_
  refine g_iconst (v := 0) h t_X5_take_4 (by decide) ?_
  refine g_aload_n h 0 t_X5_take_5 rfl ?_
  refine g_getQ h o0 0 (o0 + 1) 1 (by decide) rfl fl_5_9 (isPos_sh ho0) (isPos_lt ho0) rfl t_X5_take_6 ?_
  refine g_iconst (v := 0) h t_X5_take_9 (by decide) ?_
  refine g_bipush (v := 12) h t_X5_take_10 (by decide) ?_
  refine g_acpy h hn (st := []) (o1 + 1) (o0 + 1) (isPos_s1 ho1) (isPos_l1 ho1) (isPos_s1 ho0) (isPos_l1 ho0) ml_5_22 (Nat.le_of_ble_eq_true rfl) t_X5_take_12 hD (fun w1 hD => ?_)
  refine g_aload_n h 0 t_X5_take_15 rfl ?_
  refine g_getQ h o0 1 (o0 + 2) 2 (by decide) rfl fl_5_15 (isPos_sh ho0) (isPos_lt ho0) rfl t_X5_take_16 ?_
  refine g_iconst (v := 0) h t_X5_take_19 (by decide) ?_
  refine g_aload_n h 1 t_X5_take_20 rfl ?_
  refine g_getQ h o1 1 (o1 + 2) 2 (by decide) rfl fl_5_15 (isPos_sh ho1) (isPos_lt ho1) rfl t_X5_take_21 ?_
  refine g_iconst (v := 0) h t_X5_take_24 (by decide) ?_
  refine g_iald h (o1 + 2) (isPos_s2 ho1) (isPos_l2 ho1) t_X5_take_25 hD (fun hD => ?_)
  refine g_iast h (o0 + 2) (isPos_s2 ho0) (isPos_l2 ho0) t_X5_take_26 hD (fun w2 hD => ?_)
  refine g_aload_n h 0 t_X5_take_27 rfl ?_
  refine g_getQ h o0 1 (o0 + 2) 2 (by decide) rfl fl_5_15 (isPos_sh ho0) (isPos_lt ho0) rfl t_X5_take_28 ?_
  refine g_iconst (v := 1) h t_X5_take_31 (by decide) ?_
  refine g_aload_n h 1 t_X5_take_32 rfl ?_
  refine g_getQ h o1 1 (o1 + 2) 2 (by decide) rfl fl_5_15 (isPos_sh ho1) (isPos_lt ho1) rfl t_X5_take_33 ?_
  refine g_iconst (v := 1) h t_X5_take_36 (by decide) ?_
  refine g_iald h (o1 + 2) (isPos_s2 ho1) (isPos_l2 ho1) t_X5_take_37 hD (fun hD => ?_)
  refine g_iast h (o0 + 2) (isPos_s2 ho0) (isPos_l2 ho0) t_X5_take_38 hD (fun w3 hD => ?_)
  refine g_aload_n h 0 t_X5_take_39 rfl ?_
  refine g_aload_n h 1 t_X5_take_40 rfl ?_
  refine g_getI h o1 2 fl_5_18 (isPos_sh ho1) (isPos_lt ho1) rfl t_X5_take_41 ?_
  refine g_putI h o0 2 fl_5_18 fp_5_2 (isPos_sh ho0) (isPos_lt ho0) rfl t_X5_take_44 hD (fun w4 hD => ?_)
  refine g_aload_n h 0 t_X5_take_47 rfl ?_
  refine g_aload_n h 1 t_X5_take_48 rfl ?_
  refine g_getI h o1 3 fl_5_28 (isPos_sh ho1) (isPos_lt ho1) rfl t_X5_take_49 ?_
  refine g_putI h o0 3 fl_5_28 fp_5_3 (isPos_sh ho0) (isPos_lt ho0) rfl t_X5_take_52 hD (fun w5 hD => ?_)
  refine g_aload_n h 0 t_X5_take_55 rfl ?_
  refine g_aload_n h 1 t_X5_take_56 rfl ?_
  refine g_getI h o1 4 fl_5_31 (isPos_sh ho1) (isPos_lt ho1) rfl t_X5_take_57 ?_
  refine g_putI h o0 4 fl_5_31 fp_5_4 (isPos_sh ho0) (isPos_lt ho0) rfl t_X5_take_60 hD (fun w6 hD => ?_)
  obtain rfl := Option.some.inj hD
  exact hR _ _ t_X5_take_63
def D_X5_isOf (o0 : Nat) (p1 : Int32) (p2 : Int32) : Wd → Option (Int32 × Wd) := fun w =>
  if p1 < (p2 * (w.1 o0 2)) then (some (0, w)) else (if ((p2 + 1) * (w.1 o0 2)) ≤ p1 then (some (0, w)) else (some (1, w)))
set_option maxRecDepth 20000 in
theorem S_X5_isOf {l0 : Launch} {ρ : Nat → Nat} {cs : Nat → ClassId} {G : va_G} (hρ : injN ρ) {o0 : Nat} (ho0 : isPos o0) {p1 : Int32} {p2 : Int32} {w : Wd} {rr : (Int32 × Wd)} (hD : D_X5_isOf o0 p1 p2 w = some rr) : CtI l0 ρ cs G y_X5_isOf prog_7_method_5_code 3 .boolean 0 [.ref (ρ o0), .int p1, .int p2] w rr.1 rr.2 := by
  refine ctI_of hρ (by decide) (Nat.le_of_ble_eq_true rfl) (fun X hn h hR => ?_)
  unfold D_X5_isOf at hD
  show gG ρ cs G X 0 [(0, .ref (ρ o0)), (1, .int p1), (2, .int p2)] [] w
  refine g_iload_n h 1 t_X5_isOf_0 rfl ?_
  refine g_iload_n h 2 t_X5_isOf_1 rfl ?_
  refine g_aload_n h 0 t_X5_isOf_2 rfl ?_
  refine g_getI h o0 2 fl_5_18 (isPos_sh ho0) (isPos_lt ho0) rfl t_X5_isOf_3 ?_
  refine g_imul h t_X5_isOf_6 ?_
  refine g_icmp_lt (tgt := 26) h t_X5_isOf_7 (by decide) hD (fun hD => ?_) (fun hD => ?_)
  · refine g_iconst (v := 0) h t_X5_isOf_26 (by decide) ?_
    obtain rfl := Option.some.inj hD
    exact hR _ _ t_X5_isOf_27 (b01_n rfl)
  · refine g_iload_n h 1 t_X5_isOf_10 rfl ?_
    refine g_iload_n h 2 t_X5_isOf_11 rfl ?_
    refine g_iconst (v := 1) h t_X5_isOf_12 (by decide) ?_
    refine g_iadd h t_X5_isOf_13 ?_
    refine g_aload_n h 0 t_X5_isOf_14 rfl ?_
    refine g_getI h o0 2 fl_5_18 (isPos_sh ho0) (isPos_lt ho0) rfl t_X5_isOf_15 ?_
    refine g_imul h t_X5_isOf_18 ?_
    refine g_icmp_ge (tgt := 26) h t_X5_isOf_19 (by decide) hD (fun hD => ?_) (fun hD => ?_)
    · refine g_iconst (v := 0) h t_X5_isOf_26 (by decide) ?_
      obtain rfl := Option.some.inj hD
      exact hR _ _ t_X5_isOf_27 (b01_n rfl)
    · refine g_iconst (v := 1) h t_X5_isOf_22 (by decide) ?_
      refine g_goto (tgt := 27) h t_X5_isOf_23 (by decide) ?_
      obtain rfl := Option.some.inj hD
      exact hR _ _ t_X5_isOf_27 (b01_n rfl)
def D_X5_opposite (o0 : Nat) (p1 : Int32) : Wd → Option (Int32 × Wd) := fun w =>
  some (((2 * (w.1 o0 2)) - 1) - p1, w)
set_option maxRecDepth 20000 in
theorem S_X5_opposite {l0 : Launch} {ρ : Nat → Nat} {cs : Nat → ClassId} {G : va_G} (hρ : injN ρ) {o0 : Nat} (ho0 : isPos o0) {p1 : Int32} {w : Wd} {rr : (Int32 × Wd)} (hD : D_X5_opposite o0 p1 w = some rr) : CtI l0 ρ cs G y_X5_opposite prog_7_method_6_code 2 .int 0 [.ref (ρ o0), .int p1] w rr.1 rr.2 := by
  refine ctI_of hρ (by decide) (Nat.le_of_ble_eq_true rfl) (fun X hn h hR => ?_)
  unfold D_X5_opposite at hD
  show gG ρ cs G X 0 [(0, .ref (ρ o0)), (1, .int p1)] [] w
  refine g_iconst (v := 2) h t_X5_opposite_0 (by decide) ?_
  refine g_aload_n h 0 t_X5_opposite_1 rfl ?_
  refine g_getI h o0 2 fl_5_18 (isPos_sh ho0) (isPos_lt ho0) rfl t_X5_opposite_2 ?_
  refine g_imul h t_X5_opposite_5 ?_
  refine g_iconst (v := 1) h t_X5_opposite_6 (by decide) ?_
  refine g_isub h t_X5_opposite_7 ?_
  refine g_iload_n h 1 t_X5_opposite_8 rfl ?_
  refine g_isub h t_X5_opposite_9 ?_
  obtain rfl := Option.some.inj hD
  exact hR _ _ t_X5_opposite_10 rfl
def J_X5_emptyPitsOf_j36_1 (r12 : Int32 → Int32 → Wd → Option (Int32 × Wd)) (x7 : Int32) : Int32 → Wd → Option (Int32 × Wd) := fun x9 w10 =>
  bd (x7 + 1) fun x12 => r12 x9 x12 w10
def L_X5_emptyPitsOf_12 (q2 : Nat) (x3 : Int32) (k4 : Int32 → Wd → Option (Int32 × Wd)) : Nat → Int32 → Int32 → Wd → Option (Int32 × Wd)
  | 0, _, _, _ => none
  | n5 + 1, x6, x7, w8 =>
    if (w8.1 q2 2) ≤ x7 then (k4 x6 w8) else (if ib (x3 + x7) 12 then (bd (J_X5_emptyPitsOf_j36_1 (L_X5_emptyPitsOf_12 q2 x3 k4 n5) x7) fun k11 => if (w8.1 (q2 + 1) (x3 + x7).toNatClampNeg) = 0 then (bd (x6 + 1) fun x13 => k11 x13 w8) else (k11 x6 w8)) else none)
def J_X5_emptyPitsOf_x42_2  : Int32 → Wd → Option (Int32 × Wd) := fun x14 w15 =>
  some (x14, w15)
def D_X5_emptyPitsOf (o0 : Nat) (p1 : Int32) : Wd → Option (Int32 × Wd) := fun w =>
  bd (p1 * (w.1 o0 2)) fun x1 => L_X5_emptyPitsOf_12 o0 x1 J_X5_emptyPitsOf_x42_2 FU 0 0 w
set_option maxRecDepth 20000 in
theorem Q_X5_emptyPitsOf_12 {l0 : Launch} {ρ : Nat → Nat} {cs : Nat → ClassId} {G : va_G} {X : Cx} (hρ : injN ρ) (hn : X.2.2.2.2.2.2.2.2.2.2.1 = 5) (h : Okx l0 ρ cs G X prog_7_method_11_code "SowingBoards$Position" 0) {rr : (Int32 × Wd)} (hR : ∀ pc L, decode prog_7_method_11_code pc = .ok (.ireturn, 1) → narrow .int (.int rr.1) = .int rr.1 → gG ρ cs G X pc L [.int rr.1] rr.2) {q2 : Nat} (hq2 : isPos q2) {x3 : Int32} {k4 : Int32 → Wd → Option (Int32 × Wd)} (hk4 : ∀ (z2 : Int32) (w1 : Wd), k4 z2 w1 = some rr → gG ρ cs G X 42 [(2, .int z2)] [] w1) : ∀ (n : Nat) (x6 : Int32) (x7 : Int32) (w : Wd), L_X5_emptyPitsOf_12 q2 x3 k4 n x6 x7 w = some rr → gG ρ cs G X 12 [(0, .ref (ρ q2)), (2, .int x6), (3, .int x3), (4, .int x7)] [] w := by
  intro n
  induction n with
  | zero =>
    intro x6 x7 w hD
    cases hD
  | succ n5 ih =>
    intro x6 x7 w8 hD
    unfold L_X5_emptyPitsOf_12 at hD
    refine g_iload h 3 t_X5_emptyPitsOf_12 rfl ?_
    refine g_aload_n h 0 t_X5_emptyPitsOf_14 rfl ?_
    refine g_getI h q2 2 fl_5_18 (isPos_sh hq2) (isPos_lt hq2) rfl t_X5_emptyPitsOf_15 ?_
    refine g_icmp_ge (tgt := 42) h t_X5_emptyPitsOf_18 (by decide) hD (fun hD => ?_) (fun hD => ?_)
    · refine g_loc (L' := [(2, .int x6)]) h [1] rfl ?_
      exact hk4 x6 _ hD
    · refine g_aload_n h 0 t_X5_emptyPitsOf_21 rfl ?_
      refine g_getQ h q2 0 (q2 + 1) 1 (by decide) rfl fl_5_9 (isPos_sh hq2) (isPos_lt hq2) rfl t_X5_emptyPitsOf_22 ?_
      refine g_iload_n h 2 t_X5_emptyPitsOf_25 rfl ?_
      refine g_iload h 3 t_X5_emptyPitsOf_26 rfl ?_
      refine g_iadd h t_X5_emptyPitsOf_28 ?_
      refine g_iald h (q2 + 1) (isPos_s1 hq2) (isPos_l1 hq2) t_X5_emptyPitsOf_29 hD (fun hD => ?_)
      refine g_join (P := fun k11 => ∀ (x9 : Int32) (w10 : Wd), k11 x9 w10 = some rr → gG ρ cs G X 36 [(0, .ref (ρ q2)), (2, .int x9), (3, .int x3), (4, .int x7)] [] w10) hD ?_ (fun k11 hk11 hD => ?_)
      · intro x9 w10 hD
        unfold J_X5_emptyPitsOf_j36_1 at hD
        obtain ⟨x12, ex12, hD⟩ := bd_ex hD
        refine g_iinc (v := x12) (L' := [(4, .int x12), (0, .ref (ρ q2)), (2, .int x9), (3, .int x3)]) h hn t_X5_emptyPitsOf_36 (k := 3) rfl (by rw [ex12]; rfl) (by decide) rfl ?_
        refine g_goto (tgt := 12) h t_X5_emptyPitsOf_39 (by decide) ?_
        refine g_loc (L' := [(0, .ref (ρ q2)), (2, .int x9), (3, .int x3), (4, .int x12)]) h [1, 2, 3, 0] rfl ?_
        exact ih x9 x12 _ hD
      · refine g_if_ne (tgt := 36) h t_X5_emptyPitsOf_30 (by decide) hD (fun hD => ?_) (fun hD => ?_)
        · refine g_loc (L' := [(0, .ref (ρ q2)), (2, .int x6), (3, .int x3), (4, .int x7)]) h [0, 1, 2, 3] rfl ?_
          exact hk11 x6 _ hD
        · obtain ⟨x13, ex13, hD⟩ := bd_ex hD
          refine g_iinc (v := x13) (L' := [(2, .int x13), (0, .ref (ρ q2)), (3, .int x3), (4, .int x7)]) h hn t_X5_emptyPitsOf_33 (k := 1) rfl (by rw [ex13]; rfl) (by decide) rfl ?_
          refine g_loc (L' := [(0, .ref (ρ q2)), (2, .int x13), (3, .int x3), (4, .int x7)]) h [1, 0, 2, 3] rfl ?_
          exact hk11 x13 _ hD
set_option maxRecDepth 20000 in
theorem S_X5_emptyPitsOf {l0 : Launch} {ρ : Nat → Nat} {cs : Nat → ClassId} {G : va_G} (hρ : injN ρ) {o0 : Nat} (ho0 : isPos o0) {p1 : Int32} {w : Wd} {rr : (Int32 × Wd)} (hD : D_X5_emptyPitsOf o0 p1 w = some rr) : CtI l0 ρ cs G y_X5_emptyPitsOf prog_7_method_11_code 5 .int 0 [.ref (ρ o0), .int p1] w rr.1 rr.2 := by
  refine ctI_of hρ (by decide) (Nat.le_of_ble_eq_true rfl) (fun X hn h hR => ?_)
  unfold D_X5_emptyPitsOf at hD
  show gG ρ cs G X 0 [(0, .ref (ρ o0)), (1, .int p1)] [] w
  refine g_iconst (v := 0) h t_X5_emptyPitsOf_0 (by decide) ?_
  refine g_istore_n (L' := [(2, .int 0), (0, .ref (ρ o0)), (1, .int p1)]) h hn t_X5_emptyPitsOf_1 rfl (by decide) rfl ?_
  refine g_iload_n h 2 t_X5_emptyPitsOf_2 rfl ?_
  refine g_aload_n h 1 t_X5_emptyPitsOf_3 rfl ?_
  refine g_getI h o0 2 fl_5_18 (isPos_sh ho0) (isPos_lt ho0) rfl t_X5_emptyPitsOf_4 ?_
  refine g_imul h t_X5_emptyPitsOf_7 ?_
  refine g_bdI hD (fun x1 hD => ?_)
  refine g_istore_n (L' := [(3, .int x1), (2, .int 0), (0, .ref (ρ o0)), (1, .int p1)]) h hn t_X5_emptyPitsOf_8 rfl (by decide) rfl ?_
  refine g_iconst (v := 0) h t_X5_emptyPitsOf_9 (by decide) ?_
  refine g_istore (L' := [(4, .int 0), (3, .int x1), (2, .int 0), (0, .ref (ρ o0)), (1, .int p1)]) h hn t_X5_emptyPitsOf_10 (by decide) rfl ?_
  refine g_loc (L' := [(0, .ref (ρ o0)), (2, .int 0), (3, .int x1), (4, .int 0)]) h [3, 2, 1, 0] rfl ?_
  refine Q_X5_emptyPitsOf_12 hρ hn h hR ho0 ?_ _ _ _ _ hD
  · intro x14 w15 hD
    unfold J_X5_emptyPitsOf_x42_2 at hD
    refine g_iload_n h 0 t_X5_emptyPitsOf_42 rfl ?_
    obtain rfl := Option.some.inj hD
    exact hR _ _ t_X5_emptyPitsOf_43 rfl
def L_X5_inPitsOf_12 (q2 : Nat) (x3 : Int32) (k4 : Int32 → Wd → Option (Int32 × Wd)) : Nat → Int32 → Int32 → Wd → Option (Int32 × Wd)
  | 0, _, _, _ => none
  | n5 + 1, x6, x7, w8 =>
    if (w8.1 q2 2) ≤ x7 then (k4 x6 w8) else (if ib (x3 + x7) 12 then (bd (x6 + (w8.1 (q2 + 1) (x3 + x7).toNatClampNeg)) fun x9 => bd (x7 + 1) fun x10 => L_X5_inPitsOf_12 q2 x3 k4 n5 x9 x10 w8) else none)
def J_X5_inPitsOf_x39_1  : Int32 → Wd → Option (Int32 × Wd) := fun x11 w12 =>
  some (x11, w12)
def D_X5_inPitsOf (o0 : Nat) (p1 : Int32) : Wd → Option (Int32 × Wd) := fun w =>
  bd (p1 * (w.1 o0 2)) fun x1 => L_X5_inPitsOf_12 o0 x1 J_X5_inPitsOf_x39_1 FU 0 0 w
set_option maxRecDepth 20000 in
theorem Q_X5_inPitsOf_12 {l0 : Launch} {ρ : Nat → Nat} {cs : Nat → ClassId} {G : va_G} {X : Cx} (hρ : injN ρ) (hn : X.2.2.2.2.2.2.2.2.2.2.1 = 5) (h : Okx l0 ρ cs G X prog_7_method_7_code "SowingBoards$Position" 0) {rr : (Int32 × Wd)} (hR : ∀ pc L, decode prog_7_method_7_code pc = .ok (.ireturn, 1) → narrow .int (.int rr.1) = .int rr.1 → gG ρ cs G X pc L [.int rr.1] rr.2) {q2 : Nat} (hq2 : isPos q2) {x3 : Int32} {k4 : Int32 → Wd → Option (Int32 × Wd)} (hk4 : ∀ (z2 : Int32) (w1 : Wd), k4 z2 w1 = some rr → gG ρ cs G X 39 [(2, .int z2)] [] w1) : ∀ (n : Nat) (x6 : Int32) (x7 : Int32) (w : Wd), L_X5_inPitsOf_12 q2 x3 k4 n x6 x7 w = some rr → gG ρ cs G X 12 [(0, .ref (ρ q2)), (2, .int x6), (3, .int x3), (4, .int x7)] [] w := by
  intro n
  induction n with
  | zero =>
    intro x6 x7 w hD
    cases hD
  | succ n5 ih =>
    intro x6 x7 w8 hD
    unfold L_X5_inPitsOf_12 at hD
    refine g_iload h 3 t_X5_inPitsOf_12 rfl ?_
    refine g_aload_n h 0 t_X5_inPitsOf_14 rfl ?_
    refine g_getI h q2 2 fl_5_18 (isPos_sh hq2) (isPos_lt hq2) rfl t_X5_inPitsOf_15 ?_
    refine g_icmp_ge (tgt := 39) h t_X5_inPitsOf_18 (by decide) hD (fun hD => ?_) (fun hD => ?_)
    · refine g_loc (L' := [(2, .int x6)]) h [1] rfl ?_
      exact hk4 x6 _ hD
    · refine g_iload_n h 1 t_X5_inPitsOf_21 rfl ?_
      refine g_aload_n h 0 t_X5_inPitsOf_22 rfl ?_
      refine g_getQ h q2 0 (q2 + 1) 1 (by decide) rfl fl_5_9 (isPos_sh hq2) (isPos_lt hq2) rfl t_X5_inPitsOf_23 ?_
      refine g_iload_n h 2 t_X5_inPitsOf_26 rfl ?_
      refine g_iload h 3 t_X5_inPitsOf_27 rfl ?_
      refine g_iadd h t_X5_inPitsOf_29 ?_
      refine g_iald h (q2 + 1) (isPos_s1 hq2) (isPos_l1 hq2) t_X5_inPitsOf_30 hD (fun hD => ?_)
      refine g_iadd h t_X5_inPitsOf_31 ?_
      refine g_bdI hD (fun x9 hD => ?_)
      refine g_istore_n (L' := [(2, .int x9), (0, .ref (ρ q2)), (3, .int x3), (4, .int x7)]) h hn t_X5_inPitsOf_32 rfl (by decide) rfl ?_
      obtain ⟨x10, ex10, hD⟩ := bd_ex hD
      refine g_iinc (v := x10) (L' := [(4, .int x10), (2, .int x9), (0, .ref (ρ q2)), (3, .int x3)]) h hn t_X5_inPitsOf_33 (k := 3) rfl (by rw [ex10]; rfl) (by decide) rfl ?_
      refine g_goto (tgt := 12) h t_X5_inPitsOf_36 (by decide) ?_
      refine g_loc (L' := [(0, .ref (ρ q2)), (2, .int x9), (3, .int x3), (4, .int x10)]) h [2, 1, 3, 0] rfl ?_
      exact ih x9 x10 _ hD
set_option maxRecDepth 20000 in
theorem S_X5_inPitsOf {l0 : Launch} {ρ : Nat → Nat} {cs : Nat → ClassId} {G : va_G} (hρ : injN ρ) {o0 : Nat} (ho0 : isPos o0) {p1 : Int32} {w : Wd} {rr : (Int32 × Wd)} (hD : D_X5_inPitsOf o0 p1 w = some rr) : CtI l0 ρ cs G y_X5_inPitsOf prog_7_method_7_code 5 .int 0 [.ref (ρ o0), .int p1] w rr.1 rr.2 := by
  refine ctI_of hρ (by decide) (Nat.le_of_ble_eq_true rfl) (fun X hn h hR => ?_)
  unfold D_X5_inPitsOf at hD
  show gG ρ cs G X 0 [(0, .ref (ρ o0)), (1, .int p1)] [] w
  refine g_iconst (v := 0) h t_X5_inPitsOf_0 (by decide) ?_
  refine g_istore_n (L' := [(2, .int 0), (0, .ref (ρ o0)), (1, .int p1)]) h hn t_X5_inPitsOf_1 rfl (by decide) rfl ?_
  refine g_iload_n h 2 t_X5_inPitsOf_2 rfl ?_
  refine g_aload_n h 1 t_X5_inPitsOf_3 rfl ?_
  refine g_getI h o0 2 fl_5_18 (isPos_sh ho0) (isPos_lt ho0) rfl t_X5_inPitsOf_4 ?_
  refine g_imul h t_X5_inPitsOf_7 ?_
  refine g_bdI hD (fun x1 hD => ?_)
  refine g_istore_n (L' := [(3, .int x1), (2, .int 0), (0, .ref (ρ o0)), (1, .int p1)]) h hn t_X5_inPitsOf_8 rfl (by decide) rfl ?_
  refine g_iconst (v := 0) h t_X5_inPitsOf_9 (by decide) ?_
  refine g_istore (L' := [(4, .int 0), (3, .int x1), (2, .int 0), (0, .ref (ρ o0)), (1, .int p1)]) h hn t_X5_inPitsOf_10 (by decide) rfl ?_
  refine g_loc (L' := [(0, .ref (ρ o0)), (2, .int 0), (3, .int x1), (4, .int 0)]) h [3, 2, 1, 0] rfl ?_
  refine Q_X5_inPitsOf_12 hρ hn h hR ho0 ?_ _ _ _ _ hD
  · intro x11 w12 hD
    unfold J_X5_inPitsOf_x39_1 at hD
    refine g_iload_n h 0 t_X5_inPitsOf_39 rfl ?_
    obtain rfl := Option.some.inj hD
    exact hR _ _ t_X5_inPitsOf_40 rfl
def D_X5_pass (o0 : Nat) : Wd → Option Wd := fun w =>
  bd (wI w o0 3 (1 - (w.1 o0 3))) fun w1 => some w1
set_option maxRecDepth 20000 in
theorem S_X5_pass {l0 : Launch} {ρ : Nat → Nat} {cs : Nat → ClassId} {G : va_G} (hρ : injN ρ) {o0 : Nat} (ho0 : isPos o0) {w : Wd} {rr : Wd} (hD : D_X5_pass o0 w = some rr) : CtV l0 ρ cs G y_X5_pass prog_7_method_16_code 1 0 [.ref (ρ o0)] w rr := by
  refine ctV_of hρ (by decide) (Nat.le_of_ble_eq_true rfl) (fun X hn h hR => ?_)
  unfold D_X5_pass at hD
  show gG ρ cs G X 0 [(0, .ref (ρ o0))] [] w
  refine g_aload_n h 0 t_X5_pass_0 rfl ?_
  refine g_iconst (v := 1) h t_X5_pass_1 (by decide) ?_
  refine g_aload_n h 0 t_X5_pass_2 rfl ?_
  refine g_getI h o0 3 fl_5_28 (isPos_sh ho0) (isPos_lt ho0) rfl t_X5_pass_3 ?_
  refine g_isub h t_X5_pass_6 ?_
  refine g_putI h o0 3 fl_5_28 fp_5_3 (isPos_sh ho0) (isPos_lt ho0) rfl t_X5_pass_7 hD (fun w1 hD => ?_)
  obtain rfl := Option.some.inj hD
  exact hR _ _ t_X5_pass_10
def D_X5_canMove (o0 : Nat) (p1 : Int32) : Wd → Option (Int32 × Wd) := fun w =>
  if p1 < 0 then (some (0, w)) else (if (w.1 o0 2) ≤ p1 then (some (0, w)) else (if ib (((w.1 o0 3) * (w.1 o0 2)) + p1) 12 then (if (w.1 (o0 + 1) (((w.1 o0 3) * (w.1 o0 2)) + p1).toNatClampNeg) ≤ 0 then (some (0, w)) else (some (1, w))) else none))
set_option maxRecDepth 20000 in
theorem S_X5_canMove {l0 : Launch} {ρ : Nat → Nat} {cs : Nat → ClassId} {G : va_G} (hρ : injN ρ) {o0 : Nat} (ho0 : isPos o0) {p1 : Int32} {w : Wd} {rr : (Int32 × Wd)} (hD : D_X5_canMove o0 p1 w = some rr) : CtI l0 ρ cs G y_X5_canMove prog_7_method_15_code 2 .boolean 0 [.ref (ρ o0), .int p1] w rr.1 rr.2 := by
  refine ctI_of hρ (by decide) (Nat.le_of_ble_eq_true rfl) (fun X hn h hR => ?_)
  unfold D_X5_canMove at hD
  show gG ρ cs G X 0 [(0, .ref (ρ o0)), (1, .int p1)] [] w
  refine g_iload_n h 1 t_X5_canMove_0 rfl ?_
  refine g_if_lt (tgt := 35) h t_X5_canMove_1 (by decide) hD (fun hD => ?_) (fun hD => ?_)
  · refine g_iconst (v := 0) h t_X5_canMove_35 (by decide) ?_
    obtain rfl := Option.some.inj hD
    exact hR _ _ t_X5_canMove_36 (b01_n rfl)
  · refine g_iload_n h 1 t_X5_canMove_4 rfl ?_
    refine g_aload_n h 0 t_X5_canMove_5 rfl ?_
    refine g_getI h o0 2 fl_5_18 (isPos_sh ho0) (isPos_lt ho0) rfl t_X5_canMove_6 ?_
    refine g_icmp_ge (tgt := 35) h t_X5_canMove_9 (by decide) hD (fun hD => ?_) (fun hD => ?_)
    · refine g_iconst (v := 0) h t_X5_canMove_35 (by decide) ?_
      obtain rfl := Option.some.inj hD
      exact hR _ _ t_X5_canMove_36 (b01_n rfl)
    · refine g_aload_n h 0 t_X5_canMove_12 rfl ?_
      refine g_getQ h o0 0 (o0 + 1) 1 (by decide) rfl fl_5_9 (isPos_sh ho0) (isPos_lt ho0) rfl t_X5_canMove_13 ?_
      refine g_aload_n h 0 t_X5_canMove_16 rfl ?_
      refine g_getI h o0 3 fl_5_28 (isPos_sh ho0) (isPos_lt ho0) rfl t_X5_canMove_17 ?_
      refine g_aload_n h 0 t_X5_canMove_20 rfl ?_
      refine g_getI h o0 2 fl_5_18 (isPos_sh ho0) (isPos_lt ho0) rfl t_X5_canMove_21 ?_
      refine g_imul h t_X5_canMove_24 ?_
      refine g_iload_n h 1 t_X5_canMove_25 rfl ?_
      refine g_iadd h t_X5_canMove_26 ?_
      refine g_iald h (o0 + 1) (isPos_s1 ho0) (isPos_l1 ho0) t_X5_canMove_27 hD (fun hD => ?_)
      refine g_if_le (tgt := 35) h t_X5_canMove_28 (by decide) hD (fun hD => ?_) (fun hD => ?_)
      · refine g_iconst (v := 0) h t_X5_canMove_35 (by decide) ?_
        obtain rfl := Option.some.inj hD
        exact hR _ _ t_X5_canMove_36 (b01_n rfl)
      · refine g_iconst (v := 1) h t_X5_canMove_31 (by decide) ?_
        refine g_goto (tgt := 36) h t_X5_canMove_32 (by decide) ?_
        obtain rfl := Option.some.inj hD
        exact hR _ _ t_X5_canMove_36 (b01_n rfl)
def D_X5_pits (o0 : Nat) : Wd → Option (Int32 × Wd) := fun w =>
  some (2 * (w.1 o0 2), w)
set_option maxRecDepth 20000 in
theorem S_X5_pits {l0 : Launch} {ρ : Nat → Nat} {cs : Nat → ClassId} {G : va_G} (hρ : injN ρ) {o0 : Nat} (ho0 : isPos o0) {w : Wd} {rr : (Int32 × Wd)} (hD : D_X5_pits o0 w = some rr) : CtI l0 ρ cs G y_X5_pits prog_7_method_3_code 1 .int 0 [.ref (ρ o0)] w rr.1 rr.2 := by
  refine ctI_of hρ (by decide) (Nat.le_of_ble_eq_true rfl) (fun X hn h hR => ?_)
  unfold D_X5_pits at hD
  show gG ρ cs G X 0 [(0, .ref (ρ o0))] [] w
  refine g_iconst (v := 2) h t_X5_pits_0 (by decide) ?_
  refine g_aload_n h 0 t_X5_pits_1 rfl ?_
  refine g_getI h o0 2 fl_5_18 (isPos_sh ho0) (isPos_lt ho0) rfl t_X5_pits_2 ?_
  refine g_imul h t_X5_pits_5 ?_
  obtain rfl := Option.some.inj hD
  exact hR _ _ t_X5_pits_6 rfl
def D_X5_hasPit (o0 : Nat) (p1 : Int32) : Wd → Option (Int32 × Wd) := fun w =>
  if p1 < 0 then (some (0, w)) else (if (2 * (w.1 o0 2)) ≤ p1 then (some (0, w)) else (some (1, w)))
set_option maxRecDepth 20000 in
theorem S_X5_hasPit {l0 : Launch} {ρ : Nat → Nat} {cs : Nat → ClassId} {G : va_G} (hρ : injN ρ) {o0 : Nat} (ho0 : isPos o0) {p1 : Int32} {w : Wd} {rr : (Int32 × Wd)} (hD : D_X5_hasPit o0 p1 w = some rr) : CtI l0 ρ cs G y_X5_hasPit prog_7_method_4_code 2 .boolean 0 [.ref (ρ o0), .int p1] w rr.1 rr.2 := by
  refine ctI_of hρ (by decide) (Nat.le_of_ble_eq_true rfl) (fun X hn h hR => ?_)
  unfold D_X5_hasPit at hD
  show gG ρ cs G X 0 [(0, .ref (ρ o0)), (1, .int p1)] [] w
  refine g_iload_n h 1 t_X5_hasPit_0 rfl ?_
  refine g_if_lt (tgt := 18) h t_X5_hasPit_1 (by decide) hD (fun hD => ?_) (fun hD => ?_)
  · refine g_iconst (v := 0) h t_X5_hasPit_18 (by decide) ?_
    obtain rfl := Option.some.inj hD
    exact hR _ _ t_X5_hasPit_19 (b01_n rfl)
  · refine g_iload_n h 1 t_X5_hasPit_4 rfl ?_
    refine g_iconst (v := 2) h t_X5_hasPit_5 (by decide) ?_
    refine g_aload_n h 0 t_X5_hasPit_6 rfl ?_
    refine g_getI h o0 2 fl_5_18 (isPos_sh ho0) (isPos_lt ho0) rfl t_X5_hasPit_7 ?_
    refine g_imul h t_X5_hasPit_10 ?_
    refine g_icmp_ge (tgt := 18) h t_X5_hasPit_11 (by decide) hD (fun hD => ?_) (fun hD => ?_)
    · refine g_iconst (v := 0) h t_X5_hasPit_18 (by decide) ?_
      obtain rfl := Option.some.inj hD
      exact hR _ _ t_X5_hasPit_19 (b01_n rfl)
    · refine g_iconst (v := 1) h t_X5_hasPit_14 (by decide) ?_
      refine g_goto (tgt := 19) h t_X5_hasPit_15 (by decide) ?_
      obtain rfl := Option.some.inj hD
      exact hR _ _ t_X5_hasPit_19 (b01_n rfl)
def D_X5_inPits (o0 : Nat) : Wd → Option (Int32 × Wd) := fun w =>
  bc (D_X5_inPitsOf o0 0 w) fun x2 w1 => bc (D_X5_inPitsOf o0 1 w1) fun x4 w3 => some (x2 + x4, w3)
set_option maxRecDepth 20000 in
theorem S_X5_inPits {l0 : Launch} {ρ : Nat → Nat} {cs : Nat → ClassId} {G : va_G} (hρ : injN ρ) {o0 : Nat} (ho0 : isPos o0) {w : Wd} {rr : (Int32 × Wd)} (hD : D_X5_inPits o0 w = some rr) : CtI l0 ρ cs G y_X5_inPits prog_7_method_8_code 1 .int 1 [.ref (ρ o0)] w rr.1 rr.2 := by
  refine ctI_of hρ (by decide) (Nat.le_of_ble_eq_true rfl) (fun X hn h hR => ?_)
  unfold D_X5_inPits at hD
  show gG ρ cs G X 0 [(0, .ref (ρ o0))] [] w
  refine g_aload_n h 0 t_X5_inPits_0 rfl ?_
  refine g_iconst (v := 0) h t_X5_inPits_1 (by decide) ?_
  refine g_callVI h o0 (As := [.int 0]) (st := []) my_X5_inPitsOf mi_X5_inPitsOf ml_5_34 (isPos_sh ho0) (isPos_lt ho0) rfl rfl rfl (Nat.le_of_ble_eq_true rfl) (by decide) t_X5_inPits_2 hD (fun _ _ e => S_X5_inPitsOf hρ ho0 e) (fun x2 w1 hD => ?_)
  refine g_aload_n h 0 t_X5_inPits_5 rfl ?_
  refine g_iconst (v := 1) h t_X5_inPits_6 (by decide) ?_
  refine g_callVI h o0 (As := [.int 1]) (st := [.int x2]) my_X5_inPitsOf mi_X5_inPitsOf ml_5_34 (isPos_sh ho0) (isPos_lt ho0) rfl rfl rfl (Nat.le_of_ble_eq_true rfl) (by decide) t_X5_inPits_7 hD (fun _ _ e => S_X5_inPitsOf hρ ho0 e) (fun x4 w3 hD => ?_)
  refine g_iadd h t_X5_inPits_10 ?_
  obtain rfl := Option.some.inj hD
  exact hR _ _ t_X5_inPits_11 rfl
def D_X5_ownedBy (o0 : Nat) (p1 : Int32) : Wd → Option (Int32 × Wd) := fun w =>
  if ib p1 2 then (bc (D_X5_inPitsOf o0 p1 w) fun x2 w1 => some ((w.1 (o0 + 2) p1.toNatClampNeg) + x2, w1)) else none
set_option maxRecDepth 20000 in
theorem S_X5_ownedBy {l0 : Launch} {ρ : Nat → Nat} {cs : Nat → ClassId} {G : va_G} (hρ : injN ρ) {o0 : Nat} (ho0 : isPos o0) {p1 : Int32} {w : Wd} {rr : (Int32 × Wd)} (hD : D_X5_ownedBy o0 p1 w = some rr) : CtI l0 ρ cs G y_X5_ownedBy prog_7_method_10_code 2 .int 1 [.ref (ρ o0), .int p1] w rr.1 rr.2 := by
  refine ctI_of hρ (by decide) (Nat.le_of_ble_eq_true rfl) (fun X hn h hR => ?_)
  unfold D_X5_ownedBy at hD
  show gG ρ cs G X 0 [(0, .ref (ρ o0)), (1, .int p1)] [] w
  refine g_aload_n h 0 t_X5_ownedBy_0 rfl ?_
  refine g_getQ h o0 1 (o0 + 2) 2 (by decide) rfl fl_5_15 (isPos_sh ho0) (isPos_lt ho0) rfl t_X5_ownedBy_1 ?_
  refine g_iload_n h 1 t_X5_ownedBy_4 rfl ?_
  refine g_iald h (o0 + 2) (isPos_s2 ho0) (isPos_l2 ho0) t_X5_ownedBy_5 hD (fun hD => ?_)
  refine g_aload_n h 0 t_X5_ownedBy_6 rfl ?_
  refine g_iload_n h 1 t_X5_ownedBy_7 rfl ?_
  refine g_callVI h o0 (As := [.int p1]) (st := [.int (w.1 (o0 + 2) p1.toNatClampNeg)]) my_X5_inPitsOf mi_X5_inPitsOf ml_5_34 (isPos_sh ho0) (isPos_lt ho0) rfl rfl rfl (Nat.le_of_ble_eq_true rfl) (by decide) t_X5_ownedBy_8 hD (fun _ _ e => S_X5_inPitsOf hρ ho0 e) (fun x2 w1 hD => ?_)
  refine g_iadd h t_X5_ownedBy_11 ?_
  obtain rfl := Option.some.inj hD
  exact hR _ _ t_X5_ownedBy_12 rfl
def D_X5_inAll (o0 : Nat) : Wd → Option (Int32 × Wd) := fun w =>
  bc (D_X5_ownedBy o0 0 w) fun x2 w1 => bc (D_X5_ownedBy o0 1 w1) fun x4 w3 => some (x2 + x4, w3)
set_option maxRecDepth 20000 in
theorem S_X5_inAll {l0 : Launch} {ρ : Nat → Nat} {cs : Nat → ClassId} {G : va_G} (hρ : injN ρ) {o0 : Nat} (ho0 : isPos o0) {w : Wd} {rr : (Int32 × Wd)} (hD : D_X5_inAll o0 w = some rr) : CtI l0 ρ cs G y_X5_inAll prog_7_method_9_code 1 .int 2 [.ref (ρ o0)] w rr.1 rr.2 := by
  refine ctI_of hρ (by decide) (Nat.le_of_ble_eq_true rfl) (fun X hn h hR => ?_)
  unfold D_X5_inAll at hD
  show gG ρ cs G X 0 [(0, .ref (ρ o0))] [] w
  refine g_aload_n h 0 t_X5_inAll_0 rfl ?_
  refine g_iconst (v := 0) h t_X5_inAll_1 (by decide) ?_
  refine g_callVI h o0 (As := [.int 0]) (st := []) my_X5_ownedBy mi_X5_ownedBy ml_5_38 (isPos_sh ho0) (isPos_lt ho0) rfl rfl rfl (Nat.le_of_ble_eq_true rfl) (by decide) t_X5_inAll_2 hD (fun _ _ e => S_X5_ownedBy hρ ho0 e) (fun x2 w1 hD => ?_)
  refine g_aload_n h 0 t_X5_inAll_5 rfl ?_
  refine g_iconst (v := 1) h t_X5_inAll_6 (by decide) ?_
  refine g_callVI h o0 (As := [.int 1]) (st := [.int x2]) my_X5_ownedBy mi_X5_ownedBy ml_5_38 (isPos_sh ho0) (isPos_lt ho0) rfl rfl rfl (Nat.le_of_ble_eq_true rfl) (by decide) t_X5_inAll_7 hD (fun _ _ e => S_X5_ownedBy hρ ho0 e) (fun x4 w3 hD => ?_)
  refine g_iadd h t_X5_inAll_10 ?_
  obtain rfl := Option.some.inj hD
  exact hR _ _ t_X5_inAll_11 rfl
def D_X5_fullPits (o0 : Nat) : Wd → Option (Int32 × Wd) := fun w =>
  bc (D_X5_emptyPitsOf o0 (w.1 o0 3) w) fun x2 w1 => some ((w.1 o0 2) - x2, w1)
set_option maxRecDepth 20000 in
theorem S_X5_fullPits {l0 : Launch} {ρ : Nat → Nat} {cs : Nat → ClassId} {G : va_G} (hρ : injN ρ) {o0 : Nat} (ho0 : isPos o0) {w : Wd} {rr : (Int32 × Wd)} (hD : D_X5_fullPits o0 w = some rr) : CtI l0 ρ cs G y_X5_fullPits prog_7_method_12_code 1 .int 1 [.ref (ρ o0)] w rr.1 rr.2 := by
  refine ctI_of hρ (by decide) (Nat.le_of_ble_eq_true rfl) (fun X hn h hR => ?_)
  unfold D_X5_fullPits at hD
  show gG ρ cs G X 0 [(0, .ref (ρ o0))] [] w
  refine g_aload_n h 0 t_X5_fullPits_0 rfl ?_
  refine g_getI h o0 2 fl_5_18 (isPos_sh ho0) (isPos_lt ho0) rfl t_X5_fullPits_1 ?_
  refine g_aload_n h 0 t_X5_fullPits_4 rfl ?_
  refine g_aload_n h 0 t_X5_fullPits_5 rfl ?_
  refine g_getI h o0 3 fl_5_28 (isPos_sh ho0) (isPos_lt ho0) rfl t_X5_fullPits_6 ?_
  refine g_callVI h o0 (As := [.int (w.1 o0 3)]) (st := [.int (w.1 o0 2)]) my_X5_emptyPitsOf mi_X5_emptyPitsOf ml_5_41 (isPos_sh ho0) (isPos_lt ho0) rfl rfl rfl (Nat.le_of_ble_eq_true rfl) (by decide) t_X5_fullPits_9 hD (fun _ _ e => S_X5_emptyPitsOf hρ ho0 e) (fun x2 w1 hD => ?_)
  refine g_isub h t_X5_fullPits_12 ?_
  obtain rfl := Option.some.inj hD
  exact hR _ _ t_X5_fullPits_13 rfl
def J_X5_fullPit_j29_1 (r4 : Int32 → Int32 → Wd → Option (Int32 × Wd)) (x6 : Int32) : Int32 → Wd → Option (Int32 × Wd) := fun x10 w11 =>
  bd (x6 + 1) fun x13 => r4 x10 x13 w11
def L_X5_fullPit_4 (q1 : Nat) (k2 : Int32 → Wd → Option (Int32 × Wd)) (k3 : Wd → Option (Int32 × Wd)) : Nat → Int32 → Int32 → Wd → Option (Int32 × Wd)
  | 0, _, _, _ => none
  | n4 + 1, x5, x6, w7 =>
    if (w7.1 q1 2) ≤ x6 then (k3 w7) else (bc (D_X5_canMove q1 x6 w7) fun x9 w8 => bd (J_X5_fullPit_j29_1 (L_X5_fullPit_4 q1 k2 k3 n4) x6) fun k12 => if x9 = 0 then (k12 x5 w8) else (if x5 = 0 then (k2 x6 w8) else (bd (x5 + (-1)) fun x14 => k12 x14 w8)))
def J_X5_fullPit_x24_2  : Int32 → Wd → Option (Int32 × Wd) := fun x15 w16 =>
  some (x15, w16)
def J_X5_fullPit_x35_3  : Wd → Option (Int32 × Wd) := fun w17 =>
  some ((-1), w17)
def D_X5_fullPit (o0 : Nat) (p1 : Int32) : Wd → Option (Int32 × Wd) := fun w =>
  L_X5_fullPit_4 o0 J_X5_fullPit_x24_2 J_X5_fullPit_x35_3 FU p1 0 w
set_option maxRecDepth 20000 in
theorem Q_X5_fullPit_4 {l0 : Launch} {ρ : Nat → Nat} {cs : Nat → ClassId} {G : va_G} {X : Cx} (hρ : injN ρ) (hn : X.2.2.2.2.2.2.2.2.2.2.1 = 4) (h : Okx l0 ρ cs G X prog_7_method_13_code "SowingBoards$Position" 1) {rr : (Int32 × Wd)} (hR : ∀ pc L, decode prog_7_method_13_code pc = .ok (.ireturn, 1) → narrow .int (.int rr.1) = .int rr.1 → gG ρ cs G X pc L [.int rr.1] rr.2) {q1 : Nat} (hq1 : isPos q1) {k2 : Int32 → Wd → Option (Int32 × Wd)} (hk2 : ∀ (z3 : Int32) (w1 : Wd), k2 z3 w1 = some rr → gG ρ cs G X 24 [(3, .int z3)] [] w1) {k3 : Wd → Option (Int32 × Wd)} (hk3 : ∀ (w1 : Wd), k3 w1 = some rr → gG ρ cs G X 35 [] [] w1) : ∀ (n : Nat) (x5 : Int32) (x6 : Int32) (w : Wd), L_X5_fullPit_4 q1 k2 k3 n x5 x6 w = some rr → gG ρ cs G X 4 [(0, .ref (ρ q1)), (2, .int x5), (3, .int x6)] [] w := by
  intro n
  induction n with
  | zero =>
    intro x5 x6 w hD
    cases hD
  | succ n4 ih =>
    intro x5 x6 w7 hD
    unfold L_X5_fullPit_4 at hD
    refine g_iload_n h 2 t_X5_fullPit_4 rfl ?_
    refine g_aload_n h 0 t_X5_fullPit_5 rfl ?_
    refine g_getI h q1 2 fl_5_18 (isPos_sh hq1) (isPos_lt hq1) rfl t_X5_fullPit_6 ?_
    refine g_icmp_ge (tgt := 35) h t_X5_fullPit_9 (by decide) hD (fun hD => ?_) (fun hD => ?_)
    · refine g_loc (L' := []) h [] rfl ?_
      exact hk3 _ hD
    · refine g_aload_n h 0 t_X5_fullPit_12 rfl ?_
      refine g_iload_n h 2 t_X5_fullPit_13 rfl ?_
      refine g_callVI h q1 (As := [.int x6]) (st := []) my_X5_canMove mi_X5_canMove ml_5_44 (isPos_sh hq1) (isPos_lt hq1) rfl rfl rfl (Nat.le_of_ble_eq_true rfl) (by decide) t_X5_fullPit_14 hD (fun _ _ e => S_X5_canMove hρ hq1 e) (fun x9 w8 hD => ?_)
      refine g_join (P := fun k12 => ∀ (x10 : Int32) (w11 : Wd), k12 x10 w11 = some rr → gG ρ cs G X 29 [(0, .ref (ρ q1)), (2, .int x10), (3, .int x6)] [] w11) hD ?_ (fun k12 hk12 hD => ?_)
      · intro x10 w11 hD
        unfold J_X5_fullPit_j29_1 at hD
        obtain ⟨x13, ex13, hD⟩ := bd_ex hD
        refine g_iinc (v := x13) (L' := [(3, .int x13), (0, .ref (ρ q1)), (2, .int x10)]) h hn t_X5_fullPit_29 (k := 2) rfl (by rw [ex13]; rfl) (by decide) rfl ?_
        refine g_goto (tgt := 4) h t_X5_fullPit_32 (by decide) ?_
        refine g_loc (L' := [(0, .ref (ρ q1)), (2, .int x10), (3, .int x13)]) h [1, 2, 0] rfl ?_
        exact ih x10 x13 _ hD
      · refine g_if_eq (tgt := 29) h t_X5_fullPit_17 (by decide) hD (fun hD => ?_) (fun hD => ?_)
        · refine g_loc (L' := [(0, .ref (ρ q1)), (2, .int x5), (3, .int x6)]) h [0, 1, 2] rfl ?_
          exact hk12 x5 _ hD
        · refine g_iload_n h 1 t_X5_fullPit_20 rfl ?_
          refine g_if_ne (tgt := 26) h t_X5_fullPit_21 (by decide) hD (fun hD => ?_) (fun hD => ?_)
          · obtain ⟨x14, ex14, hD⟩ := bd_ex hD
            refine g_iinc (v := x14) (L' := [(2, .int x14), (0, .ref (ρ q1)), (3, .int x6)]) h hn t_X5_fullPit_26 (k := 1) rfl (by rw [ex14]; rfl) (by decide) rfl ?_
            refine g_loc (L' := [(0, .ref (ρ q1)), (2, .int x14), (3, .int x6)]) h [1, 0, 2] rfl ?_
            exact hk12 x14 _ hD
          · refine g_loc (L' := [(3, .int x6)]) h [2] rfl ?_
            exact hk2 x6 _ hD
set_option maxRecDepth 20000 in
theorem S_X5_fullPit {l0 : Launch} {ρ : Nat → Nat} {cs : Nat → ClassId} {G : va_G} (hρ : injN ρ) {o0 : Nat} (ho0 : isPos o0) {p1 : Int32} {w : Wd} {rr : (Int32 × Wd)} (hD : D_X5_fullPit o0 p1 w = some rr) : CtI l0 ρ cs G y_X5_fullPit prog_7_method_13_code 4 .int 1 [.ref (ρ o0), .int p1] w rr.1 rr.2 := by
  refine ctI_of hρ (by decide) (Nat.le_of_ble_eq_true rfl) (fun X hn h hR => ?_)
  unfold D_X5_fullPit at hD
  show gG ρ cs G X 0 [(0, .ref (ρ o0)), (1, .int p1)] [] w
  refine g_iload_n h 1 t_X5_fullPit_0 rfl ?_
  refine g_istore_n (L' := [(2, .int p1), (0, .ref (ρ o0)), (1, .int p1)]) h hn t_X5_fullPit_1 rfl (by decide) rfl ?_
  refine g_iconst (v := 0) h t_X5_fullPit_2 (by decide) ?_
  refine g_istore_n (L' := [(3, .int 0), (2, .int p1), (0, .ref (ρ o0)), (1, .int p1)]) h hn t_X5_fullPit_3 rfl (by decide) rfl ?_
  refine g_loc (L' := [(0, .ref (ρ o0)), (2, .int p1), (3, .int 0)]) h [2, 1, 0] rfl ?_
  refine Q_X5_fullPit_4 hρ hn h hR ho0 ?_ ?_ _ _ _ _ hD
  · intro x15 w16 hD
    unfold J_X5_fullPit_x24_2 at hD
    refine g_iload_n h 0 t_X5_fullPit_24 rfl ?_
    obtain rfl := Option.some.inj hD
    exact hR _ _ t_X5_fullPit_25 rfl
  · intro w17 hD
    unfold J_X5_fullPit_x35_3 at hD
    refine g_iconst (v := (-1)) h t_X5_fullPit_35 (by decide) ?_
    obtain rfl := Option.some.inj hD
    exact hR _ _ t_X5_fullPit_36 rfl
def D_X5_isOver (o0 : Nat) : Wd → Option (Int32 × Wd) := fun w =>
  bc (D_X5_inPitsOf o0 (w.1 o0 3) w) fun x2 w1 => if x2 = 0 then (some (1, w1)) else (some (0, w1))
set_option maxRecDepth 20000 in
theorem S_X5_isOver {l0 : Launch} {ρ : Nat → Nat} {cs : Nat → ClassId} {G : va_G} (hρ : injN ρ) {o0 : Nat} (ho0 : isPos o0) {w : Wd} {rr : (Int32 × Wd)} (hD : D_X5_isOver o0 w = some rr) : CtI l0 ρ cs G y_X5_isOver prog_7_method_14_code 1 .boolean 1 [.ref (ρ o0)] w rr.1 rr.2 := by
  refine ctI_of hρ (by decide) (Nat.le_of_ble_eq_true rfl) (fun X hn h hR => ?_)
  unfold D_X5_isOver at hD
  show gG ρ cs G X 0 [(0, .ref (ρ o0))] [] w
  refine g_aload_n h 0 t_X5_isOver_0 rfl ?_
  refine g_aload_n h 0 t_X5_isOver_1 rfl ?_
  refine g_getI h o0 3 fl_5_28 (isPos_sh ho0) (isPos_lt ho0) rfl t_X5_isOver_2 ?_
  refine g_callVI h o0 (As := [.int (w.1 o0 3)]) (st := []) my_X5_inPitsOf mi_X5_inPitsOf ml_5_34 (isPos_sh ho0) (isPos_lt ho0) rfl rfl rfl (Nat.le_of_ble_eq_true rfl) (by decide) t_X5_isOver_5 hD (fun _ _ e => S_X5_inPitsOf hρ ho0 e) (fun x2 w1 hD => ?_)
  refine g_if_ne (tgt := 15) h t_X5_isOver_8 (by decide) hD (fun hD => ?_) (fun hD => ?_)
  · refine g_iconst (v := 0) h t_X5_isOver_15 (by decide) ?_
    obtain rfl := Option.some.inj hD
    exact hR _ _ t_X5_isOver_16 (b01_n rfl)
  · refine g_iconst (v := 1) h t_X5_isOver_11 (by decide) ?_
    refine g_goto (tgt := 16) h t_X5_isOver_12 (by decide) ?_
    obtain rfl := Option.some.inj hD
    exact hR _ _ t_X5_isOver_16 (b01_n rfl)
