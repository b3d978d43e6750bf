def y_X1_captureBackwards : MethodName := ⟨"SowingBoards$Move", "captureBackwards", "(LSowingBoards$Position;)V"⟩
theorem t_X1_captureBackwards_0 : decode prog_3_method_7_code 0 = .ok (.aload_n 1, 1) := by decide +kernel
theorem t_X1_captureBackwards_1 : decode prog_3_method_7_code 1 = .ok (.aload_n 0, 1) := by decide +kernel
theorem t_X1_captureBackwards_2 : decode prog_3_method_7_code 2 = .ok (.getfield 33, 3) := by decide +kernel
theorem t_X1_captureBackwards_5 : decode prog_3_method_7_code 5 = .ok (.iconst 1, 1) := by decide +kernel
theorem t_X1_captureBackwards_6 : decode prog_3_method_7_code 6 = .ok (.aload_n 0, 1) := by decide +kernel
theorem t_X1_captureBackwards_7 : decode prog_3_method_7_code 7 = .ok (.getfield 24, 3) := by decide +kernel
theorem t_X1_captureBackwards_10 : decode prog_3_method_7_code 10 = .ok (.isub, 1) := by decide +kernel
theorem t_X1_captureBackwards_11 : decode prog_3_method_7_code 11 = .ok (.invokevirtual 73, 3) := by decide +kernel
theorem t_X1_captureBackwards_14 : decode prog_3_method_7_code 14 = .ok (.ifCond .ne 4, 3) := by decide +kernel
theorem t_X1_captureBackwards_17 : decode prog_3_method_7_code 17 = .ok (.return_, 1) := by decide +kernel
theorem t_X1_captureBackwards_18 : decode prog_3_method_7_code 18 = .ok (.iconst 1, 1) := by decide +kernel
theorem t_X1_captureBackwards_19 : decode prog_3_method_7_code 19 = .ok (.aload_n 0, 1) := by decide +kernel
theorem t_X1_captureBackwards_20 : decode prog_3_method_7_code 20 = .ok (.getfield 24, 3) := by decide +kernel
theorem t_X1_captureBackwards_23 : decode prog_3_method_7_code 23 = .ok (.isub, 1) := by decide +kernel
theorem t_X1_captureBackwards_24 : decode prog_3_method_7_code 24 = .ok (.aload_n 1, 1) := by decide +kernel
theorem t_X1_captureBackwards_25 : decode prog_3_method_7_code 25 = .ok (.getfield 30, 3) := by decide +kernel
theorem t_X1_captureBackwards_28 : decode prog_3_method_7_code 28 = .ok (.imul, 1) := by decide +kernel
theorem t_X1_captureBackwards_29 : decode prog_3_method_7_code 29 = .ok (.istore_n 2, 1) := by decide +kernel
theorem t_X1_captureBackwards_30 : decode prog_3_method_7_code 30 = .ok (.aload_n 0, 1) := by decide +kernel
theorem t_X1_captureBackwards_31 : decode prog_3_method_7_code 31 = .ok (.getfield 33, 3) := by decide +kernel
theorem t_X1_captureBackwards_34 : decode prog_3_method_7_code 34 = .ok (.istore_n 3, 1) := by decide +kernel
theorem t_X1_captureBackwards_35 : decode prog_3_method_7_code 35 = .ok (.iload_n 3, 1) := by decide +kernel
theorem t_X1_captureBackwards_36 : decode prog_3_method_7_code 36 = .ok (.iload_n 2, 1) := by decide +kernel
theorem t_X1_captureBackwards_37 : decode prog_3_method_7_code 37 = .ok (.if_icmp .lt 51, 3) := by decide +kernel
theorem t_X1_captureBackwards_40 : decode prog_3_method_7_code 40 = .ok (.aload_n 1, 1) := by decide +kernel
theorem t_X1_captureBackwards_41 : decode prog_3_method_7_code 41 = .ok (.getfield 36, 3) := by decide +kernel
theorem t_X1_captureBackwards_44 : decode prog_3_method_7_code 44 = .ok (.iload_n 3, 1) := by decide +kernel
theorem t_X1_captureBackwards_45 : decode prog_3_method_7_code 45 = .ok (.iaload, 1) := by decide +kernel
theorem t_X1_captureBackwards_46 : decode prog_3_method_7_code 46 = .ok (.istore 4, 2) := by decide +kernel
theorem t_X1_captureBackwards_48 : decode prog_3_method_7_code 48 = .ok (.iload 4, 2) := by decide +kernel
theorem t_X1_captureBackwards_50 : decode prog_3_method_7_code 50 = .ok (.iconst 2, 1) := by decide +kernel
theorem t_X1_captureBackwards_51 : decode prog_3_method_7_code 51 = .ok (.if_icmp .eq 10, 3) := by decide +kernel
theorem t_X1_captureBackwards_54 : decode prog_3_method_7_code 54 = .ok (.iload 4, 2) := by decide +kernel
theorem t_X1_captureBackwards_56 : decode prog_3_method_7_code 56 = .ok (.iconst 3, 1) := by decide +kernel
theorem t_X1_captureBackwards_57 : decode prog_3_method_7_code 57 = .ok (.if_icmp .eq 4, 3) := by decide +kernel
theorem t_X1_captureBackwards_60 : decode prog_3_method_7_code 60 = .ok (.return_, 1) := by decide +kernel
theorem t_X1_captureBackwards_61 : decode prog_3_method_7_code 61 = .ok (.aload_n 1, 1) := by decide +kernel
theorem t_X1_captureBackwards_62 : decode prog_3_method_7_code 62 = .ok (.getfield 43, 3) := by decide +kernel
theorem t_X1_captureBackwards_65 : decode prog_3_method_7_code 65 = .ok (.aload_n 0, 1) := by decide +kernel
theorem t_X1_captureBackwards_66 : decode prog_3_method_7_code 66 = .ok (.getfield 24, 3) := by decide +kernel
theorem t_X1_captureBackwards_69 : decode prog_3_method_7_code 69 = .ok (.dup2, 1) := by decide +kernel
theorem t_X1_captureBackwards_70 : decode prog_3_method_7_code 70 = .ok (.iaload, 1) := by decide +kernel
theorem t_X1_captureBackwards_71 : decode prog_3_method_7_code 71 = .ok (.iload 4, 2) := by decide +kernel
theorem t_X1_captureBackwards_73 : decode prog_3_method_7_code 73 = .ok (.iadd, 1) := by decide +kernel
theorem t_X1_captureBackwards_74 : decode prog_3_method_7_code 74 = .ok (.iastore, 1) := by decide +kernel
theorem t_X1_captureBackwards_75 : decode prog_3_method_7_code 75 = .ok (.aload_n 1, 1) := by decide +kernel
theorem t_X1_captureBackwards_76 : decode prog_3_method_7_code 76 = .ok (.getfield 36, 3) := by decide +kernel
theorem t_X1_captureBackwards_79 : decode prog_3_method_7_code 79 = .ok (.iload_n 3, 1) := by decide +kernel
theorem t_X1_captureBackwards_80 : decode prog_3_method_7_code 80 = .ok (.iconst 0, 1) := by decide +kernel
theorem t_X1_captureBackwards_81 : decode prog_3_method_7_code 81 = .ok (.iastore, 1) := by decide +kernel
theorem t_X1_captureBackwards_82 : decode prog_3_method_7_code 82 = .ok (.iinc 3 (-1), 3) := by decide +kernel
theorem t_X1_captureBackwards_85 : decode prog_3_method_7_code 85 = .ok (.goto (-50), 3) := by decide +kernel
theorem t_X1_captureBackwards_88 : decode prog_3_method_7_code 88 = .ok (.return_, 1) := by decide +kernel
def y_X1_captureOpposite : MethodName := ⟨"SowingBoards$Move", "captureOpposite", "(LSowingBoards$Position;)V"⟩
theorem t_X1_captureOpposite_0 : decode prog_3_method_6_code 0 = .ok (.aload_n 1, 1) := by decide +kernel
theorem t_X1_captureOpposite_1 : decode prog_3_method_6_code 1 = .ok (.aload_n 0, 1) := by decide +kernel
theorem t_X1_captureOpposite_2 : decode prog_3_method_6_code 2 = .ok (.getfield 33, 3) := by decide +kernel
theorem t_X1_captureOpposite_5 : decode prog_3_method_6_code 5 = .ok (.aload_n 0, 1) := by decide +kernel
theorem t_X1_captureOpposite_6 : decode prog_3_method_6_code 6 = .ok (.getfield 24, 3) := by decide +kernel
theorem t_X1_captureOpposite_9 : decode prog_3_method_6_code 9 = .ok (.invokevirtual 73, 3) := by decide +kernel
theorem t_X1_captureOpposite_12 : decode prog_3_method_6_code 12 = .ok (.ifCond .eq 16, 3) := by decide +kernel
theorem t_X1_captureOpposite_15 : decode prog_3_method_6_code 15 = .ok (.aload_n 1, 1) := by decide +kernel
theorem t_X1_captureOpposite_16 : decode prog_3_method_6_code 16 = .ok (.getfield 36, 3) := by decide +kernel
theorem t_X1_captureOpposite_19 : decode prog_3_method_6_code 19 = .ok (.aload_n 0, 1) := by decide +kernel
theorem t_X1_captureOpposite_20 : decode prog_3_method_6_code 20 = .ok (.getfield 33, 3) := by decide +kernel
theorem t_X1_captureOpposite_23 : decode prog_3_method_6_code 23 = .ok (.iaload, 1) := by decide +kernel
theorem t_X1_captureOpposite_24 : decode prog_3_method_6_code 24 = .ok (.iconst 1, 1) := by decide +kernel
theorem t_X1_captureOpposite_25 : decode prog_3_method_6_code 25 = .ok (.if_icmp .eq 4, 3) := by decide +kernel
theorem t_X1_captureOpposite_28 : decode prog_3_method_6_code 28 = .ok (.return_, 1) := by decide +kernel
theorem t_X1_captureOpposite_29 : decode prog_3_method_6_code 29 = .ok (.aload_n 1, 1) := by decide +kernel
theorem t_X1_captureOpposite_30 : decode prog_3_method_6_code 30 = .ok (.aload_n 0, 1) := by decide +kernel
theorem t_X1_captureOpposite_31 : decode prog_3_method_6_code 31 = .ok (.getfield 33, 3) := by decide +kernel
theorem t_X1_captureOpposite_34 : decode prog_3_method_6_code 34 = .ok (.invokevirtual 77, 3) := by decide +kernel
theorem t_X1_captureOpposite_37 : decode prog_3_method_6_code 37 = .ok (.istore_n 2, 1) := by decide +kernel
theorem t_X1_captureOpposite_38 : decode prog_3_method_6_code 38 = .ok (.aload_n 1, 1) := by decide +kernel
theorem t_X1_captureOpposite_39 : decode prog_3_method_6_code 39 = .ok (.getfield 36, 3) := by decide +kernel
theorem t_X1_captureOpposite_42 : decode prog_3_method_6_code 42 = .ok (.iload_n 2, 1) := by decide +kernel
theorem t_X1_captureOpposite_43 : decode prog_3_method_6_code 43 = .ok (.iaload, 1) := by decide +kernel
theorem t_X1_captureOpposite_44 : decode prog_3_method_6_code 44 = .ok (.ifCond .le 40, 3) := by decide +kernel
theorem t_X1_captureOpposite_47 : decode prog_3_method_6_code 47 = .ok (.aload_n 1, 1) := by decide +kernel
theorem t_X1_captureOpposite_48 : decode prog_3_method_6_code 48 = .ok (.getfield 43, 3) := by decide +kernel
theorem t_X1_captureOpposite_51 : decode prog_3_method_6_code 51 = .ok (.aload_n 0, 1) := by decide +kernel
theorem t_X1_captureOpposite_52 : decode prog_3_method_6_code 52 = .ok (.getfield 24, 3) := by decide +kernel
theorem t_X1_captureOpposite_55 : decode prog_3_method_6_code 55 = .ok (.dup2, 1) := by decide +kernel
theorem t_X1_captureOpposite_56 : decode prog_3_method_6_code 56 = .ok (.iaload, 1) := by decide +kernel
theorem t_X1_captureOpposite_57 : decode prog_3_method_6_code 57 = .ok (.iconst 1, 1) := by decide +kernel
theorem t_X1_captureOpposite_58 : decode prog_3_method_6_code 58 = .ok (.aload_n 1, 1) := by decide +kernel
theorem t_X1_captureOpposite_59 : decode prog_3_method_6_code 59 = .ok (.getfield 36, 3) := by decide +kernel
theorem t_X1_captureOpposite_62 : decode prog_3_method_6_code 62 = .ok (.iload_n 2, 1) := by decide +kernel
theorem t_X1_captureOpposite_63 : decode prog_3_method_6_code 63 = .ok (.iaload, 1) := by decide +kernel
theorem t_X1_captureOpposite_64 : decode prog_3_method_6_code 64 = .ok (.iadd, 1) := by decide +kernel
theorem t_X1_captureOpposite_65 : decode prog_3_method_6_code 65 = .ok (.iadd, 1) := by decide +kernel
theorem t_X1_captureOpposite_66 : decode prog_3_method_6_code 66 = .ok (.iastore, 1) := by decide +kernel
theorem t_X1_captureOpposite_67 : decode prog_3_method_6_code 67 = .ok (.aload_n 1, 1) := by decide +kernel
theorem t_X1_captureOpposite_68 : decode prog_3_method_6_code 68 = .ok (.getfield 36, 3) := by decide +kernel
theorem t_X1_captureOpposite_71 : decode prog_3_method_6_code 71 = .ok (.aload_n 0, 1) := by decide +kernel
theorem t_X1_captureOpposite_72 : decode prog_3_method_6_code 72 = .ok (.getfield 33, 3) := by decide +kernel
theorem t_X1_captureOpposite_75 : decode prog_3_method_6_code 75 = .ok (.iconst 0, 1) := by decide +kernel
theorem t_X1_captureOpposite_76 : decode prog_3_method_6_code 76 = .ok (.iastore, 1) := by decide +kernel
theorem t_X1_captureOpposite_77 : decode prog_3_method_6_code 77 = .ok (.aload_n 1, 1) := by decide +kernel
theorem t_X1_captureOpposite_78 : decode prog_3_method_6_code 78 = .ok (.getfield 36, 3) := by decide +kernel
theorem t_X1_captureOpposite_81 : decode prog_3_method_6_code 81 = .ok (.iload_n 2, 1) := by decide +kernel
theorem t_X1_captureOpposite_82 : decode prog_3_method_6_code 82 = .ok (.iconst 0, 1) := by decide +kernel
theorem t_X1_captureOpposite_83 : decode prog_3_method_6_code 83 = .ok (.iastore, 1) := by decide +kernel
theorem t_X1_captureOpposite_84 : decode prog_3_method_6_code 84 = .ok (.return_, 1) := by decide +kernel
def y_X1_obeys : MethodName := ⟨"SowingBoards$Move", "obeys", "(I)Z"⟩
theorem t_X1_obeys_0 : decode prog_3_method_3_code 0 = .ok (.aload_n 0, 1) := by decide +kernel
theorem t_X1_obeys_1 : decode prog_3_method_3_code 1 = .ok (.getfield 15, 3) := by decide +kernel
theorem t_X1_obeys_4 : decode prog_3_method_3_code 4 = .ok (.iload_n 1, 1) := by decide +kernel
theorem t_X1_obeys_5 : decode prog_3_method_3_code 5 = .ok (.iand, 1) := by decide +kernel
theorem t_X1_obeys_6 : decode prog_3_method_3_code 6 = .ok (.ifCond .eq 7, 3) := by decide +kernel
theorem t_X1_obeys_9 : decode prog_3_method_3_code 9 = .ok (.iconst 1, 1) := by decide +kernel
theorem t_X1_obeys_10 : decode prog_3_method_3_code 10 = .ok (.goto 4, 3) := by decide +kernel
theorem t_X1_obeys_13 : decode prog_3_method_3_code 13 = .ok (.iconst 0, 1) := by decide +kernel
theorem t_X1_obeys_14 : decode prog_3_method_3_code 14 = .ok (.ireturn, 1) := by decide +kernel
def y_X1_endTurn : MethodName := ⟨"SowingBoards$Move", "endTurn", "(LSowingBoards$Position;)V"⟩
theorem t_X1_endTurn_0 : decode prog_3_method_8_code 0 = .ok (.aload_n 0, 1) := by decide +kernel
theorem t_X1_endTurn_1 : decode prog_3_method_8_code 1 = .ok (.aload_n 0, 1) := by decide +kernel
theorem t_X1_endTurn_2 : decode prog_3_method_8_code 2 = .ok (.getfield 33, 3) := by decide +kernel
theorem t_X1_endTurn_5 : decode prog_3_method_8_code 5 = .ok (.bipush 50, 2) := by decide +kernel
theorem t_X1_endTurn_7 : decode prog_3_method_8_code 7 = .ok (.if_icmp .ne 16, 3) := by decide +kernel
theorem t_X1_endTurn_10 : decode prog_3_method_8_code 10 = .ok (.aload_n 0, 1) := by decide +kernel
theorem t_X1_endTurn_11 : decode prog_3_method_8_code 11 = .ok (.bipush 16, 2) := by decide +kernel
theorem t_X1_endTurn_13 : decode prog_3_method_8_code 13 = .ok (.invokevirtual 53, 3) := by decide +kernel
theorem t_X1_endTurn_16 : decode prog_3_method_8_code 16 = .ok (.ifCond .eq 7, 3) := by decide +kernel
theorem t_X1_endTurn_19 : decode prog_3_method_8_code 19 = .ok (.iconst 1, 1) := by decide +kernel
theorem t_X1_endTurn_20 : decode prog_3_method_8_code 20 = .ok (.goto 4, 3) := by decide +kernel
theorem t_X1_endTurn_23 : decode prog_3_method_8_code 23 = .ok (.iconst 0, 1) := by decide +kernel
theorem t_X1_endTurn_24 : decode prog_3_method_8_code 24 = .ok (.putfield 81, 3) := by decide +kernel
theorem t_X1_endTurn_27 : decode prog_3_method_8_code 27 = .ok (.aload_n 0, 1) := by decide +kernel
theorem t_X1_endTurn_28 : decode prog_3_method_8_code 28 = .ok (.getfield 81, 3) := by decide +kernel
theorem t_X1_endTurn_31 : decode prog_3_method_8_code 31 = .ok (.ifCond .ne 7, 3) := by decide +kernel
theorem t_X1_endTurn_34 : decode prog_3_method_8_code 34 = .ok (.aload_n 1, 1) := by decide +kernel
theorem t_X1_endTurn_35 : decode prog_3_method_8_code 35 = .ok (.invokevirtual 85, 3) := by decide +kernel
theorem t_X1_endTurn_38 : decode prog_3_method_8_code 38 = .ok (.aload_n 1, 1) := by decide +kernel
theorem t_X1_endTurn_39 : decode prog_3_method_8_code 39 = .ok (.dup, 1) := by decide +kernel
theorem t_X1_endTurn_40 : decode prog_3_method_8_code 40 = .ok (.getfield 88, 3) := by decide +kernel
theorem t_X1_endTurn_43 : decode prog_3_method_8_code 43 = .ok (.iconst 1, 1) := by decide +kernel
theorem t_X1_endTurn_44 : decode prog_3_method_8_code 44 = .ok (.iadd, 1) := by decide +kernel
theorem t_X1_endTurn_45 : decode prog_3_method_8_code 45 = .ok (.putfield 88, 3) := by decide +kernel
theorem t_X1_endTurn_48 : decode prog_3_method_8_code 48 = .ok (.aload_n 0, 1) := by decide +kernel
theorem t_X1_endTurn_49 : decode prog_3_method_8_code 49 = .ok (.aload_n 1, 1) := by decide +kernel
theorem t_X1_endTurn_50 : decode prog_3_method_8_code 50 = .ok (.aload_n 0, 1) := by decide +kernel
theorem t_X1_endTurn_51 : decode prog_3_method_8_code 51 = .ok (.getfield 24, 3) := by decide +kernel
theorem t_X1_endTurn_54 : decode prog_3_method_8_code 54 = .ok (.invokevirtual 91, 3) := by decide +kernel
theorem t_X1_endTurn_57 : decode prog_3_method_8_code 57 = .ok (.putfield 94, 3) := by decide +kernel
theorem t_X1_endTurn_60 : decode prog_3_method_8_code 60 = .ok (.aload_n 0, 1) := by decide +kernel
theorem t_X1_endTurn_61 : decode prog_3_method_8_code 61 = .ok (.aload_n 1, 1) := by decide +kernel
theorem t_X1_endTurn_62 : decode prog_3_method_8_code 62 = .ok (.iconst 1, 1) := by decide +kernel
theorem t_X1_endTurn_63 : decode prog_3_method_8_code 63 = .ok (.aload_n 0, 1) := by decide +kernel
theorem t_X1_endTurn_64 : decode prog_3_method_8_code 64 = .ok (.getfield 24, 3) := by decide +kernel
theorem t_X1_endTurn_67 : decode prog_3_method_8_code 67 = .ok (.isub, 1) := by decide +kernel
theorem t_X1_endTurn_68 : decode prog_3_method_8_code 68 = .ok (.invokevirtual 97, 3) := by decide +kernel
theorem t_X1_endTurn_71 : decode prog_3_method_8_code 71 = .ok (.putfield 100, 3) := by decide +kernel
theorem t_X1_endTurn_74 : decode prog_3_method_8_code 74 = .ok (.return_, 1) := by decide +kernel
def y_X1_placeBehind : MethodName := ⟨"SowingBoards$Move", "placeBehind", "(II)I"⟩
theorem t_X1_placeBehind_0 : decode prog_3_method_5_code 0 = .ok (.iload_n 2, 1) := by decide +kernel
theorem t_X1_placeBehind_1 : decode prog_3_method_5_code 1 = .ok (.aload_n 0, 1) := by decide +kernel
theorem t_X1_placeBehind_2 : decode prog_3_method_5_code 2 = .ok (.getfield 24, 3) := by decide +kernel
theorem t_X1_placeBehind_5 : decode prog_3_method_5_code 5 = .ok (.iconst 1, 1) := by decide +kernel
theorem t_X1_placeBehind_6 : decode prog_3_method_5_code 6 = .ok (.iadd, 1) := by decide +kernel
theorem t_X1_placeBehind_7 : decode prog_3_method_5_code 7 = .ok (.imul, 1) := by decide +kernel
theorem t_X1_placeBehind_8 : decode prog_3_method_5_code 8 = .ok (.iconst 1, 1) := by decide +kernel
theorem t_X1_placeBehind_9 : decode prog_3_method_5_code 9 = .ok (.isub, 1) := by decide +kernel
theorem t_X1_placeBehind_10 : decode prog_3_method_5_code 10 = .ok (.istore_n 3, 1) := by decide +kernel
theorem t_X1_placeBehind_11 : decode prog_3_method_5_code 11 = .ok (.iload_n 1, 1) := by decide +kernel
theorem t_X1_placeBehind_12 : decode prog_3_method_5_code 12 = .ok (.iload_n 3, 1) := by decide +kernel
theorem t_X1_placeBehind_13 : decode prog_3_method_5_code 13 = .ok (.if_icmp .ne 15, 3) := by decide +kernel
theorem t_X1_placeBehind_16 : decode prog_3_method_5_code 16 = .ok (.aload_n 0, 1) := by decide +kernel
theorem t_X1_placeBehind_17 : decode prog_3_method_5_code 17 = .ok (.getfield 15, 3) := by decide +kernel
theorem t_X1_placeBehind_20 : decode prog_3_method_5_code 20 = .ok (.iconst 1, 1) := by decide +kernel
theorem t_X1_placeBehind_21 : decode prog_3_method_5_code 21 = .ok (.iand, 1) := by decide +kernel
theorem t_X1_placeBehind_22 : decode prog_3_method_5_code 22 = .ok (.ifCond .eq 6, 3) := by decide +kernel
theorem t_X1_placeBehind_25 : decode prog_3_method_5_code 25 = .ok (.bipush 50, 2) := by decide +kernel
theorem t_X1_placeBehind_27 : decode prog_3_method_5_code 27 = .ok (.ireturn, 1) := by decide +kernel
theorem t_X1_placeBehind_28 : decode prog_3_method_5_code 28 = .ok (.iload_n 1, 1) := by decide +kernel
theorem t_X1_placeBehind_29 : decode prog_3_method_5_code 29 = .ok (.bipush 50, 2) := by decide +kernel
theorem t_X1_placeBehind_31 : decode prog_3_method_5_code 31 = .ok (.if_icmp .ne 9, 3) := by decide +kernel
theorem t_X1_placeBehind_34 : decode prog_3_method_5_code 34 = .ok (.iload_n 3, 1) := by decide +kernel
theorem t_X1_placeBehind_35 : decode prog_3_method_5_code 35 = .ok (.iconst 1, 1) := by decide +kernel
theorem t_X1_placeBehind_36 : decode prog_3_method_5_code 36 = .ok (.iadd, 1) := by decide +kernel
theorem t_X1_placeBehind_37 : decode prog_3_method_5_code 37 = .ok (.goto 6, 3) := by decide +kernel
theorem t_X1_placeBehind_40 : decode prog_3_method_5_code 40 = .ok (.iload_n 1, 1) := by decide +kernel
theorem t_X1_placeBehind_41 : decode prog_3_method_5_code 41 = .ok (.iconst 1, 1) := by decide +kernel
theorem t_X1_placeBehind_42 : decode prog_3_method_5_code 42 = .ok (.iadd, 1) := by decide +kernel
theorem t_X1_placeBehind_43 : decode prog_3_method_5_code 43 = .ok (.istore 4, 2) := by decide +kernel
theorem t_X1_placeBehind_45 : decode prog_3_method_5_code 45 = .ok (.iload 4, 2) := by decide +kernel
theorem t_X1_placeBehind_47 : decode prog_3_method_5_code 47 = .ok (.iconst 2, 1) := by decide +kernel
theorem t_X1_placeBehind_48 : decode prog_3_method_5_code 48 = .ok (.iload_n 2, 1) := by decide +kernel
theorem t_X1_placeBehind_49 : decode prog_3_method_5_code 49 = .ok (.imul, 1) := by decide +kernel
theorem t_X1_placeBehind_50 : decode prog_3_method_5_code 50 = .ok (.if_icmp .ge 8, 3) := by decide +kernel
theorem t_X1_placeBehind_53 : decode prog_3_method_5_code 53 = .ok (.iload 4, 2) := by decide +kernel
theorem t_X1_placeBehind_55 : decode prog_3_method_5_code 55 = .ok (.goto 4, 3) := by decide +kernel
theorem t_X1_placeBehind_58 : decode prog_3_method_5_code 58 = .ok (.iconst 0, 1) := by decide +kernel
theorem t_X1_placeBehind_59 : decode prog_3_method_5_code 59 = .ok (.ireturn, 1) := by decide +kernel
def y_X1_sowLap : MethodName := ⟨"SowingBoards$Move", "sowLap", "(LSowingBoards$Position;I)Z"⟩
theorem t_X1_sowLap_0 : decode prog_3_method_4_code 0 = .ok (.aload_n 1, 1) := by decide +kernel
theorem t_X1_sowLap_1 : decode prog_3_method_4_code 1 = .ok (.getfield 36, 3) := by decide +kernel
theorem t_X1_sowLap_4 : decode prog_3_method_4_code 4 = .ok (.iload_n 2, 1) := by decide +kernel
theorem t_X1_sowLap_5 : decode prog_3_method_4_code 5 = .ok (.iaload, 1) := by decide +kernel
theorem t_X1_sowLap_6 : decode prog_3_method_4_code 6 = .ok (.istore_n 3, 1) := by decide +kernel
theorem t_X1_sowLap_7 : decode prog_3_method_4_code 7 = .ok (.aload_n 1, 1) := by decide +kernel
theorem t_X1_sowLap_8 : decode prog_3_method_4_code 8 = .ok (.getfield 36, 3) := by decide +kernel
theorem t_X1_sowLap_11 : decode prog_3_method_4_code 11 = .ok (.iload_n 2, 1) := by decide +kernel
theorem t_X1_sowLap_12 : decode prog_3_method_4_code 12 = .ok (.iconst 0, 1) := by decide +kernel
theorem t_X1_sowLap_13 : decode prog_3_method_4_code 13 = .ok (.iastore, 1) := by decide +kernel
theorem t_X1_sowLap_14 : decode prog_3_method_4_code 14 = .ok (.aload_n 0, 1) := by decide +kernel
theorem t_X1_sowLap_15 : decode prog_3_method_4_code 15 = .ok (.bipush 8, 2) := by decide +kernel
theorem t_X1_sowLap_17 : decode prog_3_method_4_code 17 = .ok (.invokevirtual 53, 3) := by decide +kernel
theorem t_X1_sowLap_20 : decode prog_3_method_4_code 20 = .ok (.ifCond .eq 7, 3) := by decide +kernel
theorem t_X1_sowLap_23 : decode prog_3_method_4_code 23 = .ok (.iload_n 2, 1) := by decide +kernel
theorem t_X1_sowLap_24 : decode prog_3_method_4_code 24 = .ok (.goto 4, 3) := by decide +kernel
theorem t_X1_sowLap_27 : decode prog_3_method_4_code 27 = .ok (.iconst (-1), 1) := by decide +kernel
theorem t_X1_sowLap_28 : decode prog_3_method_4_code 28 = .ok (.istore 4, 2) := by decide +kernel
theorem t_X1_sowLap_30 : decode prog_3_method_4_code 30 = .ok (.iconst 0, 1) := by decide +kernel
theorem t_X1_sowLap_31 : decode prog_3_method_4_code 31 = .ok (.istore 5, 2) := by decide +kernel
theorem t_X1_sowLap_33 : decode prog_3_method_4_code 33 = .ok (.iconst 0, 1) := by decide +kernel
theorem t_X1_sowLap_34 : decode prog_3_method_4_code 34 = .ok (.istore 6, 2) := by decide +kernel
theorem t_X1_sowLap_36 : decode prog_3_method_4_code 36 = .ok (.iload 6, 2) := by decide +kernel
theorem t_X1_sowLap_38 : decode prog_3_method_4_code 38 = .ok (.iload_n 3, 1) := by decide +kernel
theorem t_X1_sowLap_39 : decode prog_3_method_4_code 39 = .ok (.if_icmp .ge 110, 3) := by decide +kernel
theorem t_X1_sowLap_42 : decode prog_3_method_4_code 42 = .ok (.aload_n 0, 1) := by decide +kernel
theorem t_X1_sowLap_43 : decode prog_3_method_4_code 43 = .ok (.aload_n 0, 1) := by decide +kernel
theorem t_X1_sowLap_44 : decode prog_3_method_4_code 44 = .ok (.aload_n 0, 1) := by decide +kernel
theorem t_X1_sowLap_45 : decode prog_3_method_4_code 45 = .ok (.getfield 33, 3) := by decide +kernel
theorem t_X1_sowLap_48 : decode prog_3_method_4_code 48 = .ok (.aload_n 1, 1) := by decide +kernel
theorem t_X1_sowLap_49 : decode prog_3_method_4_code 49 = .ok (.getfield 30, 3) := by decide +kernel
theorem t_X1_sowLap_52 : decode prog_3_method_4_code 52 = .ok (.invokevirtual 69, 3) := by decide +kernel
theorem t_X1_sowLap_55 : decode prog_3_method_4_code 55 = .ok (.putfield 33, 3) := by decide +kernel
theorem t_X1_sowLap_58 : decode prog_3_method_4_code 58 = .ok (.aload_n 0, 1) := by decide +kernel
theorem t_X1_sowLap_59 : decode prog_3_method_4_code 59 = .ok (.getfield 33, 3) := by decide +kernel
theorem t_X1_sowLap_62 : decode prog_3_method_4_code 62 = .ok (.iload 4, 2) := by decide +kernel
theorem t_X1_sowLap_64 : decode prog_3_method_4_code 64 = .ok (.if_icmp .ne 19, 3) := by decide +kernel
theorem t_X1_sowLap_67 : decode prog_3_method_4_code 67 = .ok (.aload_n 0, 1) := by decide +kernel
theorem t_X1_sowLap_68 : decode prog_3_method_4_code 68 = .ok (.aload_n 0, 1) := by decide +kernel
theorem t_X1_sowLap_69 : decode prog_3_method_4_code 69 = .ok (.aload_n 0, 1) := by decide +kernel
theorem t_X1_sowLap_70 : decode prog_3_method_4_code 70 = .ok (.getfield 33, 3) := by decide +kernel
theorem t_X1_sowLap_73 : decode prog_3_method_4_code 73 = .ok (.aload_n 1, 1) := by decide +kernel
theorem t_X1_sowLap_74 : decode prog_3_method_4_code 74 = .ok (.getfield 30, 3) := by decide +kernel
theorem t_X1_sowLap_77 : decode prog_3_method_4_code 77 = .ok (.invokevirtual 69, 3) := by decide +kernel
theorem t_X1_sowLap_80 : decode prog_3_method_4_code 80 = .ok (.putfield 33, 3) := by decide +kernel
theorem t_X1_sowLap_83 : decode prog_3_method_4_code 83 = .ok (.aload_n 0, 1) := by decide +kernel
theorem t_X1_sowLap_84 : decode prog_3_method_4_code 84 = .ok (.getfield 33, 3) := by decide +kernel
theorem t_X1_sowLap_87 : decode prog_3_method_4_code 87 = .ok (.bipush 50, 2) := by decide +kernel
theorem t_X1_sowLap_89 : decode prog_3_method_4_code 89 = .ok (.if_icmp .ne 22, 3) := by decide +kernel
theorem t_X1_sowLap_92 : decode prog_3_method_4_code 92 = .ok (.aload_n 1, 1) := by decide +kernel
theorem t_X1_sowLap_93 : decode prog_3_method_4_code 93 = .ok (.getfield 43, 3) := by decide +kernel
theorem t_X1_sowLap_96 : decode prog_3_method_4_code 96 = .ok (.aload_n 0, 1) := by decide +kernel
theorem t_X1_sowLap_97 : decode prog_3_method_4_code 97 = .ok (.getfield 24, 3) := by decide +kernel
theorem t_X1_sowLap_100 : decode prog_3_method_4_code 100 = .ok (.dup2, 1) := by decide +kernel
theorem t_X1_sowLap_101 : decode prog_3_method_4_code 101 = .ok (.iaload, 1) := by decide +kernel
theorem t_X1_sowLap_102 : decode prog_3_method_4_code 102 = .ok (.iconst 1, 1) := by decide +kernel
theorem t_X1_sowLap_103 : decode prog_3_method_4_code 103 = .ok (.iadd, 1) := by decide +kernel
theorem t_X1_sowLap_104 : decode prog_3_method_4_code 104 = .ok (.iastore, 1) := by decide +kernel
theorem t_X1_sowLap_105 : decode prog_3_method_4_code 105 = .ok (.iconst 0, 1) := by decide +kernel
theorem t_X1_sowLap_106 : decode prog_3_method_4_code 106 = .ok (.istore 5, 2) := by decide +kernel
theorem t_X1_sowLap_108 : decode prog_3_method_4_code 108 = .ok (.goto 35, 3) := by decide +kernel
theorem t_X1_sowLap_111 : decode prog_3_method_4_code 111 = .ok (.aload_n 1, 1) := by decide +kernel
theorem t_X1_sowLap_112 : decode prog_3_method_4_code 112 = .ok (.getfield 36, 3) := by decide +kernel
theorem t_X1_sowLap_115 : decode prog_3_method_4_code 115 = .ok (.aload_n 0, 1) := by decide +kernel
theorem t_X1_sowLap_116 : decode prog_3_method_4_code 116 = .ok (.getfield 33, 3) := by decide +kernel
theorem t_X1_sowLap_119 : decode prog_3_method_4_code 119 = .ok (.iaload, 1) := by decide +kernel
theorem t_X1_sowLap_120 : decode prog_3_method_4_code 120 = .ok (.ifCond .le 7, 3) := by decide +kernel
theorem t_X1_sowLap_123 : decode prog_3_method_4_code 123 = .ok (.iconst 1, 1) := by decide +kernel
theorem t_X1_sowLap_124 : decode prog_3_method_4_code 124 = .ok (.goto 4, 3) := by decide +kernel
theorem t_X1_sowLap_127 : decode prog_3_method_4_code 127 = .ok (.iconst 0, 1) := by decide +kernel
theorem t_X1_sowLap_128 : decode prog_3_method_4_code 128 = .ok (.istore 5, 2) := by decide +kernel
theorem t_X1_sowLap_130 : decode prog_3_method_4_code 130 = .ok (.aload_n 1, 1) := by decide +kernel
theorem t_X1_sowLap_131 : decode prog_3_method_4_code 131 = .ok (.getfield 36, 3) := by decide +kernel
theorem t_X1_sowLap_134 : decode prog_3_method_4_code 134 = .ok (.aload_n 0, 1) := by decide +kernel
theorem t_X1_sowLap_135 : decode prog_3_method_4_code 135 = .ok (.getfield 33, 3) := by decide +kernel
theorem t_X1_sowLap_138 : decode prog_3_method_4_code 138 = .ok (.dup2, 1) := by decide +kernel
theorem t_X1_sowLap_139 : decode prog_3_method_4_code 139 = .ok (.iaload, 1) := by decide +kernel
theorem t_X1_sowLap_140 : decode prog_3_method_4_code 140 = .ok (.iconst 1, 1) := by decide +kernel
theorem t_X1_sowLap_141 : decode prog_3_method_4_code 141 = .ok (.iadd, 1) := by decide +kernel
theorem t_X1_sowLap_142 : decode prog_3_method_4_code 142 = .ok (.iastore, 1) := by decide +kernel
theorem t_X1_sowLap_143 : decode prog_3_method_4_code 143 = .ok (.iinc 6 1, 3) := by decide +kernel
theorem t_X1_sowLap_146 : decode prog_3_method_4_code 146 = .ok (.goto (-110), 3) := by decide +kernel
theorem t_X1_sowLap_149 : decode prog_3_method_4_code 149 = .ok (.iload 5, 2) := by decide +kernel
theorem t_X1_sowLap_151 : decode prog_3_method_4_code 151 = .ok (.ireturn, 1) := by decide +kernel
def y_X1_make : MethodName := ⟨"SowingBoards$Move", "make", "(LSowingBoards$Position;II)Z"⟩
theorem t_X1_make_0 : decode prog_3_method_2_code 0 = .ok (.aload_n 1, 1) := by decide +kernel
theorem t_X1_make_1 : decode prog_3_method_2_code 1 = .ok (.iload_n 2, 1) := by decide +kernel
theorem t_X1_make_2 : decode prog_3_method_2_code 2 = .ok (.invokevirtual 9, 3) := by decide +kernel
theorem t_X1_make_5 : decode prog_3_method_2_code 5 = .ok (.ifCond .ne 5, 3) := by decide +kernel
theorem t_X1_make_8 : decode prog_3_method_2_code 8 = .ok (.iconst 0, 1) := by decide +kernel
theorem t_X1_make_9 : decode prog_3_method_2_code 9 = .ok (.ireturn, 1) := by decide +kernel
theorem t_X1_make_10 : decode prog_3_method_2_code 10 = .ok (.aload_n 0, 1) := by decide +kernel
theorem t_X1_make_11 : decode prog_3_method_2_code 11 = .ok (.iload_n 3, 1) := by decide +kernel
theorem t_X1_make_12 : decode prog_3_method_2_code 12 = .ok (.putfield 15, 3) := by decide +kernel
theorem t_X1_make_15 : decode prog_3_method_2_code 15 = .ok (.aload_n 0, 1) := by decide +kernel
theorem t_X1_make_16 : decode prog_3_method_2_code 16 = .ok (.aload_n 1, 1) := by decide +kernel
theorem t_X1_make_17 : decode prog_3_method_2_code 17 = .ok (.getfield 21, 3) := by decide +kernel
theorem t_X1_make_20 : decode prog_3_method_2_code 20 = .ok (.putfield 24, 3) := by decide +kernel
theorem t_X1_make_23 : decode prog_3_method_2_code 23 = .ok (.aload_n 0, 1) := by decide +kernel
theorem t_X1_make_24 : decode prog_3_method_2_code 24 = .ok (.iload_n 2, 1) := by decide +kernel
theorem t_X1_make_25 : decode prog_3_method_2_code 25 = .ok (.putfield 27, 3) := by decide +kernel
theorem t_X1_make_28 : decode prog_3_method_2_code 28 = .ok (.aload_n 0, 1) := by decide +kernel
theorem t_X1_make_29 : decode prog_3_method_2_code 29 = .ok (.aload_n 0, 1) := by decide +kernel
theorem t_X1_make_30 : decode prog_3_method_2_code 30 = .ok (.getfield 24, 3) := by decide +kernel
theorem t_X1_make_33 : decode prog_3_method_2_code 33 = .ok (.aload_n 1, 1) := by decide +kernel
theorem t_X1_make_34 : decode prog_3_method_2_code 34 = .ok (.getfield 30, 3) := by decide +kernel
theorem t_X1_make_37 : decode prog_3_method_2_code 37 = .ok (.imul, 1) := by decide +kernel
theorem t_X1_make_38 : decode prog_3_method_2_code 38 = .ok (.aload_n 0, 1) := by decide +kernel
theorem t_X1_make_39 : decode prog_3_method_2_code 39 = .ok (.getfield 27, 3) := by decide +kernel
theorem t_X1_make_42 : decode prog_3_method_2_code 42 = .ok (.iadd, 1) := by decide +kernel
theorem t_X1_make_43 : decode prog_3_method_2_code 43 = .ok (.putfield 33, 3) := by decide +kernel
theorem t_X1_make_46 : decode prog_3_method_2_code 46 = .ok (.aload_n 0, 1) := by decide +kernel
theorem t_X1_make_47 : decode prog_3_method_2_code 47 = .ok (.aload_n 1, 1) := by decide +kernel
theorem t_X1_make_48 : decode prog_3_method_2_code 48 = .ok (.getfield 36, 3) := by decide +kernel
theorem t_X1_make_51 : decode prog_3_method_2_code 51 = .ok (.aload_n 0, 1) := by decide +kernel
theorem t_X1_make_52 : decode prog_3_method_2_code 52 = .ok (.getfield 33, 3) := by decide +kernel
theorem t_X1_make_55 : decode prog_3_method_2_code 55 = .ok (.iaload, 1) := by decide +kernel
theorem t_X1_make_56 : decode prog_3_method_2_code 56 = .ok (.putfield 40, 3) := by decide +kernel
theorem t_X1_make_59 : decode prog_3_method_2_code 59 = .ok (.aload_n 1, 1) := by decide +kernel
theorem t_X1_make_60 : decode prog_3_method_2_code 60 = .ok (.getfield 43, 3) := by decide +kernel
theorem t_X1_make_63 : decode prog_3_method_2_code 63 = .ok (.aload_n 0, 1) := by decide +kernel
theorem t_X1_make_64 : decode prog_3_method_2_code 64 = .ok (.getfield 24, 3) := by decide +kernel
theorem t_X1_make_67 : decode prog_3_method_2_code 67 = .ok (.iaload, 1) := by decide +kernel
theorem t_X1_make_68 : decode prog_3_method_2_code 68 = .ok (.istore 4, 2) := by decide +kernel
theorem t_X1_make_70 : decode prog_3_method_2_code 70 = .ok (.aload_n 0, 1) := by decide +kernel
theorem t_X1_make_71 : decode prog_3_method_2_code 71 = .ok (.iconst 0, 1) := by decide +kernel
theorem t_X1_make_72 : decode prog_3_method_2_code 72 = .ok (.putfield 46, 3) := by decide +kernel
theorem t_X1_make_75 : decode prog_3_method_2_code 75 = .ok (.iconst 1, 1) := by decide +kernel
theorem t_X1_make_76 : decode prog_3_method_2_code 76 = .ok (.istore 5, 2) := by decide +kernel
theorem t_X1_make_78 : decode prog_3_method_2_code 78 = .ok (.iconst 0, 1) := by decide +kernel
theorem t_X1_make_79 : decode prog_3_method_2_code 79 = .ok (.istore 6, 2) := by decide +kernel
theorem t_X1_make_81 : decode prog_3_method_2_code 81 = .ok (.iload 6, 2) := by decide +kernel
theorem t_X1_make_83 : decode prog_3_method_2_code 83 = .ok (.bipush 50, 2) := by decide +kernel
theorem t_X1_make_85 : decode prog_3_method_2_code 85 = .ok (.if_icmp .ge 51, 3) := by decide +kernel
theorem t_X1_make_88 : decode prog_3_method_2_code 88 = .ok (.iload 5, 2) := by decide +kernel
theorem t_X1_make_90 : decode prog_3_method_2_code 90 = .ok (.ifCond .eq 46, 3) := by decide +kernel
theorem t_X1_make_93 : decode prog_3_method_2_code 93 = .ok (.aload_n 0, 1) := by decide +kernel
theorem t_X1_make_94 : decode prog_3_method_2_code 94 = .ok (.aload_n 1, 1) := by decide +kernel
theorem t_X1_make_95 : decode prog_3_method_2_code 95 = .ok (.aload_n 0, 1) := by decide +kernel
theorem t_X1_make_96 : decode prog_3_method_2_code 96 = .ok (.getfield 33, 3) := by decide +kernel
theorem t_X1_make_99 : decode prog_3_method_2_code 99 = .ok (.invokevirtual 49, 3) := by decide +kernel
theorem t_X1_make_102 : decode prog_3_method_2_code 102 = .ok (.ifCond .eq 15, 3) := by decide +kernel
theorem t_X1_make_105 : decode prog_3_method_2_code 105 = .ok (.aload_n 0, 1) := by decide +kernel
theorem t_X1_make_106 : decode prog_3_method_2_code 106 = .ok (.iconst 2, 1) := by decide +kernel
theorem t_X1_make_107 : decode prog_3_method_2_code 107 = .ok (.invokevirtual 53, 3) := by decide +kernel
theorem t_X1_make_110 : decode prog_3_method_2_code 110 = .ok (.ifCond .eq 7, 3) := by decide +kernel
theorem t_X1_make_113 : decode prog_3_method_2_code 113 = .ok (.iconst 1, 1) := by decide +kernel
theorem t_X1_make_114 : decode prog_3_method_2_code 114 = .ok (.goto 4, 3) := by decide +kernel
theorem t_X1_make_117 : decode prog_3_method_2_code 117 = .ok (.iconst 0, 1) := by decide +kernel
theorem t_X1_make_118 : decode prog_3_method_2_code 118 = .ok (.istore 5, 2) := by decide +kernel
theorem t_X1_make_120 : decode prog_3_method_2_code 120 = .ok (.aload_n 0, 1) := by decide +kernel
theorem t_X1_make_121 : decode prog_3_method_2_code 121 = .ok (.dup, 1) := by decide +kernel
theorem t_X1_make_122 : decode prog_3_method_2_code 122 = .ok (.getfield 46, 3) := by decide +kernel
theorem t_X1_make_125 : decode prog_3_method_2_code 125 = .ok (.iconst 1, 1) := by decide +kernel
theorem t_X1_make_126 : decode prog_3_method_2_code 126 = .ok (.iadd, 1) := by decide +kernel
theorem t_X1_make_127 : decode prog_3_method_2_code 127 = .ok (.putfield 46, 3) := by decide +kernel
theorem t_X1_make_130 : decode prog_3_method_2_code 130 = .ok (.iinc 6 1, 3) := by decide +kernel
theorem t_X1_make_133 : decode prog_3_method_2_code 133 = .ok (.goto (-52), 3) := by decide +kernel
theorem t_X1_make_136 : decode prog_3_method_2_code 136 = .ok (.aload_n 0, 1) := by decide +kernel
theorem t_X1_make_137 : decode prog_3_method_2_code 137 = .ok (.iconst 4, 1) := by decide +kernel
theorem t_X1_make_138 : decode prog_3_method_2_code 138 = .ok (.invokevirtual 53, 3) := by decide +kernel
theorem t_X1_make_141 : decode prog_3_method_2_code 141 = .ok (.ifCond .eq 8, 3) := by decide +kernel
theorem t_X1_make_144 : decode prog_3_method_2_code 144 = .ok (.aload_n 0, 1) := by decide +kernel
theorem t_X1_make_145 : decode prog_3_method_2_code 145 = .ok (.aload_n 1, 1) := by decide +kernel
theorem t_X1_make_146 : decode prog_3_method_2_code 146 = .ok (.invokevirtual 56, 3) := by decide +kernel
theorem t_X1_make_149 : decode prog_3_method_2_code 149 = .ok (.aload_n 0, 1) := by decide +kernel
theorem t_X1_make_150 : decode prog_3_method_2_code 150 = .ok (.bipush 32, 2) := by decide +kernel
theorem t_X1_make_152 : decode prog_3_method_2_code 152 = .ok (.invokevirtual 53, 3) := by decide +kernel
theorem t_X1_make_155 : decode prog_3_method_2_code 155 = .ok (.ifCond .eq 8, 3) := by decide +kernel
theorem t_X1_make_158 : decode prog_3_method_2_code 158 = .ok (.aload_n 0, 1) := by decide +kernel
theorem t_X1_make_159 : decode prog_3_method_2_code 159 = .ok (.aload_n 1, 1) := by decide +kernel
theorem t_X1_make_160 : decode prog_3_method_2_code 160 = .ok (.invokevirtual 60, 3) := by decide +kernel
theorem t_X1_make_163 : decode prog_3_method_2_code 163 = .ok (.aload_n 0, 1) := by decide +kernel
theorem t_X1_make_164 : decode prog_3_method_2_code 164 = .ok (.aload_n 1, 1) := by decide +kernel
theorem t_X1_make_165 : decode prog_3_method_2_code 165 = .ok (.getfield 43, 3) := by decide +kernel
theorem t_X1_make_168 : decode prog_3_method_2_code 168 = .ok (.aload_n 0, 1) := by decide +kernel
theorem t_X1_make_169 : decode prog_3_method_2_code 169 = .ok (.getfield 24, 3) := by decide +kernel
theorem t_X1_make_172 : decode prog_3_method_2_code 172 = .ok (.iaload, 1) := by decide +kernel
theorem t_X1_make_173 : decode prog_3_method_2_code 173 = .ok (.iload 4, 2) := by decide +kernel
theorem t_X1_make_175 : decode prog_3_method_2_code 175 = .ok (.isub, 1) := by decide +kernel
theorem t_X1_make_176 : decode prog_3_method_2_code 176 = .ok (.putfield 63, 3) := by decide +kernel
theorem t_X1_make_179 : decode prog_3_method_2_code 179 = .ok (.aload_n 0, 1) := by decide +kernel
theorem t_X1_make_180 : decode prog_3_method_2_code 180 = .ok (.aload_n 1, 1) := by decide +kernel
theorem t_X1_make_181 : decode prog_3_method_2_code 181 = .ok (.invokevirtual 66, 3) := by decide +kernel
theorem t_X1_make_184 : decode prog_3_method_2_code 184 = .ok (.iconst 1, 1) := by decide +kernel
theorem t_X1_make_185 : decode prog_3_method_2_code 185 = .ok (.ireturn, 1) := by decide +kernel
theorem fl_1_15 : FLk "SowingBoards$Move" 15 1 0 := ⟨_, rfl, by decide, Or.inl (vtb_at 272 (by decide +kernel) rfl)⟩
theorem fl_1_21 : FLk "SowingBoards$Move" 21 5 3 := ⟨_, rfl, by decide, Or.inr ⟨"SowingBoards", vnl_at 194 (by decide +kernel) rfl⟩⟩
theorem fl_1_24 : FLk "SowingBoards$Move" 24 1 1 := ⟨_, rfl, by decide, Or.inl (vtb_at 273 (by decide +kernel) rfl)⟩
theorem fl_1_27 : FLk "SowingBoards$Move" 27 1 2 := ⟨_, rfl, by decide, Or.inl (vtb_at 274 (by decide +kernel) rfl)⟩
theorem fl_1_30 : FLk "SowingBoards$Move" 30 5 2 := ⟨_, rfl, by decide, Or.inr ⟨"SowingBoards", vnl_at 191 (by decide +kernel) rfl⟩⟩
theorem fl_1_33 : FLk "SowingBoards$Move" 33 1 6 := ⟨_, rfl, by decide, Or.inl (vtb_at 284 (by decide +kernel) rfl)⟩
theorem fl_1_36 : FLk "SowingBoards$Move" 36 5 0 := ⟨_, rfl, by decide, Or.inr ⟨"SowingBoards", vnl_at 182 (by decide +kernel) rfl⟩⟩
theorem fl_1_40 : FLk "SowingBoards$Move" 40 1 3 := ⟨_, rfl, by decide, Or.inl (vtb_at 276 (by decide +kernel) rfl)⟩
theorem fl_1_43 : FLk "SowingBoards$Move" 43 5 1 := ⟨_, rfl, by decide, Or.inr ⟨"SowingBoards", vnl_at 185 (by decide +kernel) rfl⟩⟩
theorem fl_1_46 : FLk "SowingBoards$Move" 46 1 5 := ⟨_, rfl, by decide, Or.inl (vtb_at 281 (by decide +kernel) rfl)⟩
theorem fl_1_63 : FLk "SowingBoards$Move" 63 1 4 := ⟨_, rfl, by decide, Or.inl (vtb_at 278 (by decide +kernel) rfl)⟩
theorem fl_1_81 : FLk "SowingBoards$Move" 81 1 7 := ⟨_, rfl, by decide, Or.inl (vtb_at 287 (by decide +kernel) rfl)⟩
theorem fl_1_88 : FLk "SowingBoards$Move" 88 5 4 := ⟨_, rfl, by decide, Or.inr ⟨"SowingBoards", vnl_at 201 (by decide +kernel) rfl⟩⟩
theorem fl_1_94 : FLk "SowingBoards$Move" 94 1 8 := ⟨_, rfl, by decide, Or.inl (vtb_at 289 (by decide +kernel) rfl)⟩
theorem fl_1_100 : FLk "SowingBoards$Move" 100 1 9 := ⟨_, rfl, by decide, Or.inl (vtb_at 291 (by decide +kernel) rfl)⟩
theorem fp_1_0 : FPk 1 0 "I" := ⟨_, rfl, rfl, rfl⟩
theorem fp_1_1 : FPk 1 1 "I" := ⟨_, rfl, rfl, rfl⟩
theorem fp_1_2 : FPk 1 2 "I" := ⟨_, rfl, rfl, rfl⟩
theorem fp_1_3 : FPk 1 3 "I" := ⟨_, rfl, rfl, rfl⟩
theorem fp_1_4 : FPk 1 4 "I" := ⟨_, rfl, rfl, rfl⟩
theorem fp_1_5 : FPk 1 5 "I" := ⟨_, rfl, rfl, rfl⟩
theorem fp_1_6 : FPk 1 6 "I" := ⟨_, rfl, rfl, rfl⟩
theorem fp_1_7 : FPk 1 7 "Z" := ⟨_, rfl, rfl, rfl⟩
theorem fp_1_8 : FPk 1 8 "I" := ⟨_, rfl, rfl, rfl⟩
theorem fp_1_9 : FPk 1 9 "I" := ⟨_, rfl, rfl, rfl⟩
theorem my_X5_isOf : MY y_X5_isOf prog_7_method_5_code 3 (some .boolean) 2 := ⟨vtb_at 798 (by decide +kernel) rfl, vtb_at 140 (by decide +kernel) rfl, ⟨by decide, by decide, by decide +kernel⟩, by decide⟩
theorem mi_X5_isOf : MI y_X5_isOf := ⟨vtb_at 797 (by decide +kernel) rfl, vtb_at 33 (by decide +kernel) rfl⟩
theorem my_X5_opposite : MY y_X5_opposite prog_7_method_6_code 2 (some .int) 1 := ⟨vtb_at 802 (by decide +kernel) rfl, vtb_at 140 (by decide +kernel) rfl, ⟨by decide, by decide, by decide +kernel⟩, by decide⟩
theorem mi_X5_opposite : MI y_X5_opposite := ⟨vtb_at 801 (by decide +kernel) rfl, vtb_at 34 (by decide +kernel) rfl⟩
theorem my_X5_pass : MY y_X5_pass prog_7_method_16_code 1 none 0 := ⟨vtb_at 814 (by decide +kernel) rfl, vtb_at 140 (by decide +kernel) rfl, ⟨by decide, by decide, by decide +kernel⟩, by decide⟩
theorem mi_X5_pass : MI y_X5_pass := ⟨vtb_at 813 (by decide +kernel) rfl, vtb_at 37 (by decide +kernel) rfl⟩
theorem my_X1_obeys : MY y_X1_obeys prog_3_method_3_code 2 (some .boolean) 1 := ⟨vtb_at 786 (by decide +kernel) rfl, vtb_at 144 (by decide +kernel) rfl, ⟨by decide, by decide, by decide +kernel⟩, by decide⟩
theorem mi_X1_obeys : MI y_X1_obeys := ⟨vtb_at 785 (by decide +kernel) rfl, vtb_at 30 (by decide +kernel) rfl⟩
theorem my_X1_placeBehind : MY y_X1_placeBehind prog_3_method_5_code 5 (some .int) 2 := ⟨vtb_at 790 (by decide +kernel) rfl, vtb_at 144 (by decide +kernel) rfl, ⟨by decide, by decide, by decide +kernel⟩, by decide⟩
theorem mi_X1_placeBehind : MI y_X1_placeBehind := ⟨vtb_at 789 (by decide +kernel) rfl, vtb_at 31 (by decide +kernel) rfl⟩
theorem my_X1_sowLap : MY y_X1_sowLap prog_3_method_4_code 7 (some .boolean) 2 := ⟨vtb_at 782 (by decide +kernel) rfl, vtb_at 144 (by decide +kernel) rfl, ⟨by decide, by decide, by decide +kernel⟩, by decide⟩
theorem mi_X1_sowLap : MI y_X1_sowLap := ⟨vtb_at 781 (by decide +kernel) rfl, vtb_at 29 (by decide +kernel) rfl⟩
theorem my_X1_endTurn : MY y_X1_endTurn prog_3_method_8_code 2 none 1 := ⟨vtb_at 810 (by decide +kernel) rfl, vtb_at 144 (by decide +kernel) rfl, ⟨by decide, by decide, by decide +kernel⟩, by decide⟩
theorem mi_X1_endTurn : MI y_X1_endTurn := ⟨vtb_at 809 (by decide +kernel) rfl, vtb_at 36 (by decide +kernel) rfl⟩
theorem my_X1_captureBackwards : MY y_X1_captureBackwards prog_3_method_7_code 5 none 1 := ⟨vtb_at 806 (by decide +kernel) rfl, vtb_at 144 (by decide +kernel) rfl, ⟨by decide, by decide, by decide +kernel⟩, by decide⟩
theorem mi_X1_captureBackwards : MI y_X1_captureBackwards := ⟨vtb_at 805 (by decide +kernel) rfl, vtb_at 35 (by decide +kernel) rfl⟩
theorem my_X1_captureOpposite : MY y_X1_captureOpposite prog_3_method_6_code 3 none 1 := ⟨vtb_at 794 (by decide +kernel) rfl, vtb_at 144 (by decide +kernel) rfl, ⟨by decide, by decide, by decide +kernel⟩, by decide⟩
theorem mi_X1_captureOpposite : MI y_X1_captureOpposite := ⟨vtb_at 793 (by decide +kernel) rfl, vtb_at 32 (by decide +kernel) rfl⟩
theorem ml_1_9 : ML "SowingBoards$Move" 9 y_X5_canMove := Or.inr ⟨"SowingBoards", vnl_at 778 (by decide +kernel) rfl⟩
theorem ml_1_49 : ML "SowingBoards$Move" 49 y_X1_sowLap := Or.inl (vtb_at 779 (by decide +kernel) rfl)
theorem ml_1_53 : ML "SowingBoards$Move" 53 y_X1_obeys := Or.inl (vtb_at 783 (by decide +kernel) rfl)
theorem ml_1_56 : ML "SowingBoards$Move" 56 y_X1_captureOpposite := Or.inl (vtb_at 791 (by decide +kernel) rfl)
theorem ml_1_60 : ML "SowingBoards$Move" 60 y_X1_captureBackwards := Or.inl (vtb_at 803 (by decide +kernel) rfl)
theorem ml_1_66 : ML "SowingBoards$Move" 66 y_X1_endTurn := Or.inl (vtb_at 807 (by decide +kernel) rfl)
theorem ml_1_69 : ML "SowingBoards$Move" 69 y_X1_placeBehind := Or.inl (vtb_at 787 (by decide +kernel) rfl)
theorem ml_1_73 : ML "SowingBoards$Move" 73 y_X5_isOf := Or.inr ⟨"SowingBoards", vnl_at 795 (by decide +kernel) rfl⟩
theorem ml_1_77 : ML "SowingBoards$Move" 77 y_X5_opposite := Or.inr ⟨"SowingBoards", vnl_at 799 (by decide +kernel) rfl⟩
theorem ml_1_85 : ML "SowingBoards$Move" 85 y_X5_pass := Or.inr ⟨"SowingBoards", vnl_at 811 (by decide +kernel) rfl⟩
theorem ml_1_91 : ML "SowingBoards$Move" 91 y_X5_emptyPitsOf := Or.inr ⟨"SowingBoards", vnl_at 815 (by decide +kernel) rfl⟩
theorem ml_1_97 : ML "SowingBoards$Move" 97 y_X5_inPitsOf := Or.inr ⟨"SowingBoards", vnl_at 819 (by decide +kernel) rfl⟩
def J_X1_captureBackwards_j61_1 (r35 : Int32 → Wd → Option Wd) (q5 : Nat) (q6 : Nat) (x13 : Int32) (x11 : Int32) : Wd → Option Wd := fun w14 =>
  if ib (w14.1 q5 1) 2 then (if ib (w14.1 q5 1) 2 then bd (wI w14 (q6 + 2) (w14.1 q5 1).toNatClampNeg ((w14.1 (q6 + 2) (w14.1 q5 1).toNatClampNeg) + x13)) (fun w16 => if ib x11 12 then bd (wI w16 (q6 + 1) x11.toNatClampNeg 0) (fun w17 => bd (x11 + (-1)) fun x18 => r35 x18 w17) else none) else none) else none
def L_X1_captureBackwards_35 (q5 : Nat) (q6 : Nat) (x7 : Int32) (k8 : Wd → Option Wd) (k9 : Wd → Option Wd) : Nat → Int32 → Wd → Option Wd
  | 0, _, _ => none
  | n10 + 1, x11, w12 =>
    if x11 < x7 then (k9 w12) else (if ib x11 12 then (bd (w12.1 (q6 + 1) x11.toNatClampNeg) fun x13 => bd (J_X1_captureBackwards_j61_1 (L_X1_captureBackwards_35 q5 q6 x7 k8 k9 n10) q5 q6 x13 x11) fun k15 => if x13 = 2 then (k15 w12) else (if x13 = 3 then (k15 w12) else (k8 w12))) else none)
def J_X1_captureBackwards_x60_2  : Wd → Option Wd := fun w19 =>
  some w19
def J_X1_captureBackwards_x88_3  : Wd → Option Wd := fun w20 =>
  some w20
def D_X1_captureBackwards (o0 : Nat) (o1 : Nat) : Wd → Option Wd := fun w =>
  bc (D_X5_isOf o1 (w.1 o0 6) (1 - (w.1 o0 1)) w) fun x2 w1 => if x2 = 0 then (some w1) else (bd ((1 - (w1.1 o0 1)) * (w1.1 o1 2)) fun x3 => bd (w1.1 o0 6) fun x4 => L_X1_captureBackwards_35 o0 o1 x3 J_X1_captureBackwards_x60_2 J_X1_captureBackwards_x88_3 FU x4 w1)
set_option maxRecDepth 20000 in
theorem Q_X1_captureBackwards_35 {l0 : Launch} {ρ : Nat → Nat} {cs : Nat → ClassId} {G : va_G} {X : Cx} (hρ : injN ρ) (hn : X.2.2.2.2.2.2.2.2.2.2.1 = 5) (h : Okx l0 ρ cs G X prog_3_method_7_code "SowingBoards$Move" 1) {rr : Wd} (hR : ∀ pc L, decode prog_3_method_7_code pc = .ok (.return_, 1) → gG ρ cs G X pc L [] rr) {q5 : Nat} (hq5 : isMove q5) {q6 : Nat} (hq6 : isPos q6) {x7 : Int32} {k8 : Wd → Option Wd} (hk8 : ∀ (w1 : Wd), k8 w1 = some rr → gG ρ cs G X 60 [] [] w1) {k9 : Wd → Option Wd} (hk9 : ∀ (w1 : Wd), k9 w1 = some rr → gG ρ cs G X 88 [] [] w1) : ∀ (n : Nat) (x11 : Int32) (w : Wd), L_X1_captureBackwards_35 q5 q6 x7 k8 k9 n x11 w = some rr → gG ρ cs G X 35 [(0, .ref (ρ q5)), (1, .ref (ρ q6)), (2, .int x7), (3, .int x11)] [] w := by
  intro n
  induction n with
  | zero =>
    intro x11 w hD
    cases hD
  | succ n10 ih =>
    intro x11 w12 hD
    unfold L_X1_captureBackwards_35 at hD
    refine g_iload_n h 3 t_X1_captureBackwards_35 rfl ?_
    refine g_iload_n h 2 t_X1_captureBackwards_36 rfl ?_
    refine g_icmp_lt (tgt := 88) h t_X1_captureBackwards_37 (by decide) hD (fun hD => ?_) (fun hD => ?_)
    · refine g_loc (L' := []) h [] rfl ?_
      exact hk9 _ hD
    · refine g_aload_n h 1 t_X1_captureBackwards_40 rfl ?_
      refine g_getQ h q6 0 (q6 + 1) 1 (by decide) rfl fl_1_36 (isPos_sh hq6) (isPos_lt hq6) rfl t_X1_captureBackwards_41 ?_
      refine g_iload_n h 3 t_X1_captureBackwards_44 rfl ?_
      refine g_iald h (q6 + 1) (isPos_s1 hq6) (isPos_l1 hq6) t_X1_captureBackwards_45 hD (fun hD => ?_)
      refine g_bdI hD (fun x13 hD => ?_)
      refine g_istore (L' := [(4, .int x13), (0, .ref (ρ q5)), (1, .ref (ρ q6)), (2, .int x7), (3, .int x11)]) h hn t_X1_captureBackwards_46 (by decide) rfl ?_
      refine g_iload h 0 t_X1_captureBackwards_48 rfl ?_
      refine g_iconst (v := 2) h t_X1_captureBackwards_50 (by decide) ?_
      refine g_join (P := fun k15 => ∀ (w14 : Wd), k15 w14 = some rr → gG ρ cs G X 61 [(0, .ref (ρ q5)), (1, .ref (ρ q6)), (2, .int x7), (3, .int x11), (4, .int x13)] [] w14) hD ?_ (fun k15 hk15 hD => ?_)
      · intro w14 hD
        unfold J_X1_captureBackwards_j61_1 at hD
        refine g_aload_n h 1 t_X1_captureBackwards_61 rfl ?_
        refine g_getQ h q6 1 (q6 + 2) 2 (by decide) rfl fl_1_43 (isPos_sh hq6) (isPos_lt hq6) rfl t_X1_captureBackwards_62 ?_
        refine g_aload_n h 0 t_X1_captureBackwards_65 rfl ?_
        refine g_getI h q5 1 fl_1_24 (isMove_sh hq5) (isMove_lt hq5) rfl t_X1_captureBackwards_66 ?_
        refine g_dup2 h t_X1_captureBackwards_69 rfl rfl ?_
        refine g_iald h (q6 + 2) (isPos_s2 hq6) (isPos_l2 hq6) t_X1_captureBackwards_70 hD (fun hD => ?_)
        refine g_iload h 4 t_X1_captureBackwards_71 rfl ?_
        refine g_iadd h t_X1_captureBackwards_73 ?_
        refine g_iast h (q6 + 2) (isPos_s2 hq6) (isPos_l2 hq6) t_X1_captureBackwards_74 hD (fun w16 hD => ?_)
        refine g_aload_n h 1 t_X1_captureBackwards_75 rfl ?_
        refine g_getQ h q6 0 (q6 + 1) 1 (by decide) rfl fl_1_36 (isPos_sh hq6) (isPos_lt hq6) rfl t_X1_captureBackwards_76 ?_
        refine g_iload_n h 3 t_X1_captureBackwards_79 rfl ?_
        refine g_iconst (v := 0) h t_X1_captureBackwards_80 (by decide) ?_
        refine g_iast h (q6 + 1) (isPos_s1 hq6) (isPos_l1 hq6) t_X1_captureBackwards_81 hD (fun w17 hD => ?_)
        obtain ⟨x18, ex18, hD⟩ := bd_ex hD
        refine g_iinc (v := x18) (L' := [(3, .int x18), (0, .ref (ρ q5)), (1, .ref (ρ q6)), (2, .int x7), (4, .int x13)]) h hn t_X1_captureBackwards_82 (k := 3) rfl (by rw [ex18]; rfl) (by decide) rfl ?_
        refine g_goto (tgt := 35) h t_X1_captureBackwards_85 (by decide) ?_
        refine g_loc (L' := [(0, .ref (ρ q5)), (1, .ref (ρ q6)), (2, .int x7), (3, .int x18)]) h [1, 2, 3, 0] rfl ?_
        exact ih x18 _ hD
      · refine g_icmp_eq (tgt := 61) h t_X1_captureBackwards_51 (by decide) hD (fun hD => ?_) (fun hD => ?_)
        · refine g_loc (L' := [(0, .ref (ρ q5)), (1, .ref (ρ q6)), (2, .int x7), (3, .int x11), (4, .int x13)]) h [1, 2, 3, 4, 0] rfl ?_
          exact hk15 _ hD
        · refine g_iload h 0 t_X1_captureBackwards_54 rfl ?_
          refine g_iconst (v := 3) h t_X1_captureBackwards_56 (by decide) ?_
          refine g_icmp_eq (tgt := 61) h t_X1_captureBackwards_57 (by decide) hD (fun hD => ?_) (fun hD => ?_)
          · refine g_loc (L' := [(0, .ref (ρ q5)), (1, .ref (ρ q6)), (2, .int x7), (3, .int x11), (4, .int x13)]) h [1, 2, 3, 4, 0] rfl ?_
            exact hk15 _ hD
          · refine g_loc (L' := []) h [] rfl ?_
            exact hk8 _ hD
set_option maxRecDepth 20000 in
theorem S_X1_captureBackwards {l0 : Launch} {ρ : Nat → Nat} {cs : Nat → ClassId} {G : va_G} (hρ : injN ρ) {o0 : Nat} (ho0 : isMove o0) {o1 : Nat} (ho1 : isPos o1) {w : Wd} {rr : Wd} (hD : D_X1_captureBackwards o0 o1 w = some rr) : CtV l0 ρ cs G y_X1_captureBackwards prog_3_method_7_code 5 1 [.ref (ρ o0), .ref (ρ o1)] w rr := by
  refine ctV_of hρ (by decide) (Nat.le_of_ble_eq_true rfl) (fun X hn h hR => ?_)
  unfold D_X1_captureBackwards at hD
  show gG ρ cs G X 0 [(0, .ref (ρ o0)), (1, .ref (ρ o1))] [] w
  refine g_aload_n h 1 t_X1_captureBackwards_0 rfl ?_
  refine g_aload_n h 0 t_X1_captureBackwards_1 rfl ?_
  refine g_getI h o0 6 fl_1_33 (isMove_sh ho0) (isMove_lt ho0) rfl t_X1_captureBackwards_2 ?_
  refine g_iconst (v := 1) h t_X1_captureBackwards_5 (by decide) ?_
  refine g_aload_n h 0 t_X1_captureBackwards_6 rfl ?_
  refine g_getI h o0 1 fl_1_24 (isMove_sh ho0) (isMove_lt ho0) rfl t_X1_captureBackwards_7 ?_
  refine g_isub h t_X1_captureBackwards_10 ?_
  refine g_callVI h o1 (As := [.int (w.1 o0 6), .int (1 - (w.1 o0 1))]) (st := []) my_X5_isOf mi_X5_isOf ml_1_73 (isPos_sh ho1) (isPos_lt ho1) rfl rfl rfl (Nat.le_of_ble_eq_true rfl) (by decide) t_X1_captureBackwards_11 hD (fun _ _ e => S_X5_isOf hρ ho1 e) (fun x2 w1 hD => ?_)
  refine g_if_ne (tgt := 18) h t_X1_captureBackwards_14 (by decide) hD (fun hD => ?_) (fun hD => ?_)
  · refine g_iconst (v := 1) h t_X1_captureBackwards_18 (by decide) ?_
    refine g_aload_n h 0 t_X1_captureBackwards_19 rfl ?_
    refine g_getI h o0 1 fl_1_24 (isMove_sh ho0) (isMove_lt ho0) rfl t_X1_captureBackwards_20 ?_
    refine g_isub h t_X1_captureBackwards_23 ?_
    refine g_aload_n h 1 t_X1_captureBackwards_24 rfl ?_
    refine g_getI h o1 2 fl_1_30 (isPos_sh ho1) (isPos_lt ho1) rfl t_X1_captureBackwards_25 ?_
    refine g_imul h t_X1_captureBackwards_28 ?_
    refine g_bdI hD (fun x3 hD => ?_)
    refine g_istore_n (L' := [(2, .int x3), (0, .ref (ρ o0)), (1, .ref (ρ o1))]) h hn t_X1_captureBackwards_29 rfl (by decide) rfl ?_
    refine g_aload_n h 1 t_X1_captureBackwards_30 rfl ?_
    refine g_getI h o0 6 fl_1_33 (isMove_sh ho0) (isMove_lt ho0) rfl t_X1_captureBackwards_31 ?_
    refine g_bdI hD (fun x4 hD => ?_)
    refine g_istore_n (L' := [(3, .int x4), (2, .int x3), (0, .ref (ρ o0)), (1, .ref (ρ o1))]) h hn t_X1_captureBackwards_34 rfl (by decide) rfl ?_
    refine g_loc (L' := [(0, .ref (ρ o0)), (1, .ref (ρ o1)), (2, .int x3), (3, .int x4)]) h [2, 3, 1, 0] rfl ?_
    refine Q_X1_captureBackwards_35 hρ hn h hR ho0 ho1 ?_ ?_ _ _ _ hD
    · intro w19 hD
      unfold J_X1_captureBackwards_x60_2 at hD
      obtain rfl := Option.some.inj hD
      exact hR _ _ t_X1_captureBackwards_60
    · intro w20 hD
      unfold J_X1_captureBackwards_x88_3 at hD
      obtain rfl := Option.some.inj hD
      exact hR _ _ t_X1_captureBackwards_88
  · obtain rfl := Option.some.inj hD
    exact hR _ _ t_X1_captureBackwards_17
def D_X1_captureOpposite (o0 : Nat) (o1 : Nat) : Wd → Option Wd := fun w =>
  bc (D_X5_isOf o1 (w.1 o0 6) (w.1 o0 1) w) fun x2 w1 => if x2 = 0 then (some w1) else (if ib (w1.1 o0 6) 12 then (if (w1.1 (o1 + 1) (w1.1 o0 6).toNatClampNeg) = 1 then (bc (D_X5_opposite o1 (w1.1 o0 6) w1) fun x4 w3 => if ib x4 12 then (if (w3.1 (o1 + 1) x4.toNatClampNeg) ≤ 0 then (some w3) else (if ib (w3.1 o0 1) 2 then (if ib x4 12 then (if ib (w3.1 o0 1) 2 then bd (wI w3 (o1 + 2) (w3.1 o0 1).toNatClampNeg ((w3.1 (o1 + 2) (w3.1 o0 1).toNatClampNeg) + (1 + (w3.1 (o1 + 1) x4.toNatClampNeg)))) (fun w5 => if ib (w5.1 o0 6) 12 then bd (wI w5 (o1 + 1) (w5.1 o0 6).toNatClampNeg 0) (fun w6 => if ib x4 12 then bd (wI w6 (o1 + 1) x4.toNatClampNeg 0) (fun w7 => some w7) else none) else none) else none) else none) else none)) else none) else (some w1)) else none)
set_option maxRecDepth 20000 in
theorem S_X1_captureOpposite {l0 : Launch} {ρ : Nat → Nat} {cs : Nat → ClassId} {G : va_G} (hρ : injN ρ) {o0 : Nat} (ho0 : isMove o0) {o1 : Nat} (ho1 : isPos o1) {w : Wd} {rr : Wd} (hD : D_X1_captureOpposite o0 o1 w = some rr) : CtV l0 ρ cs G y_X1_captureOpposite prog_3_method_6_code 3 1 [.ref (ρ o0), .ref (ρ o1)] w rr := by
  refine ctV_of hρ (by decide) (Nat.le_of_ble_eq_true rfl) (fun X hn h hR => ?_)
  unfold D_X1_captureOpposite at hD
  show gG ρ cs G X 0 [(0, .ref (ρ o0)), (1, .ref (ρ o1))] [] w
  refine g_aload_n h 1 t_X1_captureOpposite_0 rfl ?_
  refine g_aload_n h 0 t_X1_captureOpposite_1 rfl ?_
  refine g_getI h o0 6 fl_1_33 (isMove_sh ho0) (isMove_lt ho0) rfl t_X1_captureOpposite_2 ?_
  refine g_aload_n h 0 t_X1_captureOpposite_5 rfl ?_
  refine g_getI h o0 1 fl_1_24 (isMove_sh ho0) (isMove_lt ho0) rfl t_X1_captureOpposite_6 ?_
  refine g_callVI h o1 (As := [.int (w.1 o0 6), .int (w.1 o0 1)]) (st := []) my_X5_isOf mi_X5_isOf ml_1_73 (isPos_sh ho1) (isPos_lt ho1) rfl rfl rfl (Nat.le_of_ble_eq_true rfl) (by decide) t_X1_captureOpposite_9 hD (fun _ _ e => S_X5_isOf hρ ho1 e) (fun x2 w1 hD => ?_)
  refine g_if_eq (tgt := 28) h t_X1_captureOpposite_12 (by decide) hD (fun hD => ?_) (fun hD => ?_)
  · obtain rfl := Option.some.inj hD
    exact hR _ _ t_X1_captureOpposite_28
  · refine g_aload_n h 1 t_X1_captureOpposite_15 rfl ?_
    refine g_getQ h o1 0 (o1 + 1) 1 (by decide) rfl fl_1_36 (isPos_sh ho1) (isPos_lt ho1) rfl t_X1_captureOpposite_16 ?_
    refine g_aload_n h 0 t_X1_captureOpposite_19 rfl ?_
    refine g_getI h o0 6 fl_1_33 (isMove_sh ho0) (isMove_lt ho0) rfl t_X1_captureOpposite_20 ?_
    refine g_iald h (o1 + 1) (isPos_s1 ho1) (isPos_l1 ho1) t_X1_captureOpposite_23 hD (fun hD => ?_)
    refine g_iconst (v := 1) h t_X1_captureOpposite_24 (by decide) ?_
    refine g_icmp_eq (tgt := 29) h t_X1_captureOpposite_25 (by decide) hD (fun hD => ?_) (fun hD => ?_)
    · refine g_aload_n h 1 t_X1_captureOpposite_29 rfl ?_
      refine g_aload_n h 0 t_X1_captureOpposite_30 rfl ?_
      refine g_getI h o0 6 fl_1_33 (isMove_sh ho0) (isMove_lt ho0) rfl t_X1_captureOpposite_31 ?_
      refine g_callVI h o1 (As := [.int (w1.1 o0 6)]) (st := []) my_X5_opposite mi_X5_opposite ml_1_77 (isPos_sh ho1) (isPos_lt ho1) rfl rfl rfl (Nat.le_of_ble_eq_true rfl) (by decide) t_X1_captureOpposite_34 hD (fun _ _ e => S_X5_opposite hρ ho1 e) (fun x4 w3 hD => ?_)
      refine g_istore_n (L' := [(2, .int x4), (0, .ref (ρ o0)), (1, .ref (ρ o1))]) h hn t_X1_captureOpposite_37 rfl (by decide) rfl ?_
      refine g_aload_n h 2 t_X1_captureOpposite_38 rfl ?_
      refine g_getQ h o1 0 (o1 + 1) 1 (by decide) rfl fl_1_36 (isPos_sh ho1) (isPos_lt ho1) rfl t_X1_captureOpposite_39 ?_
      refine g_iload_n h 0 t_X1_captureOpposite_42 rfl ?_
      refine g_iald h (o1 + 1) (isPos_s1 ho1) (isPos_l1 ho1) t_X1_captureOpposite_43 hD (fun hD => ?_)
      refine g_if_le (tgt := 84) h t_X1_captureOpposite_44 (by decide) hD (fun hD => ?_) (fun hD => ?_)
      · obtain rfl := Option.some.inj hD
        exact hR _ _ t_X1_captureOpposite_84
      · refine g_aload_n h 2 t_X1_captureOpposite_47 rfl ?_
        refine g_getQ h o1 1 (o1 + 2) 2 (by decide) rfl fl_1_43 (isPos_sh ho1) (isPos_lt ho1) rfl t_X1_captureOpposite_48 ?_
        refine g_aload_n h 1 t_X1_captureOpposite_51 rfl ?_
        refine g_getI h o0 1 fl_1_24 (isMove_sh ho0) (isMove_lt ho0) rfl t_X1_captureOpposite_52 ?_
        refine g_dup2 h t_X1_captureOpposite_55 rfl rfl ?_
        refine g_iald h (o1 + 2) (isPos_s2 ho1) (isPos_l2 ho1) t_X1_captureOpposite_56 hD (fun hD => ?_)
        refine g_iconst (v := 1) h t_X1_captureOpposite_57 (by decide) ?_
        refine g_aload_n h 2 t_X1_captureOpposite_58 rfl ?_
        refine g_getQ h o1 0 (o1 + 1) 1 (by decide) rfl fl_1_36 (isPos_sh ho1) (isPos_lt ho1) rfl t_X1_captureOpposite_59 ?_
        refine g_iload_n h 0 t_X1_captureOpposite_62 rfl ?_
        refine g_iald h (o1 + 1) (isPos_s1 ho1) (isPos_l1 ho1) t_X1_captureOpposite_63 hD (fun hD => ?_)
        refine g_iadd h t_X1_captureOpposite_64 ?_
        refine g_iadd h t_X1_captureOpposite_65 ?_
        refine g_iast h (o1 + 2) (isPos_s2 ho1) (isPos_l2 ho1) t_X1_captureOpposite_66 hD (fun w5 hD => ?_)
        refine g_aload_n h 2 t_X1_captureOpposite_67 rfl ?_
        refine g_getQ h o1 0 (o1 + 1) 1 (by decide) rfl fl_1_36 (isPos_sh ho1) (isPos_lt ho1) rfl t_X1_captureOpposite_68 ?_
        refine g_aload_n h 1 t_X1_captureOpposite_71 rfl ?_
        refine g_getI h o0 6 fl_1_33 (isMove_sh ho0) (isMove_lt ho0) rfl t_X1_captureOpposite_72 ?_
        refine g_iconst (v := 0) h t_X1_captureOpposite_75 (by decide) ?_
        refine g_iast h (o1 + 1) (isPos_s1 ho1) (isPos_l1 ho1) t_X1_captureOpposite_76 hD (fun w6 hD => ?_)
        refine g_aload_n h 2 t_X1_captureOpposite_77 rfl ?_
        refine g_getQ h o1 0 (o1 + 1) 1 (by decide) rfl fl_1_36 (isPos_sh ho1) (isPos_lt ho1) rfl t_X1_captureOpposite_78 ?_
        refine g_iload_n h 0 t_X1_captureOpposite_81 rfl ?_
        refine g_iconst (v := 0) h t_X1_captureOpposite_82 (by decide) ?_
        refine g_iast h (o1 + 1) (isPos_s1 ho1) (isPos_l1 ho1) t_X1_captureOpposite_83 hD (fun w7 hD => ?_)
        obtain rfl := Option.some.inj hD
        exact hR _ _ t_X1_captureOpposite_84
    · obtain rfl := Option.some.inj hD
      exact hR _ _ t_X1_captureOpposite_28
def D_X1_obeys (o0 : Nat) (p1 : Int32) : Wd → Option (Int32 × Wd) := fun w =>
  if ((w.1 o0 0) &&& p1) = 0 then (some (0, w)) else (some (1, w))
set_option maxRecDepth 20000 in
theorem S_X1_obeys {l0 : Launch} {ρ : Nat → Nat} {cs : Nat → ClassId} {G : va_G} (hρ : injN ρ) {o0 : Nat} (ho0 : isMove o0) {p1 : Int32} {w : Wd} {rr : (Int32 × Wd)} (hD : D_X1_obeys o0 p1 w = some rr) : CtI l0 ρ cs G y_X1_obeys prog_3_method_3_code 2 .boolean 0 [.ref (ρ o0), .int p1] w rr.1 rr.2 := by
  refine ctI_of hρ (by decide) (Nat.le_of_ble_eq_true rfl) (fun X hn h hR => ?_)
  unfold D_X1_obeys at hD
  show gG ρ cs G X 0 [(0, .ref (ρ o0)), (1, .int p1)] [] w
  refine g_aload_n h 0 t_X1_obeys_0 rfl ?_
  refine g_getI h o0 0 fl_1_15 (isMove_sh ho0) (isMove_lt ho0) rfl t_X1_obeys_1 ?_
  refine g_iload_n h 1 t_X1_obeys_4 rfl ?_
  refine g_iand h t_X1_obeys_5 ?_
  refine g_if_eq (tgt := 13) h t_X1_obeys_6 (by decide) hD (fun hD => ?_) (fun hD => ?_)
  · refine g_iconst (v := 0) h t_X1_obeys_13 (by decide) ?_
    obtain rfl := Option.some.inj hD
    exact hR _ _ t_X1_obeys_14 (b01_n rfl)
  · refine g_iconst (v := 1) h t_X1_obeys_9 (by decide) ?_
    refine g_goto (tgt := 14) h t_X1_obeys_10 (by decide) ?_
    obtain rfl := Option.some.inj hD
    exact hR _ _ t_X1_obeys_14 (b01_n rfl)
def J_X1_endTurn_j38_1 (o1 : Nat) (o0 : Nat) : Wd → Option Wd := fun w5 =>
  bd (wI w5 o1 4 ((w5.1 o1 4) + 1)) fun w7 => bc (D_X5_emptyPitsOf o1 (w7.1 o0 1) w7) fun x9 w8 => bd (wI w8 o0 8 x9) fun w10 => bc (D_X5_inPitsOf o1 (1 - (w10.1 o0 1)) w10) fun x12 w11 => bd (wI w11 o0 9 x12) fun w13 => some w13
def J_X1_endTurn_j23_2 (k3 : Int32 → Wd → Option Wd) : Wd → Option Wd := fun w15 =>
  k3 0 w15
def J_X1_endTurn_j24_3 (o0 : Nat) (o1 : Nat) : Int32 → Wd → Option Wd := fun x1 w2 =>
  if b01 x1 then (bd (wI w2 o0 7 x1) fun w4 => bd (J_X1_endTurn_j38_1 o1 o0) fun k6 => if (w4.1 o0 7) = 0 then (bv (D_X5_pass o1 w4) fun w14 => k6 w14) else (k6 w4)) else none
def D_X1_endTurn (o0 : Nat) (o1 : Nat) : Wd → Option Wd := fun w =>
  bd (J_X1_endTurn_j24_3 o0 o1) fun k3 => bd (J_X1_endTurn_j23_2 k3) fun k16 => if (w.1 o0 6) = 50 then (bc (D_X1_obeys o0 16 w) fun x18 w17 => if x18 = 0 then (k16 w17) else (k3 1 w17)) else (k16 w)
set_option maxRecDepth 20000 in
theorem S_X1_endTurn {l0 : Launch} {ρ : Nat → Nat} {cs : Nat → ClassId} {G : va_G} (hρ : injN ρ) {o0 : Nat} (ho0 : isMove o0) {o1 : Nat} (ho1 : isPos o1) {w : Wd} {rr : Wd} (hD : D_X1_endTurn o0 o1 w = some rr) : CtV l0 ρ cs G y_X1_endTurn prog_3_method_8_code 2 1 [.ref (ρ o0), .ref (ρ o1)] w rr := by
  refine ctV_of hρ (by decide) (Nat.le_of_ble_eq_true rfl) (fun X hn h hR => ?_)
  unfold D_X1_endTurn at hD
  show gG ρ cs G X 0 [(0, .ref (ρ o0)), (1, .ref (ρ o1))] [] w
  refine g_aload_n h 0 t_X1_endTurn_0 rfl ?_
  refine g_aload_n h 0 t_X1_endTurn_1 rfl ?_
  refine g_getI h o0 6 fl_1_33 (isMove_sh ho0) (isMove_lt ho0) rfl t_X1_endTurn_2 ?_
  refine g_bipush (v := 50) h t_X1_endTurn_5 (by decide) ?_
  refine g_join (P := fun k3 => ∀ (x1 : Int32) (w2 : Wd), k3 x1 w2 = some rr → gG ρ cs G X 24 [(0, .ref (ρ o0)), (1, .ref (ρ o1))] [.int x1, .ref (ρ o0)] w2) hD ?_ (fun k3 hk3 hD => ?_)
  · intro x1 w2 hD
    unfold J_X1_endTurn_j24_3 at hD
    refine g_putZ h o0 7 fl_1_81 fp_1_7 (isMove_sh ho0) (isMove_lt ho0) rfl t_X1_endTurn_24 hD (fun w4 hD => ?_)
    refine g_aload_n h 0 t_X1_endTurn_27 rfl ?_
    refine g_getI h o0 7 fl_1_81 (isMove_sh ho0) (isMove_lt ho0) rfl t_X1_endTurn_28 ?_
    refine g_join (P := fun k6 => ∀ (w5 : Wd), k6 w5 = some rr → gG ρ cs G X 38 [(0, .ref (ρ o0)), (1, .ref (ρ o1))] [] w5) hD ?_ (fun k6 hk6 hD => ?_)
    · intro w5 hD
      unfold J_X1_endTurn_j38_1 at hD
      refine g_aload_n h 1 t_X1_endTurn_38 rfl ?_
      refine g_dup h t_X1_endTurn_39 rfl ?_
      refine g_getI h o1 4 fl_1_88 (isPos_sh ho1) (isPos_lt ho1) rfl t_X1_endTurn_40 ?_
      refine g_iconst (v := 1) h t_X1_endTurn_43 (by decide) ?_
      refine g_iadd h t_X1_endTurn_44 ?_
      refine g_putI h o1 4 fl_1_88 fp_5_4 (isPos_sh ho1) (isPos_lt ho1) rfl t_X1_endTurn_45 hD (fun w7 hD => ?_)
      refine g_aload_n h 0 t_X1_endTurn_48 rfl ?_
      refine g_aload_n h 1 t_X1_endTurn_49 rfl ?_
      refine g_aload_n h 0 t_X1_endTurn_50 rfl ?_
      refine g_getI h o0 1 fl_1_24 (isMove_sh ho0) (isMove_lt ho0) rfl t_X1_endTurn_51 ?_
      refine g_callVI h o1 (As := [.int (w7.1 o0 1)]) (st := [.ref (ρ o0)]) my_X5_emptyPitsOf mi_X5_emptyPitsOf ml_1_91 (isPos_sh ho1) (isPos_lt ho1) rfl rfl rfl (Nat.le_of_ble_eq_true rfl) (by decide) t_X1_endTurn_54 hD (fun _ _ e => S_X5_emptyPitsOf hρ ho1 e) (fun x9 w8 hD => ?_)
      refine g_putI h o0 8 fl_1_94 fp_1_8 (isMove_sh ho0) (isMove_lt ho0) rfl t_X1_endTurn_57 hD (fun w10 hD => ?_)
      refine g_aload_n h 0 t_X1_endTurn_60 rfl ?_
      refine g_aload_n h 1 t_X1_endTurn_61 rfl ?_
      refine g_iconst (v := 1) h t_X1_endTurn_62 (by decide) ?_
      refine g_aload_n h 0 t_X1_endTurn_63 rfl ?_
      refine g_getI h o0 1 fl_1_24 (isMove_sh ho0) (isMove_lt ho0) rfl t_X1_endTurn_64 ?_
      refine g_isub h t_X1_endTurn_67 ?_
      refine g_callVI h o1 (As := [.int (1 - (w10.1 o0 1))]) (st := [.ref (ρ o0)]) my_X5_inPitsOf mi_X5_inPitsOf ml_1_97 (isPos_sh ho1) (isPos_lt ho1) rfl rfl rfl (Nat.le_of_ble_eq_true rfl) (by decide) t_X1_endTurn_68 hD (fun _ _ e => S_X5_inPitsOf hρ ho1 e) (fun x12 w11 hD => ?_)
      refine g_putI h o0 9 fl_1_100 fp_1_9 (isMove_sh ho0) (isMove_lt ho0) rfl t_X1_endTurn_71 hD (fun w13 hD => ?_)
      obtain rfl := Option.some.inj hD
      exact hR _ _ t_X1_endTurn_74
    · refine g_if_ne (tgt := 38) h t_X1_endTurn_31 (by decide) hD (fun hD => ?_) (fun hD => ?_)
      · refine g_loc (L' := [(0, .ref (ρ o0)), (1, .ref (ρ o1))]) h [0, 1] rfl ?_
        exact hk6 _ hD
      · refine g_aload_n h 1 t_X1_endTurn_34 rfl ?_
        refine g_callVV h o1 (As := []) (st := []) my_X5_pass mi_X5_pass ml_1_85 (isPos_sh ho1) (isPos_lt ho1) rfl rfl rfl (Nat.le_of_ble_eq_true rfl) (by decide) t_X1_endTurn_35 hD (fun _ e => S_X5_pass hρ ho1 e) (fun w14 hD => ?_)
        refine g_loc (L' := [(0, .ref (ρ o0)), (1, .ref (ρ o1))]) h [0, 1] rfl ?_
        exact hk6 _ hD
  · refine g_join (P := fun k16 => ∀ (w15 : Wd), k16 w15 = some rr → gG ρ cs G X 23 [(0, .ref (ρ o0)), (1, .ref (ρ o1))] [.ref (ρ o0)] w15) hD ?_ (fun k16 hk16 hD => ?_)
    · intro w15 hD
      unfold J_X1_endTurn_j23_2 at hD
      refine g_iconst (v := 0) h t_X1_endTurn_23 (by decide) ?_
      refine g_loc (L' := [(0, .ref (ρ o0)), (1, .ref (ρ o1))]) h [0, 1] rfl ?_
      exact hk3 0 _ hD
    · refine g_icmp_ne (tgt := 23) h t_X1_endTurn_7 (by decide) hD (fun hD => ?_) (fun hD => ?_)
      · refine g_loc (L' := [(0, .ref (ρ o0)), (1, .ref (ρ o1))]) h [0, 1] rfl ?_
        exact hk16 _ hD
      · refine g_aload_n h 0 t_X1_endTurn_10 rfl ?_
        refine g_bipush (v := 16) h t_X1_endTurn_11 (by decide) ?_
        refine g_callVI h o0 (As := [.int 16]) (st := [.ref (ρ o0)]) my_X1_obeys mi_X1_obeys ml_1_53 (isMove_sh ho0) (isMove_lt ho0) rfl rfl rfl (Nat.le_of_ble_eq_true rfl) (by decide) t_X1_endTurn_13 hD (fun _ _ e => S_X1_obeys hρ ho0 e) (fun x18 w17 hD => ?_)
        refine g_if_eq (tgt := 23) h t_X1_endTurn_16 (by decide) hD (fun hD => ?_) (fun hD => ?_)
        · refine g_loc (L' := [(0, .ref (ρ o0)), (1, .ref (ρ o1))]) h [0, 1] rfl ?_
          exact hk16 _ hD
        · refine g_iconst (v := 1) h t_X1_endTurn_19 (by decide) ?_
          refine g_goto (tgt := 24) h t_X1_endTurn_20 (by decide) ?_
          refine g_loc (L' := [(0, .ref (ρ o0)), (1, .ref (ρ o1))]) h [0, 1] rfl ?_
          exact hk3 1 _ hD
def J_X1_placeBehind_j43_1 (p2 : Int32) : Int32 → Wd → Option (Int32 × Wd) := fun x4 w5 =>
  if (2 * p2) ≤ x4 then (some (0, w5)) else (some (x4, w5))
def J_X1_placeBehind_j28_2 (p2 : Int32) (p1 : Int32) (x1 : Int32) : Wd → Option (Int32 × Wd) := fun w2 =>
  bd (J_X1_placeBehind_j43_1 p2) fun k6 => if p1 = 50 then (k6 (x1 + 1) w2) else (k6 (p1 + 1) w2)
def D_X1_placeBehind (o0 : Nat) (p1 : Int32) (p2 : Int32) : Wd → Option (Int32 × Wd) := fun w =>
  bd ((p2 * ((w.1 o0 1) + 1)) - 1) fun x1 => bd (J_X1_placeBehind_j28_2 p2 p1 x1) fun k3 => if p1 = x1 then (if ((w.1 o0 0) &&& 1) = 0 then (k3 w) else (some (50, w))) else (k3 w)
set_option maxRecDepth 20000 in
theorem S_X1_placeBehind {l0 : Launch} {ρ : Nat → Nat} {cs : Nat → ClassId} {G : va_G} (hρ : injN ρ) {o0 : Nat} (ho0 : isMove o0) {p1 : Int32} {p2 : Int32} {w : Wd} {rr : (Int32 × Wd)} (hD : D_X1_placeBehind o0 p1 p2 w = some rr) : CtI l0 ρ cs G y_X1_placeBehind prog_3_method_5_code 5 .int 0 [.ref (ρ o0), .int p1, .int p2] w rr.1 rr.2 := by
  refine ctI_of hρ (by decide) (Nat.le_of_ble_eq_true rfl) (fun X hn h hR => ?_)
  unfold D_X1_placeBehind at hD
  show gG ρ cs G X 0 [(0, .ref (ρ o0)), (1, .int p1), (2, .int p2)] [] w
  refine g_iload_n h 2 t_X1_placeBehind_0 rfl ?_
  refine g_aload_n h 0 t_X1_placeBehind_1 rfl ?_
  refine g_getI h o0 1 fl_1_24 (isMove_sh ho0) (isMove_lt ho0) rfl t_X1_placeBehind_2 ?_
  refine g_iconst (v := 1) h t_X1_placeBehind_5 (by decide) ?_
  refine g_iadd h t_X1_placeBehind_6 ?_
  refine g_imul h t_X1_placeBehind_7 ?_
  refine g_iconst (v := 1) h t_X1_placeBehind_8 (by decide) ?_
  refine g_isub h t_X1_placeBehind_9 ?_
  refine g_bdI hD (fun x1 hD => ?_)
  refine g_istore_n (L' := [(3, .int x1), (0, .ref (ρ o0)), (1, .int p1), (2, .int p2)]) h hn t_X1_placeBehind_10 rfl (by decide) rfl ?_
  refine g_iload_n h 2 t_X1_placeBehind_11 rfl ?_
  refine g_iload_n h 0 t_X1_placeBehind_12 rfl ?_
  refine g_join (P := fun k3 => ∀ (w2 : Wd), k3 w2 = some rr → gG ρ cs G X 28 [(1, .int p1), (2, .int p2), (3, .int x1)] [] w2) hD ?_ (fun k3 hk3 hD => ?_)
  · intro w2 hD
    unfold J_X1_placeBehind_j28_2 at hD
    refine g_iload_n h 0 t_X1_placeBehind_28 rfl ?_
    refine g_bipush (v := 50) h t_X1_placeBehind_29 (by decide) ?_
    refine g_join (P := fun k6 => ∀ (x4 : Int32) (w5 : Wd), k6 x4 w5 = some rr → gG ρ cs G X 43 [(2, .int p2)] [.int x4] w5) hD ?_ (fun k6 hk6 hD => ?_)
    · intro x4 w5 hD
      unfold J_X1_placeBehind_j43_1 at hD
      refine g_istore (L' := [(4, .int x4), (2, .int p2)]) h hn t_X1_placeBehind_43 (by decide) rfl ?_
      refine g_iload h 0 t_X1_placeBehind_45 rfl ?_
      refine g_iconst (v := 2) h t_X1_placeBehind_47 (by decide) ?_
      refine g_iload_n h 1 t_X1_placeBehind_48 rfl ?_
      refine g_imul h t_X1_placeBehind_49 ?_
      refine g_icmp_ge (tgt := 58) h t_X1_placeBehind_50 (by decide) hD (fun hD => ?_) (fun hD => ?_)
      · refine g_iconst (v := 0) h t_X1_placeBehind_58 (by decide) ?_
        obtain rfl := Option.some.inj hD
        exact hR _ _ t_X1_placeBehind_59 rfl
      · refine g_iload h 0 t_X1_placeBehind_53 rfl ?_
        refine g_goto (tgt := 59) h t_X1_placeBehind_55 (by decide) ?_
        obtain rfl := Option.some.inj hD
        exact hR _ _ t_X1_placeBehind_59 rfl
    · refine g_icmp_ne (tgt := 40) h t_X1_placeBehind_31 (by decide) hD (fun hD => ?_) (fun hD => ?_)
      · refine g_iload_n h 0 t_X1_placeBehind_40 rfl ?_
        refine g_iconst (v := 1) h t_X1_placeBehind_41 (by decide) ?_
        refine g_iadd h t_X1_placeBehind_42 ?_
        refine g_loc (L' := [(2, .int p2)]) h [1] rfl ?_
        exact hk6 (p1 + 1) _ hD
      · refine g_iload_n h 2 t_X1_placeBehind_34 rfl ?_
        refine g_iconst (v := 1) h t_X1_placeBehind_35 (by decide) ?_
        refine g_iadd h t_X1_placeBehind_36 ?_
        refine g_goto (tgt := 43) h t_X1_placeBehind_37 (by decide) ?_
        refine g_loc (L' := [(2, .int p2)]) h [1] rfl ?_
        exact hk6 (x1 + 1) _ hD
  · refine g_icmp_ne (tgt := 28) h t_X1_placeBehind_13 (by decide) hD (fun hD => ?_) (fun hD => ?_)
    · refine g_loc (L' := [(1, .int p1), (2, .int p2), (3, .int x1)]) h [2, 3, 0] rfl ?_
      exact hk3 _ hD
    · refine g_aload_n h 1 t_X1_placeBehind_16 rfl ?_
      refine g_getI h o0 0 fl_1_15 (isMove_sh ho0) (isMove_lt ho0) rfl t_X1_placeBehind_17 ?_
      refine g_iconst (v := 1) h t_X1_placeBehind_20 (by decide) ?_
      refine g_iand h t_X1_placeBehind_21 ?_
      refine g_if_eq (tgt := 28) h t_X1_placeBehind_22 (by decide) hD (fun hD => ?_) (fun hD => ?_)
      · refine g_loc (L' := [(1, .int p1), (2, .int p2), (3, .int x1)]) h [2, 3, 0] rfl ?_
        exact hk3 _ hD
      · refine g_bipush (v := 50) h t_X1_placeBehind_25 (by decide) ?_
        obtain rfl := Option.some.inj hD
        exact hR _ _ t_X1_placeBehind_27 rfl
def J_X1_sowLap_j128_1 (q8 : Nat) (q9 : Nat) (k24 : Int32 → Wd → Option (Int32 × Wd)) : Int32 → Wd → Option (Int32 × Wd) := fun x26 w27 =>
  if ib (w27.1 q8 6) 12 then (if ib (w27.1 q8 6) 12 then bd (wI w27 (q9 + 1) (w27.1 q8 6).toNatClampNeg ((w27.1 (q9 + 1) (w27.1 q8 6).toNatClampNeg) + 1)) (fun w29 => k24 x26 w29) else none) else none
def J_X1_sowLap_j143_2 (r36 : Int32 → Int32 → Wd → Option (Int32 × Wd)) (x15 : Int32) : Int32 → Wd → Option (Int32 × Wd) := fun x22 w23 =>
  bd (x15 + 1) fun x25 => r36 x22 x25 w23
def J_X1_sowLap_j83_3 (r36 : Int32 → Int32 → Wd → Option (Int32 × Wd)) (x15 : Int32) (q8 : Nat) (q9 : Nat) : Wd → Option (Int32 × Wd) := fun w20 =>
  bd (J_X1_sowLap_j143_2 (r36) x15) fun k24 => if (w20.1 q8 6) = 50 then (if ib (w20.1 q8 1) 2 then (if ib (w20.1 q8 1) 2 then bd (wI w20 (q9 + 2) (w20.1 q8 1).toNatClampNeg ((w20.1 (q9 + 2) (w20.1 q8 1).toNatClampNeg) + 1)) (fun w30 => k24 0 w30) else none) else none) else (if ib (w20.1 q8 6) 12 then (bd (J_X1_sowLap_j128_1 q8 q9 k24) fun k28 => if (w20.1 (q9 + 1) (w20.1 q8 6).toNatClampNeg) ≤ 0 then (k28 0 w20) else (k28 1 w20)) else none)
def L_X1_sowLap_36 (q8 : Nat) (q9 : Nat) (x10 : Int32) (x11 : Int32) (k12 : Int32 → Wd → Option (Int32 × Wd)) : Nat → Int32 → Int32 → Wd → Option (Int32 × Wd)
  | 0, _, _, _ => none
  | n13 + 1, x14, x15, w16 =>
    if x10 ≤ x15 then (k12 x14 w16) else (bc (D_X1_placeBehind q8 (w16.1 q8 6) (w16.1 q9 2) w16) fun x18 w17 => bd (wI w17 q8 6 x18) fun w19 => bd (J_X1_sowLap_j83_3 (L_X1_sowLap_36 q8 q9 x10 x11 k12 n13) x15 q8 q9) fun k21 => if (w19.1 q8 6) = x11 then (bc (D_X1_placeBehind q8 (w19.1 q8 6) (w19.1 q9 2) w19) fun x32 w31 => bd (wI w31 q8 6 x32) fun w33 => k21 w33) else (k21 w19))
def J_X1_sowLap_x149_4  : Int32 → Wd → Option (Int32 × Wd) := fun x34 w35 =>
  if b01 x34 then some (x34, w35) else none
def J_X1_sowLap_j28_5 (o0 : Nat) (o1 : Nat) (x1 : Int32) : Int32 → Wd → Option (Int32 × Wd) := fun x5 w6 =>
  L_X1_sowLap_36 o0 o1 x1 x5 J_X1_sowLap_x149_4 FU 0 0 w6
def D_X1_sowLap (o0 : Nat) (o1 : Nat) (p2 : Int32) : Wd → Option (Int32 × Wd) := fun w =>
  if ib p2 12 then (bd (w.1 (o1 + 1) p2.toNatClampNeg) fun x1 => if ib p2 12 then bd (wI w (o1 + 1) p2.toNatClampNeg 0) (fun w2 => bc (D_X1_obeys o0 8 w2) fun x4 w3 => bd (J_X1_sowLap_j28_5 o0 o1 x1) fun k7 => if x4 = 0 then (k7 (-1) w3) else (k7 p2 w3)) else none) else none
set_option maxRecDepth 20000 in
theorem Q_X1_sowLap_36 {l0 : Launch} {ρ : Nat → Nat} {cs : Nat → ClassId} {G : va_G} {X : Cx} (hρ : injN ρ) (hn : X.2.2.2.2.2.2.2.2.2.2.1 = 7) (h : Okx l0 ρ cs G X prog_3_method_4_code "SowingBoards$Move" 1) {rr : (Int32 × Wd)} (hR : ∀ pc L, decode prog_3_method_4_code pc = .ok (.ireturn, 1) → narrow .boolean (.int rr.1) = .int rr.1 → gG ρ cs G X pc L [.int rr.1] rr.2) {q8 : Nat} (hq8 : isMove q8) {q9 : Nat} (hq9 : isPos q9) {x10 : Int32} {x11 : Int32} {k12 : Int32 → Wd → Option (Int32 × Wd)} (hk12 : ∀ (z5 : Int32) (w1 : Wd), k12 z5 w1 = some rr → gG ρ cs G X 149 [(5, .int z5)] [] w1) : ∀ (n : Nat) (x14 : Int32) (x15 : Int32) (w : Wd), L_X1_sowLap_36 q8 q9 x10 x11 k12 n x14 x15 w = some rr → gG ρ cs G X 36 [(0, .ref (ρ q8)), (1, .ref (ρ q9)), (3, .int x10), (4, .int x11), (5, .int x14), (6, .int x15)] [] w := by
  intro n
  induction n with
  | zero =>
    intro x14 x15 w hD
    cases hD
  | succ n13 ih =>
    intro x14 x15 w16 hD
    unfold L_X1_sowLap_36 at hD
    refine g_iload h 5 t_X1_sowLap_36 rfl ?_
    refine g_iload_n h 2 t_X1_sowLap_38 rfl ?_
    refine g_icmp_ge (tgt := 149) h t_X1_sowLap_39 (by decide) hD (fun hD => ?_) (fun hD => ?_)
    · refine g_loc (L' := [(5, .int x14)]) h [4] rfl ?_
      exact hk12 x14 _ hD
    · refine g_aload_n h 0 t_X1_sowLap_42 rfl ?_
      refine g_aload_n h 0 t_X1_sowLap_43 rfl ?_
      refine g_aload_n h 0 t_X1_sowLap_44 rfl ?_
      refine g_getI h q8 6 fl_1_33 (isMove_sh hq8) (isMove_lt hq8) rfl t_X1_sowLap_45 ?_
      refine g_aload_n h 1 t_X1_sowLap_48 rfl ?_
      refine g_getI h q9 2 fl_1_30 (isPos_sh hq9) (isPos_lt hq9) rfl t_X1_sowLap_49 ?_
      refine g_callVI h q8 (As := [.int (w16.1 q8 6), .int (w16.1 q9 2)]) (st := [.ref (ρ q8)]) my_X1_placeBehind mi_X1_placeBehind ml_1_69 (isMove_sh hq8) (isMove_lt hq8) rfl rfl rfl (Nat.le_of_ble_eq_true rfl) (by decide) t_X1_sowLap_52 hD (fun _ _ e => S_X1_placeBehind hρ hq8 e) (fun x18 w17 hD => ?_)
      refine g_putI h q8 6 fl_1_33 fp_1_6 (isMove_sh hq8) (isMove_lt hq8) rfl t_X1_sowLap_55 hD (fun w19 hD => ?_)
      refine g_aload_n h 0 t_X1_sowLap_58 rfl ?_
      refine g_getI h q8 6 fl_1_33 (isMove_sh hq8) (isMove_lt hq8) rfl t_X1_sowLap_59 ?_
      refine g_iload h 3 t_X1_sowLap_62 rfl ?_
      refine g_join (P := fun k21 => ∀ (w20 : Wd), k21 w20 = some rr → gG ρ cs G X 83 [(0, .ref (ρ q8)), (1, .ref (ρ q9)), (3, .int x10), (4, .int x11), (6, .int x15)] [] w20) hD ?_ (fun k21 hk21 hD => ?_)
      · intro w20 hD
        unfold J_X1_sowLap_j83_3 at hD
        refine g_aload_n h 0 t_X1_sowLap_83 rfl ?_
        refine g_getI h q8 6 fl_1_33 (isMove_sh hq8) (isMove_lt hq8) rfl t_X1_sowLap_84 ?_
        refine g_bipush (v := 50) h t_X1_sowLap_87 (by decide) ?_
        refine g_join (P := fun k24 => ∀ (x22 : Int32) (w23 : Wd), k24 x22 w23 = some rr → gG ρ cs G X 143 [(0, .ref (ρ q8)), (1, .ref (ρ q9)), (3, .int x10), (4, .int x11), (5, .int x22), (6, .int x15)] [] w23) hD ?_ (fun k24 hk24 hD => ?_)
        · intro x22 w23 hD
          unfold J_X1_sowLap_j143_2 at hD
          obtain ⟨x25, ex25, hD⟩ := bd_ex hD
          refine g_iinc (v := x25) (L' := [(6, .int x25), (0, .ref (ρ q8)), (1, .ref (ρ q9)), (3, .int x10), (4, .int x11), (5, .int x22)]) h hn t_X1_sowLap_143 (k := 5) rfl (by rw [ex25]; rfl) (by decide) rfl ?_
          refine g_goto (tgt := 36) h t_X1_sowLap_146 (by decide) ?_
          refine g_loc (L' := [(0, .ref (ρ q8)), (1, .ref (ρ q9)), (3, .int x10), (4, .int x11), (5, .int x22), (6, .int x25)]) h [1, 2, 3, 4, 5, 0] rfl ?_
          exact ih x22 x25 _ hD
        · refine g_icmp_ne (tgt := 111) h t_X1_sowLap_89 (by decide) hD (fun hD => ?_) (fun hD => ?_)
          · refine g_aload_n h 1 t_X1_sowLap_111 rfl ?_
            refine g_getQ h q9 0 (q9 + 1) 1 (by decide) rfl fl_1_36 (isPos_sh hq9) (isPos_lt hq9) rfl t_X1_sowLap_112 ?_
            refine g_aload_n h 0 t_X1_sowLap_115 rfl ?_
            refine g_getI h q8 6 fl_1_33 (isMove_sh hq8) (isMove_lt hq8) rfl t_X1_sowLap_116 ?_
            refine g_iald h (q9 + 1) (isPos_s1 hq9) (isPos_l1 hq9) t_X1_sowLap_119 hD (fun hD => ?_)
            refine g_join (P := fun k28 => ∀ (x26 : Int32) (w27 : Wd), k28 x26 w27 = some rr → gG ρ cs G X 128 [(0, .ref (ρ q8)), (1, .ref (ρ q9)), (3, .int x10), (4, .int x11), (6, .int x15)] [.int x26] w27) hD ?_ (fun k28 hk28 hD => ?_)
            · intro x26 w27 hD
              unfold J_X1_sowLap_j128_1 at hD
              refine g_istore (L' := [(5, .int x26), (0, .ref (ρ q8)), (1, .ref (ρ q9)), (3, .int x10), (4, .int x11), (6, .int x15)]) h hn t_X1_sowLap_128 (by decide) rfl ?_
              refine g_aload_n h 2 t_X1_sowLap_130 rfl ?_
              refine g_getQ h q9 0 (q9 + 1) 1 (by decide) rfl fl_1_36 (isPos_sh hq9) (isPos_lt hq9) rfl t_X1_sowLap_131 ?_
              refine g_aload_n h 1 t_X1_sowLap_134 rfl ?_
              refine g_getI h q8 6 fl_1_33 (isMove_sh hq8) (isMove_lt hq8) rfl t_X1_sowLap_135 ?_
              refine g_dup2 h t_X1_sowLap_138 rfl rfl ?_
              refine g_iald h (q9 + 1) (isPos_s1 hq9) (isPos_l1 hq9) t_X1_sowLap_139 hD (fun hD => ?_)
              refine g_iconst (v := 1) h t_X1_sowLap_140 (by decide) ?_
              refine g_iadd h t_X1_sowLap_141 ?_
              refine g_iast h (q9 + 1) (isPos_s1 hq9) (isPos_l1 hq9) t_X1_sowLap_142 hD (fun w29 hD => ?_)
              refine g_loc (L' := [(0, .ref (ρ q8)), (1, .ref (ρ q9)), (3, .int x10), (4, .int x11), (5, .int x26), (6, .int x15)]) h [1, 2, 3, 4, 0, 5] rfl ?_
              exact hk24 x26 _ hD
            · refine g_if_le (tgt := 127) h t_X1_sowLap_120 (by decide) hD (fun hD => ?_) (fun hD => ?_)
              · refine g_iconst (v := 0) h t_X1_sowLap_127 (by decide) ?_
                refine g_loc (L' := [(0, .ref (ρ q8)), (1, .ref (ρ q9)), (3, .int x10), (4, .int x11), (6, .int x15)]) h [0, 1, 2, 3, 4] rfl ?_
                exact hk28 0 _ hD
              · refine g_iconst (v := 1) h t_X1_sowLap_123 (by decide) ?_
                refine g_goto (tgt := 128) h t_X1_sowLap_124 (by decide) ?_
                refine g_loc (L' := [(0, .ref (ρ q8)), (1, .ref (ρ q9)), (3, .int x10), (4, .int x11), (6, .int x15)]) h [0, 1, 2, 3, 4] rfl ?_
                exact hk28 1 _ hD
          · refine g_aload_n h 1 t_X1_sowLap_92 rfl ?_
            refine g_getQ h q9 1 (q9 + 2) 2 (by decide) rfl fl_1_43 (isPos_sh hq9) (isPos_lt hq9) rfl t_X1_sowLap_93 ?_
            refine g_aload_n h 0 t_X1_sowLap_96 rfl ?_
            refine g_getI h q8 1 fl_1_24 (isMove_sh hq8) (isMove_lt hq8) rfl t_X1_sowLap_97 ?_
            refine g_dup2 h t_X1_sowLap_100 rfl rfl ?_
            refine g_iald h (q9 + 2) (isPos_s2 hq9) (isPos_l2 hq9) t_X1_sowLap_101 hD (fun hD => ?_)
            refine g_iconst (v := 1) h t_X1_sowLap_102 (by decide) ?_
            refine g_iadd h t_X1_sowLap_103 ?_
            refine g_iast h (q9 + 2) (isPos_s2 hq9) (isPos_l2 hq9) t_X1_sowLap_104 hD (fun w30 hD => ?_)
            refine g_iconst (v := 0) h t_X1_sowLap_105 (by decide) ?_
            refine g_istore (L' := [(5, .int 0), (0, .ref (ρ q8)), (1, .ref (ρ q9)), (3, .int x10), (4, .int x11), (6, .int x15)]) h hn t_X1_sowLap_106 (by decide) rfl ?_
            refine g_goto (tgt := 143) h t_X1_sowLap_108 (by decide) ?_
            refine g_loc (L' := [(0, .ref (ρ q8)), (1, .ref (ρ q9)), (3, .int x10), (4, .int x11), (5, .int 0), (6, .int x15)]) h [1, 2, 3, 4, 0, 5] rfl ?_
            exact hk24 0 _ hD
      · refine g_icmp_ne (tgt := 83) h t_X1_sowLap_64 (by decide) hD (fun hD => ?_) (fun hD => ?_)
        · refine g_loc (L' := [(0, .ref (ρ q8)), (1, .ref (ρ q9)), (3, .int x10), (4, .int x11), (6, .int x15)]) h [0, 1, 2, 3, 5] rfl ?_
          exact hk21 _ hD
        · refine g_aload_n h 0 t_X1_sowLap_67 rfl ?_
          refine g_aload_n h 0 t_X1_sowLap_68 rfl ?_
          refine g_aload_n h 0 t_X1_sowLap_69 rfl ?_
          refine g_getI h q8 6 fl_1_33 (isMove_sh hq8) (isMove_lt hq8) rfl t_X1_sowLap_70 ?_
          refine g_aload_n h 1 t_X1_sowLap_73 rfl ?_
          refine g_getI h q9 2 fl_1_30 (isPos_sh hq9) (isPos_lt hq9) rfl t_X1_sowLap_74 ?_
          refine g_callVI h q8 (As := [.int (w19.1 q8 6), .int (w19.1 q9 2)]) (st := [.ref (ρ q8)]) my_X1_placeBehind mi_X1_placeBehind ml_1_69 (isMove_sh hq8) (isMove_lt hq8) rfl rfl rfl (Nat.le_of_ble_eq_true rfl) (by decide) t_X1_sowLap_77 hD (fun _ _ e => S_X1_placeBehind hρ hq8 e) (fun x32 w31 hD => ?_)
          refine g_putI h q8 6 fl_1_33 fp_1_6 (isMove_sh hq8) (isMove_lt hq8) rfl t_X1_sowLap_80 hD (fun w33 hD => ?_)
          refine g_loc (L' := [(0, .ref (ρ q8)), (1, .ref (ρ q9)), (3, .int x10), (4, .int x11), (6, .int x15)]) h [0, 1, 2, 3, 5] rfl ?_
          exact hk21 _ hD
set_option maxRecDepth 20000 in
theorem S_X1_sowLap {l0 : Launch} {ρ : Nat → Nat} {cs : Nat → ClassId} {G : va_G} (hρ : injN ρ) {o0 : Nat} (ho0 : isMove o0) {o1 : Nat} (ho1 : isPos o1) {p2 : Int32} {w : Wd} {rr : (Int32 × Wd)} (hD : D_X1_sowLap o0 o1 p2 w = some rr) : CtI l0 ρ cs G y_X1_sowLap prog_3_method_4_code 7 .boolean 1 [.ref (ρ o0), .ref (ρ o1), .int p2] w rr.1 rr.2 := by
  refine ctI_of hρ (by decide) (Nat.le_of_ble_eq_true rfl) (fun X hn h hR => ?_)
  unfold D_X1_sowLap at hD
  show gG ρ cs G X 0 [(0, .ref (ρ o0)), (1, .ref (ρ o1)), (2, .int p2)] [] w
  refine g_aload_n h 1 t_X1_sowLap_0 rfl ?_
  refine g_getQ h o1 0 (o1 + 1) 1 (by decide) rfl fl_1_36 (isPos_sh ho1) (isPos_lt ho1) rfl t_X1_sowLap_1 ?_
  refine g_iload_n h 2 t_X1_sowLap_4 rfl ?_
  refine g_iald h (o1 + 1) (isPos_s1 ho1) (isPos_l1 ho1) t_X1_sowLap_5 hD (fun hD => ?_)
  refine g_bdI hD (fun x1 hD => ?_)
  refine g_istore_n (L' := [(3, .int x1), (0, .ref (ρ o0)), (1, .ref (ρ o1)), (2, .int p2)]) h hn t_X1_sowLap_6 rfl (by decide) rfl ?_
  refine g_aload_n h 2 t_X1_sowLap_7 rfl ?_
  refine g_getQ h o1 0 (o1 + 1) 1 (by decide) rfl fl_1_36 (isPos_sh ho1) (isPos_lt ho1) rfl t_X1_sowLap_8 ?_
  refine g_iload_n h 3 t_X1_sowLap_11 rfl ?_
  refine g_iconst (v := 0) h t_X1_sowLap_12 (by decide) ?_
  refine g_iast h (o1 + 1) (isPos_s1 ho1) (isPos_l1 ho1) t_X1_sowLap_13 hD (fun w2 hD => ?_)
  refine g_aload_n h 1 t_X1_sowLap_14 rfl ?_
  refine g_bipush (v := 8) h t_X1_sowLap_15 (by decide) ?_
  refine g_callVI h o0 (As := [.int 8]) (st := []) my_X1_obeys mi_X1_obeys ml_1_53 (isMove_sh ho0) (isMove_lt ho0) rfl rfl rfl (Nat.le_of_ble_eq_true rfl) (by decide) t_X1_sowLap_17 hD (fun _ _ e => S_X1_obeys hρ ho0 e) (fun x4 w3 hD => ?_)
  refine g_join (P := fun k7 => ∀ (x5 : Int32) (w6 : Wd), k7 x5 w6 = some rr → gG ρ cs G X 28 [(0, .ref (ρ o0)), (1, .ref (ρ o1)), (3, .int x1)] [.int x5] w6) hD ?_ (fun k7 hk7 hD => ?_)
  · intro x5 w6 hD
    unfold J_X1_sowLap_j28_5 at hD
    refine g_istore (L' := [(4, .int x5), (0, .ref (ρ o0)), (1, .ref (ρ o1)), (3, .int x1)]) h hn t_X1_sowLap_28 (by decide) rfl ?_
    refine g_iconst (v := 0) h t_X1_sowLap_30 (by decide) ?_
    refine g_istore (L' := [(5, .int 0), (4, .int x5), (0, .ref (ρ o0)), (1, .ref (ρ o1)), (3, .int x1)]) h hn t_X1_sowLap_31 (by decide) rfl ?_
    refine g_iconst (v := 0) h t_X1_sowLap_33 (by decide) ?_
    refine g_istore (L' := [(6, .int 0), (5, .int 0), (4, .int x5), (0, .ref (ρ o0)), (1, .ref (ρ o1)), (3, .int x1)]) h hn t_X1_sowLap_34 (by decide) rfl ?_
    refine g_loc (L' := [(0, .ref (ρ o0)), (1, .ref (ρ o1)), (3, .int x1), (4, .int x5), (5, .int 0), (6, .int 0)]) h [3, 4, 5, 2, 1, 0] rfl ?_
    refine Q_X1_sowLap_36 hρ hn h hR ho0 ho1 ?_ _ _ _ _ hD
    · intro x34 w35 hD
      unfold J_X1_sowLap_x149_4 at hD
      refine g_iload h 0 t_X1_sowLap_149 rfl ?_
      obtain ⟨hb, hD⟩ := of_ite hD
      obtain rfl := Option.some.inj hD
      exact hR _ _ t_X1_sowLap_151 (b01_n hb)
  · refine g_if_eq (tgt := 27) h t_X1_sowLap_20 (by decide) hD (fun hD => ?_) (fun hD => ?_)
    · refine g_iconst (v := (-1)) h t_X1_sowLap_27 (by decide) ?_
      refine g_loc (L' := [(0, .ref (ρ o0)), (1, .ref (ρ o1)), (3, .int x1)]) h [1, 2, 0] rfl ?_
      exact hk7 (-1) _ hD
    · refine g_iload_n h 3 t_X1_sowLap_23 rfl ?_
      refine g_goto (tgt := 28) h t_X1_sowLap_24 (by decide) ?_
      refine g_loc (L' := [(0, .ref (ρ o0)), (1, .ref (ρ o1)), (3, .int x1)]) h [1, 2, 0] rfl ?_
      exact hk7 p2 _ hD
def J_X1_make_j117_1 (k22 : Int32 → Wd → Option (Int32 × Wd)) : Wd → Option (Int32 × Wd) := fun w25 =>
  k22 0 w25
def J_X1_make_j118_2 (r81 : Int32 → Int32 → Wd → Option (Int32 × Wd)) (q10 : Nat) (x16 : Int32) : Int32 → Wd → Option (Int32 × Wd) := fun x20 w21 =>
  bd (wI w21 q10 5 ((w21.1 q10 5) + 1)) fun w23 => bd (x16 + 1) fun x24 => r81 x20 x24 w23
def L_X1_make_81 (q10 : Nat) (q11 : Nat) (x12 : Int32) (k13 : Wd → Option (Int32 × Wd)) : Nat → Int32 → Int32 → Wd → Option (Int32 × Wd)
  | 0, _, _, _ => none
  | n14 + 1, x15, x16, w17 =>
    if 50 ≤ x16 then (k13 w17) else (if x15 = 0 then (k13 w17) else (bc (D_X1_sowLap q10 q11 (w17.1 q10 6) w17) fun x19 w18 => bd (J_X1_make_j118_2 (L_X1_make_81 q10 q11 x12 k13 n14) q10 x16) fun k22 => bd (J_X1_make_j117_1 k22) fun k26 => if x19 = 0 then (k26 w18) else (bc (D_X1_obeys q10 2 w18) fun x28 w27 => if x28 = 0 then (k26 w27) else (k22 1 w27))))
def J_X1_make_j163_3 (o0 : Nat) (o1 : Nat) (x8 : Int32) : Wd → Option (Int32 × Wd) := fun w36 =>
  if ib (w36.1 o0 1) 2 then (bd (wI w36 o0 4 ((w36.1 (o1 + 2) (w36.1 o0 1).toNatClampNeg) - x8)) fun w38 => bv (D_X1_endTurn o0 o1 w38) fun w39 => some (1, w39)) else none
def J_X1_make_j149_4 (o0 : Nat) (o1 : Nat) (x8 : Int32) : Wd → Option (Int32 × Wd) := fun w32 =>
  bc (D_X1_obeys o0 32 w32) fun x35 w34 => bd (J_X1_make_j163_3 o0 o1 x8) fun k37 => if x35 = 0 then (k37 w34) else (bv (D_X1_captureBackwards o0 o1 w34) fun w40 => k37 w40)
def J_X1_make_x136_5 (o0 : Nat) (o1 : Nat) (x8 : Int32) : Wd → Option (Int32 × Wd) := fun w29 =>
  bc (D_X1_obeys o0 4 w29) fun x31 w30 => bd (J_X1_make_j149_4 o0 o1 x8) fun k33 => if x31 = 0 then (k33 w30) else (bv (D_X1_captureOpposite o0 o1 w30) fun w41 => k33 w41)
def D_X1_make (o0 : Nat) (o1 : Nat) (p2 : Int32) (p3 : Int32) : Wd → Option (Int32 × Wd) := fun w =>
  bc (D_X5_canMove o1 p2 w) fun x2 w1 => if x2 = 0 then (some (0, w1)) else (bd (wI w1 o0 0 p3) fun w3 => bd (wI w3 o0 1 (w3.1 o1 3)) fun w4 => bd (wI w4 o0 2 p2) fun w5 => bd (wI w5 o0 6 (((w5.1 o0 1) * (w5.1 o1 2)) + (w5.1 o0 2))) fun w6 => if ib (w6.1 o0 6) 12 then (bd (wI w6 o0 3 (w6.1 (o1 + 1) (w6.1 o0 6).toNatClampNeg)) fun w7 => if ib (w7.1 o0 1) 2 then (bd (w7.1 (o1 + 2) (w7.1 o0 1).toNatClampNeg) fun x8 => bd (wI w7 o0 5 0) fun w9 => L_X1_make_81 o0 o1 x8 (J_X1_make_x136_5 o0 o1 x8) FU 1 0 w9) else none) else none)
set_option maxRecDepth 20000 in
theorem Q_X1_make_81 {l0 : Launch} {ρ : Nat → Nat} {cs : Nat → ClassId} {G : va_G} {X : Cx} (hρ : injN ρ) (hn : X.2.2.2.2.2.2.2.2.2.2.1 = 7) (h : Okx l0 ρ cs G X prog_3_method_2_code "SowingBoards$Move" 2) {rr : (Int32 × Wd)} (hR : ∀ pc L, decode prog_3_method_2_code pc = .ok (.ireturn, 1) → narrow .boolean (.int rr.1) = .int rr.1 → gG ρ cs G X pc L [.int rr.1] rr.2) {q10 : Nat} (hq10 : isMove q10) {q11 : Nat} (hq11 : isPos q11) {x12 : Int32} {k13 : Wd → Option (Int32 × Wd)} (hk13 : ∀ (w1 : Wd), k13 w1 = some rr → gG ρ cs G X 136 [(0, .ref (ρ q10)), (1, .ref (ρ q11)), (4, .int x12)] [] w1) : ∀ (n : Nat) (x15 : Int32) (x16 : Int32) (w : Wd), L_X1_make_81 q10 q11 x12 k13 n x15 x16 w = some rr → gG ρ cs G X 81 [(0, .ref (ρ q10)), (1, .ref (ρ q11)), (4, .int x12), (5, .int x15), (6, .int x16)] [] w := by
  intro n
  induction n with
  | zero =>
    intro x15 x16 w hD
    cases hD
  | succ n14 ih =>
    intro x15 x16 w17 hD
    unfold L_X1_make_81 at hD
    refine g_iload h 4 t_X1_make_81 rfl ?_
    refine g_bipush (v := 50) h t_X1_make_83 (by decide) ?_
    refine g_icmp_ge (tgt := 136) h t_X1_make_85 (by decide) hD (fun hD => ?_) (fun hD => ?_)
    · refine g_loc (L' := [(0, .ref (ρ q10)), (1, .ref (ρ q11)), (4, .int x12)]) h [0, 1, 2] rfl ?_
      exact hk13 _ hD
    · refine g_iload h 3 t_X1_make_88 rfl ?_
      refine g_if_eq (tgt := 136) h t_X1_make_90 (by decide) hD (fun hD => ?_) (fun hD => ?_)
      · refine g_loc (L' := [(0, .ref (ρ q10)), (1, .ref (ρ q11)), (4, .int x12)]) h [0, 1, 2] rfl ?_
        exact hk13 _ hD
      · refine g_aload_n h 0 t_X1_make_93 rfl ?_
        refine g_aload_n h 1 t_X1_make_94 rfl ?_
        refine g_aload_n h 0 t_X1_make_95 rfl ?_
        refine g_getI h q10 6 fl_1_33 (isMove_sh hq10) (isMove_lt hq10) rfl t_X1_make_96 ?_
        refine g_callVI h q10 (As := [.ref (ρ q11), .int (w17.1 q10 6)]) (st := []) my_X1_sowLap mi_X1_sowLap ml_1_49 (isMove_sh hq10) (isMove_lt hq10) rfl rfl rfl (Nat.le_of_ble_eq_true rfl) (by decide) t_X1_make_99 hD (fun _ _ e => S_X1_sowLap hρ hq10 hq11 e) (fun x19 w18 hD => ?_)
        refine g_join (P := fun k22 => ∀ (x20 : Int32) (w21 : Wd), k22 x20 w21 = some rr → gG ρ cs G X 118 [(0, .ref (ρ q10)), (1, .ref (ρ q11)), (4, .int x12), (6, .int x16)] [.int x20] w21) hD ?_ (fun k22 hk22 hD => ?_)
        · intro x20 w21 hD
          unfold J_X1_make_j118_2 at hD
          refine g_istore (L' := [(5, .int x20), (0, .ref (ρ q10)), (1, .ref (ρ q11)), (4, .int x12), (6, .int x16)]) h hn t_X1_make_118 (by decide) rfl ?_
          refine g_aload_n h 1 t_X1_make_120 rfl ?_
          refine g_dup h t_X1_make_121 rfl ?_
          refine g_getI h q10 5 fl_1_46 (isMove_sh hq10) (isMove_lt hq10) rfl t_X1_make_122 ?_
          refine g_iconst (v := 1) h t_X1_make_125 (by decide) ?_
          refine g_iadd h t_X1_make_126 ?_
          refine g_putI h q10 5 fl_1_46 fp_1_5 (isMove_sh hq10) (isMove_lt hq10) rfl t_X1_make_127 hD (fun w23 hD => ?_)
          obtain ⟨x24, ex24, hD⟩ := bd_ex hD
          refine g_iinc (v := x24) (L' := [(6, .int x24), (5, .int x20), (0, .ref (ρ q10)), (1, .ref (ρ q11)), (4, .int x12)]) h hn t_X1_make_130 (k := 4) rfl (by rw [ex24]; rfl) (by decide) rfl ?_
          refine g_goto (tgt := 81) h t_X1_make_133 (by decide) ?_
          refine g_loc (L' := [(0, .ref (ρ q10)), (1, .ref (ρ q11)), (4, .int x12), (5, .int x20), (6, .int x24)]) h [2, 3, 4, 1, 0] rfl ?_
          exact ih x20 x24 _ hD
        · refine g_join (P := fun k26 => ∀ (w25 : Wd), k26 w25 = some rr → gG ρ cs G X 117 [(0, .ref (ρ q10)), (1, .ref (ρ q11)), (4, .int x12), (6, .int x16)] [] w25) hD ?_ (fun k26 hk26 hD => ?_)
          · intro w25 hD
            unfold J_X1_make_j117_1 at hD
            refine g_iconst (v := 0) h t_X1_make_117 (by decide) ?_
            refine g_loc (L' := [(0, .ref (ρ q10)), (1, .ref (ρ q11)), (4, .int x12), (6, .int x16)]) h [0, 1, 2, 3] rfl ?_
            exact hk22 0 _ hD
          · refine g_if_eq (tgt := 117) h t_X1_make_102 (by decide) hD (fun hD => ?_) (fun hD => ?_)
            · refine g_loc (L' := [(0, .ref (ρ q10)), (1, .ref (ρ q11)), (4, .int x12), (6, .int x16)]) h [0, 1, 2, 4] rfl ?_
              exact hk26 _ hD
            · refine g_aload_n h 0 t_X1_make_105 rfl ?_
              refine g_iconst (v := 2) h t_X1_make_106 (by decide) ?_
              refine g_callVI h q10 (As := [.int 2]) (st := []) my_X1_obeys mi_X1_obeys ml_1_53 (isMove_sh hq10) (isMove_lt hq10) rfl rfl rfl (Nat.le_of_ble_eq_true rfl) (by decide) t_X1_make_107 hD (fun _ _ e => S_X1_obeys hρ hq10 e) (fun x28 w27 hD => ?_)
              refine g_if_eq (tgt := 117) h t_X1_make_110 (by decide) hD (fun hD => ?_) (fun hD => ?_)
              · refine g_loc (L' := [(0, .ref (ρ q10)), (1, .ref (ρ q11)), (4, .int x12), (6, .int x16)]) h [0, 1, 2, 4] rfl ?_
                exact hk26 _ hD
              · refine g_iconst (v := 1) h t_X1_make_113 (by decide) ?_
                refine g_goto (tgt := 118) h t_X1_make_114 (by decide) ?_
                refine g_loc (L' := [(0, .ref (ρ q10)), (1, .ref (ρ q11)), (4, .int x12), (6, .int x16)]) h [0, 1, 2, 4] rfl ?_
                exact hk22 1 _ hD
set_option maxRecDepth 20000 in
theorem S_X1_make {l0 : Launch} {ρ : Nat → Nat} {cs : Nat → ClassId} {G : va_G} (hρ : injN ρ) {o0 : Nat} (ho0 : isMove o0) {o1 : Nat} (ho1 : isPos o1) {p2 : Int32} {p3 : Int32} {w : Wd} {rr : (Int32 × Wd)} (hD : D_X1_make o0 o1 p2 p3 w = some rr) : CtI l0 ρ cs G y_X1_make prog_3_method_2_code 7 .boolean 2 [.ref (ρ o0), .ref (ρ o1), .int p2, .int p3] w rr.1 rr.2 := by
  refine ctI_of hρ (by decide) (Nat.le_of_ble_eq_true rfl) (fun X hn h hR => ?_)
  unfold D_X1_make at hD
  show gG ρ cs G X 0 [(0, .ref (ρ o0)), (1, .ref (ρ o1)), (2, .int p2), (3, .int p3)] [] w
  refine g_aload_n h 1 t_X1_make_0 rfl ?_
  refine g_iload_n h 2 t_X1_make_1 rfl ?_
  refine g_callVI h o1 (As := [.int p2]) (st := []) my_X5_canMove mi_X5_canMove ml_1_9 (isPos_sh ho1) (isPos_lt ho1) rfl rfl rfl (Nat.le_of_ble_eq_true rfl) (by decide) t_X1_make_2 hD (fun _ _ e => S_X5_canMove hρ ho1 e) (fun x2 w1 hD => ?_)
  refine g_if_ne (tgt := 10) h t_X1_make_5 (by decide) hD (fun hD => ?_) (fun hD => ?_)
  · refine g_aload_n h 0 t_X1_make_10 rfl ?_
    refine g_iload_n h 3 t_X1_make_11 rfl ?_
    refine g_putI h o0 0 fl_1_15 fp_1_0 (isMove_sh ho0) (isMove_lt ho0) rfl t_X1_make_12 hD (fun w3 hD => ?_)
    refine g_aload_n h 0 t_X1_make_15 rfl ?_
    refine g_aload_n h 1 t_X1_make_16 rfl ?_
    refine g_getI h o1 3 fl_1_21 (isPos_sh ho1) (isPos_lt ho1) rfl t_X1_make_17 ?_
    refine g_putI h o0 1 fl_1_24 fp_1_1 (isMove_sh ho0) (isMove_lt ho0) rfl t_X1_make_20 hD (fun w4 hD => ?_)
    refine g_aload_n h 0 t_X1_make_23 rfl ?_
    refine g_iload_n h 2 t_X1_make_24 rfl ?_
    refine g_putI h o0 2 fl_1_27 fp_1_2 (isMove_sh ho0) (isMove_lt ho0) rfl t_X1_make_25 hD (fun w5 hD => ?_)
    refine g_aload_n h 0 t_X1_make_28 rfl ?_
    refine g_aload_n h 0 t_X1_make_29 rfl ?_
    refine g_getI h o0 1 fl_1_24 (isMove_sh ho0) (isMove_lt ho0) rfl t_X1_make_30 ?_
    refine g_aload_n h 1 t_X1_make_33 rfl ?_
    refine g_getI h o1 2 fl_1_30 (isPos_sh ho1) (isPos_lt ho1) rfl t_X1_make_34 ?_
    refine g_imul h t_X1_make_37 ?_
    refine g_aload_n h 0 t_X1_make_38 rfl ?_
    refine g_getI h o0 2 fl_1_27 (isMove_sh ho0) (isMove_lt ho0) rfl t_X1_make_39 ?_
    refine g_iadd h t_X1_make_42 ?_
    refine g_putI h o0 6 fl_1_33 fp_1_6 (isMove_sh ho0) (isMove_lt ho0) rfl t_X1_make_43 hD (fun w6 hD => ?_)
    refine g_aload_n h 0 t_X1_make_46 rfl ?_
    refine g_aload_n h 1 t_X1_make_47 rfl ?_
    refine g_getQ h o1 0 (o1 + 1) 1 (by decide) rfl fl_1_36 (isPos_sh ho1) (isPos_lt ho1) rfl t_X1_make_48 ?_
    refine g_aload_n h 0 t_X1_make_51 rfl ?_
    refine g_getI h o0 6 fl_1_33 (isMove_sh ho0) (isMove_lt ho0) rfl t_X1_make_52 ?_
    refine g_iald h (o1 + 1) (isPos_s1 ho1) (isPos_l1 ho1) t_X1_make_55 hD (fun hD => ?_)
    refine g_putI h o0 3 fl_1_40 fp_1_3 (isMove_sh ho0) (isMove_lt ho0) rfl t_X1_make_56 hD (fun w7 hD => ?_)
    refine g_aload_n h 1 t_X1_make_59 rfl ?_
    refine g_getQ h o1 1 (o1 + 2) 2 (by decide) rfl fl_1_43 (isPos_sh ho1) (isPos_lt ho1) rfl t_X1_make_60 ?_
    refine g_aload_n h 0 t_X1_make_63 rfl ?_
    refine g_getI h o0 1 fl_1_24 (isMove_sh ho0) (isMove_lt ho0) rfl t_X1_make_64 ?_
    refine g_iald h (o1 + 2) (isPos_s2 ho1) (isPos_l2 ho1) t_X1_make_67 hD (fun hD => ?_)
    refine g_bdI hD (fun x8 hD => ?_)
    refine g_istore (L' := [(4, .int x8), (0, .ref (ρ o0)), (1, .ref (ρ o1)), (2, .int p2), (3, .int p3)]) h hn t_X1_make_68 (by decide) rfl ?_
    refine g_aload_n h 1 t_X1_make_70 rfl ?_
    refine g_iconst (v := 0) h t_X1_make_71 (by decide) ?_
    refine g_putI h o0 5 fl_1_46 fp_1_5 (isMove_sh ho0) (isMove_lt ho0) rfl t_X1_make_72 hD (fun w9 hD => ?_)
    refine g_iconst (v := 1) h t_X1_make_75 (by decide) ?_
    refine g_istore (L' := [(5, .int 1), (4, .int x8), (0, .ref (ρ o0)), (1, .ref (ρ o1)), (2, .int p2), (3, .int p3)]) h hn t_X1_make_76 (by decide) rfl ?_
    refine g_iconst (v := 0) h t_X1_make_78 (by decide) ?_
    refine g_istore (L' := [(6, .int 0), (5, .int 1), (4, .int x8), (0, .ref (ρ o0)), (1, .ref (ρ o1)), (2, .int p2), (3, .int p3)]) h hn t_X1_make_79 (by decide) rfl ?_
    refine g_loc (L' := [(0, .ref (ρ o0)), (1, .ref (ρ o1)), (4, .int x8), (5, .int 1), (6, .int 0)]) h [3, 4, 2, 1, 0] rfl ?_
    refine Q_X1_make_81 hρ hn h hR ho0 ho1 ?_ _ _ _ _ hD
    · intro w29 hD
      unfold J_X1_make_x136_5 at hD
      refine g_aload_n h 0 t_X1_make_136 rfl ?_
      refine g_iconst (v := 4) h t_X1_make_137 (by decide) ?_
      refine g_callVI h o0 (As := [.int 4]) (st := []) my_X1_obeys mi_X1_obeys ml_1_53 (isMove_sh ho0) (isMove_lt ho0) rfl rfl rfl (Nat.le_of_ble_eq_true rfl) (by decide) t_X1_make_138 hD (fun _ _ e => S_X1_obeys hρ ho0 e) (fun x31 w30 hD => ?_)
      refine g_join (P := fun k33 => ∀ (w32 : Wd), k33 w32 = some rr → gG ρ cs G X 149 [(0, .ref (ρ o0)), (1, .ref (ρ o1)), (4, .int x8)] [] w32) hD ?_ (fun k33 hk33 hD => ?_)
      · intro w32 hD
        unfold J_X1_make_j149_4 at hD
        refine g_aload_n h 0 t_X1_make_149 rfl ?_
        refine g_bipush (v := 32) h t_X1_make_150 (by decide) ?_
        refine g_callVI h o0 (As := [.int 32]) (st := []) my_X1_obeys mi_X1_obeys ml_1_53 (isMove_sh ho0) (isMove_lt ho0) rfl rfl rfl (Nat.le_of_ble_eq_true rfl) (by decide) t_X1_make_152 hD (fun _ _ e => S_X1_obeys hρ ho0 e) (fun x35 w34 hD => ?_)
        refine g_join (P := fun k37 => ∀ (w36 : Wd), k37 w36 = some rr → gG ρ cs G X 163 [(0, .ref (ρ o0)), (1, .ref (ρ o1)), (4, .int x8)] [] w36) hD ?_ (fun k37 hk37 hD => ?_)
        · intro w36 hD
          unfold J_X1_make_j163_3 at hD
          refine g_aload_n h 0 t_X1_make_163 rfl ?_
          refine g_aload_n h 1 t_X1_make_164 rfl ?_
          refine g_getQ h o1 1 (o1 + 2) 2 (by decide) rfl fl_1_43 (isPos_sh ho1) (isPos_lt ho1) rfl t_X1_make_165 ?_
          refine g_aload_n h 0 t_X1_make_168 rfl ?_
          refine g_getI h o0 1 fl_1_24 (isMove_sh ho0) (isMove_lt ho0) rfl t_X1_make_169 ?_
          refine g_iald h (o1 + 2) (isPos_s2 ho1) (isPos_l2 ho1) t_X1_make_172 hD (fun hD => ?_)
          refine g_iload h 2 t_X1_make_173 rfl ?_
          refine g_isub h t_X1_make_175 ?_
          refine g_putI h o0 4 fl_1_63 fp_1_4 (isMove_sh ho0) (isMove_lt ho0) rfl t_X1_make_176 hD (fun w38 hD => ?_)
          refine g_aload_n h 0 t_X1_make_179 rfl ?_
          refine g_aload_n h 1 t_X1_make_180 rfl ?_
          refine g_callVV h o0 (As := [.ref (ρ o1)]) (st := []) my_X1_endTurn mi_X1_endTurn ml_1_66 (isMove_sh ho0) (isMove_lt ho0) rfl rfl rfl (Nat.le_of_ble_eq_true rfl) (by decide) t_X1_make_181 hD (fun _ e => S_X1_endTurn hρ ho0 ho1 e) (fun w39 hD => ?_)
          refine g_iconst (v := 1) h t_X1_make_184 (by decide) ?_
          obtain rfl := Option.some.inj hD
          exact hR _ _ t_X1_make_185 (b01_n rfl)
        · refine g_if_eq (tgt := 163) h t_X1_make_155 (by decide) hD (fun hD => ?_) (fun hD => ?_)
          · refine g_loc (L' := [(0, .ref (ρ o0)), (1, .ref (ρ o1)), (4, .int x8)]) h [0, 1, 2] rfl ?_
            exact hk37 _ hD
          · refine g_aload_n h 0 t_X1_make_158 rfl ?_
            refine g_aload_n h 1 t_X1_make_159 rfl ?_
            refine g_callVV h o0 (As := [.ref (ρ o1)]) (st := []) my_X1_captureBackwards mi_X1_captureBackwards ml_1_60 (isMove_sh ho0) (isMove_lt ho0) rfl rfl rfl (Nat.le_of_ble_eq_true rfl) (by decide) t_X1_make_160 hD (fun _ e => S_X1_captureBackwards hρ ho0 ho1 e) (fun w40 hD => ?_)
            refine g_loc (L' := [(0, .ref (ρ o0)), (1, .ref (ρ o1)), (4, .int x8)]) h [0, 1, 2] rfl ?_
            exact hk37 _ hD
      · refine g_if_eq (tgt := 149) h t_X1_make_141 (by decide) hD (fun hD => ?_) (fun hD => ?_)
        · refine g_loc (L' := [(0, .ref (ρ o0)), (1, .ref (ρ o1)), (4, .int x8)]) h [0, 1, 2] rfl ?_
          exact hk33 _ hD
        · refine g_aload_n h 0 t_X1_make_144 rfl ?_
          refine g_aload_n h 1 t_X1_make_145 rfl ?_
          refine g_callVV h o0 (As := [.ref (ρ o1)]) (st := []) my_X1_captureOpposite mi_X1_captureOpposite ml_1_56 (isMove_sh ho0) (isMove_lt ho0) rfl rfl rfl (Nat.le_of_ble_eq_true rfl) (by decide) t_X1_make_146 hD (fun _ e => S_X1_captureOpposite hρ ho0 ho1 e) (fun w41 hD => ?_)
          refine g_loc (L' := [(0, .ref (ρ o0)), (1, .ref (ρ o1)), (4, .int x8)]) h [0, 1, 2] rfl ?_
          exact hk33 _ hD
  · refine g_iconst (v := 0) h t_X1_make_8 (by decide) ?_
    obtain rfl := Option.some.inj hD
    exact hR _ _ t_X1_make_9 (b01_n rfl)
