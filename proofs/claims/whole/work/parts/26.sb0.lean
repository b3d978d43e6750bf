def y_X11_sign : MethodName := ⟨"SowingBoards", "sign", "(I)I"⟩
theorem t_X11_sign_0 : decode prog_1_method_2_code 0 = .ok (.aload_n 0, 1) := by decide +kernel
theorem t_X11_sign_1 : decode prog_1_method_2_code 1 = .ok (.getfield 40, 3) := by decide +kernel
theorem t_X11_sign_4 : decode prog_1_method_2_code 4 = .ok (.iload_n 1, 1) := by decide +kernel
theorem t_X11_sign_5 : decode prog_1_method_2_code 5 = .ok (.invokevirtual 126, 3) := by decide +kernel
theorem t_X11_sign_8 : decode prog_1_method_2_code 8 = .ok (.ifCond .eq 13, 3) := by decide +kernel
theorem t_X11_sign_11 : decode prog_1_method_2_code 11 = .ok (.aload_n 0, 1) := by decide +kernel
theorem t_X11_sign_12 : decode prog_1_method_2_code 12 = .ok (.getfield 40, 3) := by decide +kernel
theorem t_X11_sign_15 : decode prog_1_method_2_code 15 = .ok (.getfield 130, 3) := by decide +kernel
theorem t_X11_sign_18 : decode prog_1_method_2_code 18 = .ok (.goto 4, 3) := by decide +kernel
theorem t_X11_sign_21 : decode prog_1_method_2_code 21 = .ok (.iconst (-1), 1) := by decide +kernel
theorem t_X11_sign_22 : decode prog_1_method_2_code 22 = .ok (.ireturn, 1) := by decide +kernel
def y_X11_end : MethodName := ⟨"SowingBoards", "end", "(I)Z"⟩
theorem t_X11_end_0 : decode prog_1_method_3_code 0 = .ok (.aload_n 0, 1) := by decide +kernel
theorem t_X11_end_1 : decode prog_1_method_3_code 1 = .ok (.getfield 40, 3) := by decide +kernel
theorem t_X11_end_4 : decode prog_1_method_3_code 4 = .ok (.iload_n 1, 1) := by decide +kernel
theorem t_X11_end_5 : decode prog_1_method_3_code 5 = .ok (.invokevirtual 133, 3) := by decide +kernel
theorem t_X11_end_8 : decode prog_1_method_3_code 8 = .ok (.ireturn, 1) := by decide +kernel
def y_X11_setBoard : MethodName := ⟨"SowingBoards", "setBoard", "()V"⟩
theorem t_X11_setBoard_0 : decode prog_1_method_6_code 0 = .ok (.aload_n 0, 1) := by decide +kernel
theorem t_X11_setBoard_1 : decode prog_1_method_6_code 1 = .ok (.getfield 10, 3) := by decide +kernel
theorem t_X11_setBoard_4 : decode prog_1_method_6_code 4 = .ok (.aload_n 0, 1) := by decide +kernel
theorem t_X11_setBoard_5 : decode prog_1_method_6_code 5 = .ok (.getfield 40, 3) := by decide +kernel
theorem t_X11_setBoard_8 : decode prog_1_method_6_code 8 = .ok (.iconst 0, 1) := by decide +kernel
theorem t_X11_setBoard_9 : decode prog_1_method_6_code 9 = .ok (.invokevirtual 148, 3) := by decide +kernel
theorem t_X11_setBoard_12 : decode prog_1_method_6_code 12 = .ok (.putfield 152, 3) := by decide +kernel
theorem t_X11_setBoard_15 : decode prog_1_method_6_code 15 = .ok (.iconst 0, 1) := by decide +kernel
theorem t_X11_setBoard_16 : decode prog_1_method_6_code 16 = .ok (.istore_n 1, 1) := by decide +kernel
theorem t_X11_setBoard_17 : decode prog_1_method_6_code 17 = .ok (.iload_n 1, 1) := by decide +kernel
theorem t_X11_setBoard_18 : decode prog_1_method_6_code 18 = .ok (.bipush 12, 2) := by decide +kernel
theorem t_X11_setBoard_20 : decode prog_1_method_6_code 20 = .ok (.if_icmp .ge 43, 3) := by decide +kernel
theorem t_X11_setBoard_23 : decode prog_1_method_6_code 23 = .ok (.aload_n 0, 1) := by decide +kernel
theorem t_X11_setBoard_24 : decode prog_1_method_6_code 24 = .ok (.getfield 10, 3) := by decide +kernel
theorem t_X11_setBoard_27 : decode prog_1_method_6_code 27 = .ok (.getfield 120, 3) := by decide +kernel
theorem t_X11_setBoard_30 : decode prog_1_method_6_code 30 = .ok (.iload_n 1, 1) := by decide +kernel
theorem t_X11_setBoard_31 : decode prog_1_method_6_code 31 = .ok (.iload_n 1, 1) := by decide +kernel
theorem t_X11_setBoard_32 : decode prog_1_method_6_code 32 = .ok (.aload_n 0, 1) := by decide +kernel
theorem t_X11_setBoard_33 : decode prog_1_method_6_code 33 = .ok (.getfield 10, 3) := by decide +kernel
theorem t_X11_setBoard_36 : decode prog_1_method_6_code 36 = .ok (.invokevirtual 116, 3) := by decide +kernel
theorem t_X11_setBoard_39 : decode prog_1_method_6_code 39 = .ok (.if_icmp .ge 16, 3) := by decide +kernel
theorem t_X11_setBoard_42 : decode prog_1_method_6_code 42 = .ok (.aload_n 0, 1) := by decide +kernel
theorem t_X11_setBoard_43 : decode prog_1_method_6_code 43 = .ok (.getfield 40, 3) := by decide +kernel
theorem t_X11_setBoard_46 : decode prog_1_method_6_code 46 = .ok (.iconst 1, 1) := by decide +kernel
theorem t_X11_setBoard_47 : decode prog_1_method_6_code 47 = .ok (.iload_n 1, 1) := by decide +kernel
theorem t_X11_setBoard_48 : decode prog_1_method_6_code 48 = .ok (.iadd, 1) := by decide +kernel
theorem t_X11_setBoard_49 : decode prog_1_method_6_code 49 = .ok (.invokevirtual 148, 3) := by decide +kernel
theorem t_X11_setBoard_52 : decode prog_1_method_6_code 52 = .ok (.goto 4, 3) := by decide +kernel
theorem t_X11_setBoard_55 : decode prog_1_method_6_code 55 = .ok (.iconst 0, 1) := by decide +kernel
theorem t_X11_setBoard_56 : decode prog_1_method_6_code 56 = .ok (.iastore, 1) := by decide +kernel
theorem t_X11_setBoard_57 : decode prog_1_method_6_code 57 = .ok (.iinc 1 1, 3) := by decide +kernel
theorem t_X11_setBoard_60 : decode prog_1_method_6_code 60 = .ok (.goto (-43), 3) := by decide +kernel
theorem t_X11_setBoard_63 : decode prog_1_method_6_code 63 = .ok (.aload_n 0, 1) := by decide +kernel
theorem t_X11_setBoard_64 : decode prog_1_method_6_code 64 = .ok (.getfield 10, 3) := by decide +kernel
theorem t_X11_setBoard_67 : decode prog_1_method_6_code 67 = .ok (.getfield 155, 3) := by decide +kernel
theorem t_X11_setBoard_70 : decode prog_1_method_6_code 70 = .ok (.iconst 0, 1) := by decide +kernel
theorem t_X11_setBoard_71 : decode prog_1_method_6_code 71 = .ok (.iconst 0, 1) := by decide +kernel
theorem t_X11_setBoard_72 : decode prog_1_method_6_code 72 = .ok (.iastore, 1) := by decide +kernel
theorem t_X11_setBoard_73 : decode prog_1_method_6_code 73 = .ok (.aload_n 0, 1) := by decide +kernel
theorem t_X11_setBoard_74 : decode prog_1_method_6_code 74 = .ok (.getfield 10, 3) := by decide +kernel
theorem t_X11_setBoard_77 : decode prog_1_method_6_code 77 = .ok (.getfield 155, 3) := by decide +kernel
theorem t_X11_setBoard_80 : decode prog_1_method_6_code 80 = .ok (.iconst 1, 1) := by decide +kernel
theorem t_X11_setBoard_81 : decode prog_1_method_6_code 81 = .ok (.iconst 0, 1) := by decide +kernel
theorem t_X11_setBoard_82 : decode prog_1_method_6_code 82 = .ok (.iastore, 1) := by decide +kernel
theorem t_X11_setBoard_83 : decode prog_1_method_6_code 83 = .ok (.aload_n 0, 1) := by decide +kernel
theorem t_X11_setBoard_84 : decode prog_1_method_6_code 84 = .ok (.getfield 10, 3) := by decide +kernel
theorem t_X11_setBoard_87 : decode prog_1_method_6_code 87 = .ok (.iconst 0, 1) := by decide +kernel
theorem t_X11_setBoard_88 : decode prog_1_method_6_code 88 = .ok (.putfield 158, 3) := by decide +kernel
theorem t_X11_setBoard_91 : decode prog_1_method_6_code 91 = .ok (.aload_n 0, 1) := by decide +kernel
theorem t_X11_setBoard_92 : decode prog_1_method_6_code 92 = .ok (.getfield 10, 3) := by decide +kernel
theorem t_X11_setBoard_95 : decode prog_1_method_6_code 95 = .ok (.iconst 0, 1) := by decide +kernel
theorem t_X11_setBoard_96 : decode prog_1_method_6_code 96 = .ok (.putfield 161, 3) := by decide +kernel
theorem t_X11_setBoard_99 : decode prog_1_method_6_code 99 = .ok (.aload_n 0, 1) := by decide +kernel
theorem t_X11_setBoard_100 : decode prog_1_method_6_code 100 = .ok (.getfield 33, 3) := by decide +kernel
theorem t_X11_setBoard_103 : decode prog_1_method_6_code 103 = .ok (.invokevirtual 164, 3) := by decide +kernel
theorem t_X11_setBoard_106 : decode prog_1_method_6_code 106 = .ok (.iconst 0, 1) := by decide +kernel
theorem t_X11_setBoard_107 : decode prog_1_method_6_code 107 = .ok (.istore_n 1, 1) := by decide +kernel
theorem t_X11_setBoard_108 : decode prog_1_method_6_code 108 = .ok (.iload_n 1, 1) := by decide +kernel
theorem t_X11_setBoard_109 : decode prog_1_method_6_code 109 = .ok (.iconst 2, 1) := by decide +kernel
theorem t_X11_setBoard_110 : decode prog_1_method_6_code 110 = .ok (.if_icmp .ge 16, 3) := by decide +kernel
theorem t_X11_setBoard_113 : decode prog_1_method_6_code 113 = .ok (.aload_n 0, 1) := by decide +kernel
theorem t_X11_setBoard_114 : decode prog_1_method_6_code 114 = .ok (.getfield 26, 3) := by decide +kernel
theorem t_X11_setBoard_117 : decode prog_1_method_6_code 117 = .ok (.iload_n 1, 1) := by decide +kernel
theorem t_X11_setBoard_118 : decode prog_1_method_6_code 118 = .ok (.iconst 0, 1) := by decide +kernel
theorem t_X11_setBoard_119 : decode prog_1_method_6_code 119 = .ok (.bastore, 1) := by decide +kernel
theorem t_X11_setBoard_120 : decode prog_1_method_6_code 120 = .ok (.iinc 1 1, 3) := by decide +kernel
theorem t_X11_setBoard_123 : decode prog_1_method_6_code 123 = .ok (.goto (-15), 3) := by decide +kernel
theorem t_X11_setBoard_126 : decode prog_1_method_6_code 126 = .ok (.return_, 1) := by decide +kernel
def y_X11_wrongInBoard : MethodName := ⟨"SowingBoards", "wrongInBoard", "()I"⟩
theorem t_X11_wrongInBoard_0 : decode prog_1_method_5_code 0 = .ok (.aload_n 0, 1) := by decide +kernel
theorem t_X11_wrongInBoard_1 : decode prog_1_method_5_code 1 = .ok (.getfield 40, 3) := by decide +kernel
theorem t_X11_wrongInBoard_4 : decode prog_1_method_5_code 4 = .ok (.iconst 0, 1) := by decide +kernel
theorem t_X11_wrongInBoard_5 : decode prog_1_method_5_code 5 = .ok (.invokevirtual 148, 3) := by decide +kernel
theorem t_X11_wrongInBoard_8 : decode prog_1_method_5_code 8 = .ok (.istore_n 1, 1) := by decide +kernel
theorem t_X11_wrongInBoard_9 : decode prog_1_method_5_code 9 = .ok (.iload_n 1, 1) := by decide +kernel
theorem t_X11_wrongInBoard_10 : decode prog_1_method_5_code 10 = .ok (.iconst 2, 1) := by decide +kernel
theorem t_X11_wrongInBoard_11 : decode prog_1_method_5_code 11 = .ok (.if_icmp .lt 9, 3) := by decide +kernel
theorem t_X11_wrongInBoard_14 : decode prog_1_method_5_code 14 = .ok (.iload_n 1, 1) := by decide +kernel
theorem t_X11_wrongInBoard_15 : decode prog_1_method_5_code 15 = .ok (.bipush 6, 2) := by decide +kernel
theorem t_X11_wrongInBoard_17 : decode prog_1_method_5_code 17 = .ok (.if_icmp .le 5, 3) := by decide +kernel
theorem t_X11_wrongInBoard_20 : decode prog_1_method_5_code 20 = .ok (.iconst 0, 1) := by decide +kernel
theorem t_X11_wrongInBoard_21 : decode prog_1_method_5_code 21 = .ok (.ireturn, 1) := by decide +kernel
theorem t_X11_wrongInBoard_22 : decode prog_1_method_5_code 22 = .ok (.iconst 1, 1) := by decide +kernel
theorem t_X11_wrongInBoard_23 : decode prog_1_method_5_code 23 = .ok (.iconst 2, 1) := by decide +kernel
theorem t_X11_wrongInBoard_24 : decode prog_1_method_5_code 24 = .ok (.iload_n 1, 1) := by decide +kernel
theorem t_X11_wrongInBoard_25 : decode prog_1_method_5_code 25 = .ok (.imul, 1) := by decide +kernel
theorem t_X11_wrongInBoard_26 : decode prog_1_method_5_code 26 = .ok (.iadd, 1) := by decide +kernel
theorem t_X11_wrongInBoard_27 : decode prog_1_method_5_code 27 = .ok (.istore_n 2, 1) := by decide +kernel
theorem t_X11_wrongInBoard_28 : decode prog_1_method_5_code 28 = .ok (.iconst 1, 1) := by decide +kernel
theorem t_X11_wrongInBoard_29 : decode prog_1_method_5_code 29 = .ok (.istore_n 3, 1) := by decide +kernel
theorem t_X11_wrongInBoard_30 : decode prog_1_method_5_code 30 = .ok (.iload_n 3, 1) := by decide +kernel
theorem t_X11_wrongInBoard_31 : decode prog_1_method_5_code 31 = .ok (.iload_n 2, 1) := by decide +kernel
theorem t_X11_wrongInBoard_32 : decode prog_1_method_5_code 32 = .ok (.if_icmp .ge 22, 3) := by decide +kernel
theorem t_X11_wrongInBoard_35 : decode prog_1_method_5_code 35 = .ok (.aload_n 0, 1) := by decide +kernel
theorem t_X11_wrongInBoard_36 : decode prog_1_method_5_code 36 = .ok (.getfield 40, 3) := by decide +kernel
theorem t_X11_wrongInBoard_39 : decode prog_1_method_5_code 39 = .ok (.iload_n 3, 1) := by decide +kernel
theorem t_X11_wrongInBoard_40 : decode prog_1_method_5_code 40 = .ok (.invokevirtual 148, 3) := by decide +kernel
theorem t_X11_wrongInBoard_43 : decode prog_1_method_5_code 43 = .ok (.ifCond .ge 5, 3) := by decide +kernel
theorem t_X11_wrongInBoard_46 : decode prog_1_method_5_code 46 = .ok (.iload_n 3, 1) := by decide +kernel
theorem t_X11_wrongInBoard_47 : decode prog_1_method_5_code 47 = .ok (.ireturn, 1) := by decide +kernel
theorem t_X11_wrongInBoard_48 : decode prog_1_method_5_code 48 = .ok (.iinc 3 1, 3) := by decide +kernel
theorem t_X11_wrongInBoard_51 : decode prog_1_method_5_code 51 = .ok (.goto (-21), 3) := by decide +kernel
theorem t_X11_wrongInBoard_54 : decode prog_1_method_5_code 54 = .ok (.aload_n 0, 1) := by decide +kernel
theorem t_X11_wrongInBoard_55 : decode prog_1_method_5_code 55 = .ok (.getfield 40, 3) := by decide +kernel
theorem t_X11_wrongInBoard_58 : decode prog_1_method_5_code 58 = .ok (.getfield 130, 3) := by decide +kernel
theorem t_X11_wrongInBoard_61 : decode prog_1_method_5_code 61 = .ok (.iload_n 2, 1) := by decide +kernel
theorem t_X11_wrongInBoard_62 : decode prog_1_method_5_code 62 = .ok (.if_icmp .le 7, 3) := by decide +kernel
theorem t_X11_wrongInBoard_65 : decode prog_1_method_5_code 65 = .ok (.iload_n 2, 1) := by decide +kernel
theorem t_X11_wrongInBoard_66 : decode prog_1_method_5_code 66 = .ok (.goto 4, 3) := by decide +kernel
theorem t_X11_wrongInBoard_69 : decode prog_1_method_5_code 69 = .ok (.iconst (-1), 1) := by decide +kernel
theorem t_X11_wrongInBoard_70 : decode prog_1_method_5_code 70 = .ok (.ireturn, 1) := by decide +kernel
def y_X11_board : MethodName := ⟨"SowingBoards", "board", "()I"⟩
theorem t_X11_board_0 : decode prog_1_method_4_code 0 = .ok (.aload_n 0, 1) := by decide +kernel
theorem t_X11_board_1 : decode prog_1_method_4_code 1 = .ok (.invokevirtual 136, 3) := by decide +kernel
theorem t_X11_board_4 : decode prog_1_method_4_code 4 = .ok (.istore_n 1, 1) := by decide +kernel
theorem t_X11_board_5 : decode prog_1_method_4_code 5 = .ok (.iload_n 1, 1) := by decide +kernel
theorem t_X11_board_6 : decode prog_1_method_4_code 6 = .ok (.iconst (-1), 1) := by decide +kernel
theorem t_X11_board_7 : decode prog_1_method_4_code 7 = .ok (.if_icmp .ne 7, 3) := by decide +kernel
theorem t_X11_board_10 : decode prog_1_method_4_code 10 = .ok (.aload_n 0, 1) := by decide +kernel
theorem t_X11_board_11 : decode prog_1_method_4_code 11 = .ok (.invokevirtual 139, 3) := by decide +kernel
theorem t_X11_board_14 : decode prog_1_method_4_code 14 = .ok (.aload_n 0, 1) := by decide +kernel
theorem t_X11_board_15 : decode prog_1_method_4_code 15 = .ok (.getfield 40, 3) := by decide +kernel
theorem t_X11_board_18 : decode prog_1_method_4_code 18 = .ok (.invokevirtual 142, 3) := by decide +kernel
theorem t_X11_board_21 : decode prog_1_method_4_code 21 = .ok (.iload_n 1, 1) := by decide +kernel
theorem t_X11_board_22 : decode prog_1_method_4_code 22 = .ok (.iconst (-1), 1) := by decide +kernel
theorem t_X11_board_23 : decode prog_1_method_4_code 23 = .ok (.if_icmp .ne 13, 3) := by decide +kernel
theorem t_X11_board_26 : decode prog_1_method_4_code 26 = .ok (.aload_n 0, 1) := by decide +kernel
theorem t_X11_board_27 : decode prog_1_method_4_code 27 = .ok (.getfield 10, 3) := by decide +kernel
theorem t_X11_board_30 : decode prog_1_method_4_code 30 = .ok (.invokevirtual 145, 3) := by decide +kernel
theorem t_X11_board_33 : decode prog_1_method_4_code 33 = .ok (.goto 6, 3) := by decide +kernel
theorem t_X11_board_36 : decode prog_1_method_4_code 36 = .ok (.iconst (-1), 1) := by decide +kernel
theorem t_X11_board_37 : decode prog_1_method_4_code 37 = .ok (.iload_n 1, 1) := by decide +kernel
theorem t_X11_board_38 : decode prog_1_method_4_code 38 = .ok (.isub, 1) := by decide +kernel
theorem t_X11_board_39 : decode prog_1_method_4_code 39 = .ok (.ireturn, 1) := by decide +kernel
def y_X11_readLaws : MethodName := ⟨"SowingBoards", "readLaws", "()I"⟩
theorem t_X11_readLaws_0 : decode prog_1_method_8_code 0 = .ok (.iconst 0, 1) := by decide +kernel
theorem t_X11_readLaws_1 : decode prog_1_method_8_code 1 = .ok (.istore_n 1, 1) := by decide +kernel
theorem t_X11_readLaws_2 : decode prog_1_method_8_code 2 = .ok (.iconst 0, 1) := by decide +kernel
theorem t_X11_readLaws_3 : decode prog_1_method_8_code 3 = .ok (.istore_n 2, 1) := by decide +kernel
theorem t_X11_readLaws_4 : decode prog_1_method_8_code 4 = .ok (.iload_n 2, 1) := by decide +kernel
theorem t_X11_readLaws_5 : decode prog_1_method_8_code 5 = .ok (.aload_n 0, 1) := by decide +kernel
theorem t_X11_readLaws_6 : decode prog_1_method_8_code 6 = .ok (.getfield 40, 3) := by decide +kernel
theorem t_X11_readLaws_9 : decode prog_1_method_8_code 9 = .ok (.getfield 130, 3) := by decide +kernel
theorem t_X11_readLaws_12 : decode prog_1_method_8_code 12 = .ok (.if_icmp .ge 58, 3) := by decide +kernel
theorem t_X11_readLaws_15 : decode prog_1_method_8_code 15 = .ok (.ldc 173, 2) := by decide +kernel
theorem t_X11_readLaws_17 : decode prog_1_method_8_code 17 = .ok (.aload_n 0, 1) := by decide +kernel
theorem t_X11_readLaws_18 : decode prog_1_method_8_code 18 = .ok (.getfield 40, 3) := by decide +kernel
theorem t_X11_readLaws_21 : decode prog_1_method_8_code 21 = .ok (.iload_n 2, 1) := by decide +kernel
theorem t_X11_readLaws_22 : decode prog_1_method_8_code 22 = .ok (.invokevirtual 175, 3) := by decide +kernel
theorem t_X11_readLaws_25 : decode prog_1_method_8_code 25 = .ok (.i2c, 1) := by decide +kernel
theorem t_X11_readLaws_26 : decode prog_1_method_8_code 26 = .ok (.invokevirtual 178, 3) := by decide +kernel
theorem t_X11_readLaws_29 : decode prog_1_method_8_code 29 = .ok (.istore_n 3, 1) := by decide +kernel
theorem t_X11_readLaws_30 : decode prog_1_method_8_code 30 = .ok (.iload_n 3, 1) := by decide +kernel
theorem t_X11_readLaws_31 : decode prog_1_method_8_code 31 = .ok (.ifCond .ge 7, 3) := by decide +kernel
theorem t_X11_readLaws_34 : decode prog_1_method_8_code 34 = .ok (.iconst 0, 1) := by decide +kernel
theorem t_X11_readLaws_35 : decode prog_1_method_8_code 35 = .ok (.goto 6, 3) := by decide +kernel
theorem t_X11_readLaws_38 : decode prog_1_method_8_code 38 = .ok (.iconst 1, 1) := by decide +kernel
theorem t_X11_readLaws_39 : decode prog_1_method_8_code 39 = .ok (.iload_n 3, 1) := by decide +kernel
theorem t_X11_readLaws_40 : decode prog_1_method_8_code 40 = .ok (.ishl, 1) := by decide +kernel
theorem t_X11_readLaws_41 : decode prog_1_method_8_code 41 = .ok (.istore 4, 2) := by decide +kernel
theorem t_X11_readLaws_43 : decode prog_1_method_8_code 43 = .ok (.iload 4, 2) := by decide +kernel
theorem t_X11_readLaws_45 : decode prog_1_method_8_code 45 = .ok (.ifCond .eq 10, 3) := by decide +kernel
theorem t_X11_readLaws_48 : decode prog_1_method_8_code 48 = .ok (.iload_n 1, 1) := by decide +kernel
theorem t_X11_readLaws_49 : decode prog_1_method_8_code 49 = .ok (.iload 4, 2) := by decide +kernel
theorem t_X11_readLaws_51 : decode prog_1_method_8_code 51 = .ok (.iand, 1) := by decide +kernel
theorem t_X11_readLaws_52 : decode prog_1_method_8_code 52 = .ok (.ifCond .eq 7, 3) := by decide +kernel
theorem t_X11_readLaws_55 : decode prog_1_method_8_code 55 = .ok (.iconst (-1), 1) := by decide +kernel
theorem t_X11_readLaws_56 : decode prog_1_method_8_code 56 = .ok (.iload_n 2, 1) := by decide +kernel
theorem t_X11_readLaws_57 : decode prog_1_method_8_code 57 = .ok (.isub, 1) := by decide +kernel
theorem t_X11_readLaws_58 : decode prog_1_method_8_code 58 = .ok (.ireturn, 1) := by decide +kernel
theorem t_X11_readLaws_59 : decode prog_1_method_8_code 59 = .ok (.iload_n 1, 1) := by decide +kernel
theorem t_X11_readLaws_60 : decode prog_1_method_8_code 60 = .ok (.iload 4, 2) := by decide +kernel
theorem t_X11_readLaws_62 : decode prog_1_method_8_code 62 = .ok (.ior, 1) := by decide +kernel
theorem t_X11_readLaws_63 : decode prog_1_method_8_code 63 = .ok (.istore_n 1, 1) := by decide +kernel
theorem t_X11_readLaws_64 : decode prog_1_method_8_code 64 = .ok (.iinc 2 1, 3) := by decide +kernel
theorem t_X11_readLaws_67 : decode prog_1_method_8_code 67 = .ok (.goto (-63), 3) := by decide +kernel
theorem t_X11_readLaws_70 : decode prog_1_method_8_code 70 = .ok (.iload_n 1, 1) := by decide +kernel
theorem t_X11_readLaws_71 : decode prog_1_method_8_code 71 = .ok (.ireturn, 1) := by decide +kernel
def y_X11_laws : MethodName := ⟨"SowingBoards", "laws", "()I"⟩
theorem t_X11_laws_0 : decode prog_1_method_7_code 0 = .ok (.aload_n 0, 1) := by decide +kernel
theorem t_X11_laws_1 : decode prog_1_method_7_code 1 = .ok (.invokevirtual 165, 3) := by decide +kernel
theorem t_X11_laws_4 : decode prog_1_method_7_code 4 = .ok (.istore_n 1, 1) := by decide +kernel
theorem t_X11_laws_5 : decode prog_1_method_7_code 5 = .ok (.aload_n 0, 1) := by decide +kernel
theorem t_X11_laws_6 : decode prog_1_method_7_code 6 = .ok (.getfield 40, 3) := by decide +kernel
theorem t_X11_laws_9 : decode prog_1_method_7_code 9 = .ok (.invokevirtual 142, 3) := by decide +kernel
theorem t_X11_laws_12 : decode prog_1_method_7_code 12 = .ok (.iload_n 1, 1) := by decide +kernel
theorem t_X11_laws_13 : decode prog_1_method_7_code 13 = .ok (.ifCond .ge 5, 3) := by decide +kernel
theorem t_X11_laws_16 : decode prog_1_method_7_code 16 = .ok (.iload_n 1, 1) := by decide +kernel
theorem t_X11_laws_17 : decode prog_1_method_7_code 17 = .ok (.ireturn, 1) := by decide +kernel
theorem t_X11_laws_18 : decode prog_1_method_7_code 18 = .ok (.aload_n 0, 1) := by decide +kernel
theorem t_X11_laws_19 : decode prog_1_method_7_code 19 = .ok (.iload_n 1, 1) := by decide +kernel
theorem t_X11_laws_20 : decode prog_1_method_7_code 20 = .ok (.putfield 112, 3) := by decide +kernel
theorem t_X11_laws_23 : decode prog_1_method_7_code 23 = .ok (.iload_n 1, 1) := by decide +kernel
theorem t_X11_laws_24 : decode prog_1_method_7_code 24 = .ok (.invokestatic 168, 3) := by decide +kernel
theorem t_X11_laws_27 : decode prog_1_method_7_code 27 = .ok (.ireturn, 1) := by decide +kernel
def y_X11_rule : MethodName := ⟨"SowingBoards", "rule", "()I"⟩
theorem t_X11_rule_0 : decode prog_1_method_9_code 0 = .ok (.aload_n 0, 1) := by decide +kernel
theorem t_X11_rule_1 : decode prog_1_method_9_code 1 = .ok (.getfield 82, 3) := by decide +kernel
theorem t_X11_rule_4 : decode prog_1_method_9_code 4 = .ok (.aload_n 0, 1) := by decide +kernel
theorem t_X11_rule_5 : decode prog_1_method_9_code 5 = .ok (.getfield 40, 3) := by decide +kernel
theorem t_X11_rule_8 : decode prog_1_method_9_code 8 = .ok (.invokevirtual 183, 3) := by decide +kernel
theorem t_X11_rule_11 : decode prog_1_method_9_code 11 = .ok (.istore_n 1, 1) := by decide +kernel
theorem t_X11_rule_12 : decode prog_1_method_9_code 12 = .ok (.aload_n 0, 1) := by decide +kernel
theorem t_X11_rule_13 : decode prog_1_method_9_code 13 = .ok (.getfield 40, 3) := by decide +kernel
theorem t_X11_rule_16 : decode prog_1_method_9_code 16 = .ok (.invokevirtual 142, 3) := by decide +kernel
theorem t_X11_rule_19 : decode prog_1_method_9_code 19 = .ok (.iload_n 1, 1) := by decide +kernel
theorem t_X11_rule_20 : decode prog_1_method_9_code 20 = .ok (.iconst (-1), 1) := by decide +kernel
theorem t_X11_rule_21 : decode prog_1_method_9_code 21 = .ok (.if_icmp .eq 7, 3) := by decide +kernel
theorem t_X11_rule_24 : decode prog_1_method_9_code 24 = .ok (.iconst (-1), 1) := by decide +kernel
theorem t_X11_rule_25 : decode prog_1_method_9_code 25 = .ok (.iload_n 1, 1) := by decide +kernel
theorem t_X11_rule_26 : decode prog_1_method_9_code 26 = .ok (.isub, 1) := by decide +kernel
theorem t_X11_rule_27 : decode prog_1_method_9_code 27 = .ok (.ireturn, 1) := by decide +kernel
theorem t_X11_rule_28 : decode prog_1_method_9_code 28 = .ok (.aload_n 0, 1) := by decide +kernel
theorem t_X11_rule_29 : decode prog_1_method_9_code 29 = .ok (.getfield 89, 3) := by decide +kernel
theorem t_X11_rule_32 : decode prog_1_method_9_code 32 = .ok (.aload_n 0, 1) := by decide +kernel
theorem t_X11_rule_33 : decode prog_1_method_9_code 33 = .ok (.getfield 82, 3) := by decide +kernel
theorem t_X11_rule_36 : decode prog_1_method_9_code 36 = .ok (.getfield 187, 3) := by decide +kernel
theorem t_X11_rule_39 : decode prog_1_method_9_code 39 = .ok (.invokevirtual 190, 3) := by decide +kernel
theorem t_X11_rule_42 : decode prog_1_method_9_code 42 = .ok (.iconst 0, 1) := by decide +kernel
theorem t_X11_rule_43 : decode prog_1_method_9_code 43 = .ok (.ireturn, 1) := by decide +kernel
def y_X11_entry : MethodName := ⟨"SowingBoards", "entry", "(II)I"⟩
theorem t_X11_entry_0 : decode prog_1_method_13_code 0 = .ok (.iload_n 0, 1) := by decide +kernel
theorem t_X11_entry_1 : decode prog_1_method_13_code 1 = .ok (.ifCond .ne 8, 3) := by decide +kernel
theorem t_X11_entry_4 : decode prog_1_method_13_code 4 = .ok (.iload_n 1, 1) := by decide +kernel
theorem t_X11_entry_5 : decode prog_1_method_13_code 5 = .ok (.i2b, 1) := by decide +kernel
theorem t_X11_entry_6 : decode prog_1_method_13_code 6 = .ok (.goto 14, 3) := by decide +kernel
theorem t_X11_entry_9 : decode prog_1_method_13_code 9 = .ok (.iload_n 0, 1) := by decide +kernel
theorem t_X11_entry_10 : decode prog_1_method_13_code 10 = .ok (.iconst 1, 1) := by decide +kernel
theorem t_X11_entry_11 : decode prog_1_method_13_code 11 = .ok (.if_icmp .ne 8, 3) := by decide +kernel
theorem t_X11_entry_14 : decode prog_1_method_13_code 14 = .ok (.iload_n 1, 1) := by decide +kernel
theorem t_X11_entry_15 : decode prog_1_method_13_code 15 = .ok (.i2s, 1) := by decide +kernel
theorem t_X11_entry_16 : decode prog_1_method_13_code 16 = .ok (.goto 4, 3) := by decide +kernel
theorem t_X11_entry_19 : decode prog_1_method_13_code 19 = .ok (.iload_n 1, 1) := by decide +kernel
theorem t_X11_entry_20 : decode prog_1_method_13_code 20 = .ok (.istore_n 2, 1) := by decide +kernel
theorem t_X11_entry_21 : decode prog_1_method_13_code 21 = .ok (.iconst 0, 1) := by decide +kernel
theorem t_X11_entry_22 : decode prog_1_method_13_code 22 = .ok (.bipush 9, 2) := by decide +kernel
theorem t_X11_entry_24 : decode prog_1_method_13_code 24 = .ok (.iload_n 2, 1) := by decide +kernel
theorem t_X11_entry_25 : decode prog_1_method_13_code 25 = .ok (.invokestatic 210, 3) := by decide +kernel
theorem t_X11_entry_28 : decode prog_1_method_13_code 28 = .ok (.invokestatic 215, 3) := by decide +kernel
theorem t_X11_entry_31 : decode prog_1_method_13_code 31 = .ok (.ireturn, 1) := by decide +kernel
def y_X11_sheet : MethodName := ⟨"SowingBoards", "sheet", "(IIII)I"⟩
theorem t_X11_sheet_0 : decode prog_1_method_12_code 0 = .ok (.iload_n 1, 1) := by decide +kernel
theorem t_X11_sheet_1 : decode prog_1_method_12_code 1 = .ok (.ifCond .lt 14, 3) := by decide +kernel
theorem t_X11_sheet_4 : decode prog_1_method_12_code 4 = .ok (.iload_n 1, 1) := by decide +kernel
theorem t_X11_sheet_5 : decode prog_1_method_12_code 5 = .ok (.iconst 3, 1) := by decide +kernel
theorem t_X11_sheet_6 : decode prog_1_method_12_code 6 = .ok (.if_icmp .gt 9, 3) := by decide +kernel
theorem t_X11_sheet_9 : decode prog_1_method_12_code 9 = .ok (.iload_n 2, 1) := by decide +kernel
theorem t_X11_sheet_10 : decode prog_1_method_12_code 10 = .ok (.bipush 12, 2) := by decide +kernel
theorem t_X11_sheet_12 : decode prog_1_method_12_code 12 = .ok (.if_icmp .le 5, 3) := by decide +kernel
theorem t_X11_sheet_15 : decode prog_1_method_12_code 15 = .ok (.iconst (-1), 1) := by decide +kernel
theorem t_X11_sheet_16 : decode prog_1_method_12_code 16 = .ok (.ireturn, 1) := by decide +kernel
theorem t_X11_sheet_17 : decode prog_1_method_12_code 17 = .ok (.iload_n 1, 1) := by decide +kernel
theorem t_X11_sheet_18 : decode prog_1_method_12_code 18 = .ok (.iconst 3, 1) := by decide +kernel
theorem t_X11_sheet_19 : decode prog_1_method_12_code 19 = .ok (.if_icmp .ne 7, 3) := by decide +kernel
theorem t_X11_sheet_22 : decode prog_1_method_12_code 22 = .ok (.iconst 1, 1) := by decide +kernel
theorem t_X11_sheet_23 : decode prog_1_method_12_code 23 = .ok (.goto 4, 3) := by decide +kernel
theorem t_X11_sheet_26 : decode prog_1_method_12_code 26 = .ok (.iconst 0, 1) := by decide +kernel
theorem t_X11_sheet_27 : decode prog_1_method_12_code 27 = .ok (.istore 5, 2) := by decide +kernel
theorem t_X11_sheet_29 : decode prog_1_method_12_code 29 = .ok (.iload 5, 2) := by decide +kernel
theorem t_X11_sheet_31 : decode prog_1_method_12_code 31 = .ok (.ifCond .ne 10, 3) := by decide +kernel
theorem t_X11_sheet_34 : decode prog_1_method_12_code 34 = .ok (.iload_n 2, 1) := by decide +kernel
theorem t_X11_sheet_35 : decode prog_1_method_12_code 35 = .ok (.ifCond .ge 6, 3) := by decide +kernel
theorem t_X11_sheet_38 : decode prog_1_method_12_code 38 = .ok (.bipush (-2), 2) := by decide +kernel
theorem t_X11_sheet_40 : decode prog_1_method_12_code 40 = .ok (.ireturn, 1) := by decide +kernel
theorem t_X11_sheet_41 : decode prog_1_method_12_code 41 = .ok (.iload 5, 2) := by decide +kernel
theorem t_X11_sheet_43 : decode prog_1_method_12_code 43 = .ok (.ifCond .eq 7, 3) := by decide +kernel
theorem t_X11_sheet_46 : decode prog_1_method_12_code 46 = .ok (.iconst 0, 1) := by decide +kernel
theorem t_X11_sheet_47 : decode prog_1_method_12_code 47 = .ok (.goto 4, 3) := by decide +kernel
theorem t_X11_sheet_50 : decode prog_1_method_12_code 50 = .ok (.iload_n 2, 1) := by decide +kernel
theorem t_X11_sheet_51 : decode prog_1_method_12_code 51 = .ok (.istore 6, 2) := by decide +kernel
theorem t_X11_sheet_53 : decode prog_1_method_12_code 53 = .ok (.iconst 0, 1) := by decide +kernel
theorem t_X11_sheet_54 : decode prog_1_method_12_code 54 = .ok (.istore 7, 2) := by decide +kernel
theorem t_X11_sheet_56 : decode prog_1_method_12_code 56 = .ok (.iload 7, 2) := by decide +kernel
theorem t_X11_sheet_58 : decode prog_1_method_12_code 58 = .ok (.aload_n 0, 1) := by decide +kernel
theorem t_X11_sheet_59 : decode prog_1_method_12_code 59 = .ok (.getfield 10, 3) := by decide +kernel
theorem t_X11_sheet_62 : decode prog_1_method_12_code 62 = .ok (.invokevirtual 116, 3) := by decide +kernel
theorem t_X11_sheet_65 : decode prog_1_method_12_code 65 = .ok (.if_icmp .ge 41, 3) := by decide +kernel
theorem t_X11_sheet_68 : decode prog_1_method_12_code 68 = .ok (.aload_n 0, 1) := by decide +kernel
theorem t_X11_sheet_69 : decode prog_1_method_12_code 69 = .ok (.getfield 10, 3) := by decide +kernel
theorem t_X11_sheet_72 : decode prog_1_method_12_code 72 = .ok (.getfield 120, 3) := by decide +kernel
theorem t_X11_sheet_75 : decode prog_1_method_12_code 75 = .ok (.iload 7, 2) := by decide +kernel
theorem t_X11_sheet_77 : decode prog_1_method_12_code 77 = .ok (.iload 7, 2) := by decide +kernel
theorem t_X11_sheet_79 : decode prog_1_method_12_code 79 = .ok (.iload 6, 2) := by decide +kernel
theorem t_X11_sheet_81 : decode prog_1_method_12_code 81 = .ok (.if_icmp .ge 17, 3) := by decide +kernel
theorem t_X11_sheet_84 : decode prog_1_method_12_code 84 = .ok (.iload_n 1, 1) := by decide +kernel
theorem t_X11_sheet_85 : decode prog_1_method_12_code 85 = .ok (.iload_n 3, 1) := by decide +kernel
theorem t_X11_sheet_86 : decode prog_1_method_12_code 86 = .ok (.iload 7, 2) := by decide +kernel
theorem t_X11_sheet_88 : decode prog_1_method_12_code 88 = .ok (.iload 4, 2) := by decide +kernel
theorem t_X11_sheet_90 : decode prog_1_method_12_code 90 = .ok (.imul, 1) := by decide +kernel
theorem t_X11_sheet_91 : decode prog_1_method_12_code 91 = .ok (.iadd, 1) := by decide +kernel
theorem t_X11_sheet_92 : decode prog_1_method_12_code 92 = .ok (.invokestatic 206, 3) := by decide +kernel
theorem t_X11_sheet_95 : decode prog_1_method_12_code 95 = .ok (.goto 4, 3) := by decide +kernel
theorem t_X11_sheet_98 : decode prog_1_method_12_code 98 = .ok (.iconst 0, 1) := by decide +kernel
theorem t_X11_sheet_99 : decode prog_1_method_12_code 99 = .ok (.iastore, 1) := by decide +kernel
theorem t_X11_sheet_100 : decode prog_1_method_12_code 100 = .ok (.iinc 7 1, 3) := by decide +kernel
theorem t_X11_sheet_103 : decode prog_1_method_12_code 103 = .ok (.goto (-47), 3) := by decide +kernel
theorem t_X11_sheet_106 : decode prog_1_method_12_code 106 = .ok (.iload 5, 2) := by decide +kernel
theorem t_X11_sheet_108 : decode prog_1_method_12_code 108 = .ok (.ifCond .eq 8, 3) := by decide +kernel
theorem t_X11_sheet_111 : decode prog_1_method_12_code 111 = .ok (.bipush (-3), 2) := by decide +kernel
theorem t_X11_sheet_113 : decode prog_1_method_12_code 113 = .ok (.goto 10, 3) := by decide +kernel
theorem t_X11_sheet_116 : decode prog_1_method_12_code 116 = .ok (.aload_n 0, 1) := by decide +kernel
theorem t_X11_sheet_117 : decode prog_1_method_12_code 117 = .ok (.getfield 10, 3) := by decide +kernel
theorem t_X11_sheet_120 : decode prog_1_method_12_code 120 = .ok (.invokevirtual 145, 3) := by decide +kernel
theorem t_X11_sheet_123 : decode prog_1_method_12_code 123 = .ok (.ireturn, 1) := by decide +kernel
def y_X11_refusal : MethodName := ⟨"SowingBoards", "refusal", "(I)I"⟩
theorem t_X11_refusal_0 : decode prog_1_method_15_code 0 = .ok (.iload_n 1, 1) := by decide +kernel
theorem t_X11_refusal_1 : decode prog_1_method_15_code 1 = .ok (.ifCond .lt 14, 3) := by decide +kernel
theorem t_X11_refusal_4 : decode prog_1_method_15_code 4 = .ok (.iload_n 1, 1) := by decide +kernel
theorem t_X11_refusal_5 : decode prog_1_method_15_code 5 = .ok (.aload_n 0, 1) := by decide +kernel
theorem t_X11_refusal_6 : decode prog_1_method_15_code 6 = .ok (.getfield 10, 3) := by decide +kernel
theorem t_X11_refusal_9 : decode prog_1_method_15_code 9 = .ok (.getfield 152, 3) := by decide +kernel
theorem t_X11_refusal_12 : decode prog_1_method_15_code 12 = .ok (.if_icmp .lt 5, 3) := by decide +kernel
theorem t_X11_refusal_15 : decode prog_1_method_15_code 15 = .ok (.iconst (-1), 1) := by decide +kernel
theorem t_X11_refusal_16 : decode prog_1_method_15_code 16 = .ok (.ireturn, 1) := by decide +kernel
theorem t_X11_refusal_17 : decode prog_1_method_15_code 17 = .ok (.aload_n 0, 1) := by decide +kernel
theorem t_X11_refusal_18 : decode prog_1_method_15_code 18 = .ok (.getfield 10, 3) := by decide +kernel
theorem t_X11_refusal_21 : decode prog_1_method_15_code 21 = .ok (.iload_n 1, 1) := by decide +kernel
theorem t_X11_refusal_22 : decode prog_1_method_15_code 22 = .ok (.invokevirtual 242, 3) := by decide +kernel
theorem t_X11_refusal_25 : decode prog_1_method_15_code 25 = .ok (.ifCond .eq 7, 3) := by decide +kernel
theorem t_X11_refusal_28 : decode prog_1_method_15_code 28 = .ok (.iconst 0, 1) := by decide +kernel
theorem t_X11_refusal_29 : decode prog_1_method_15_code 29 = .ok (.goto 5, 3) := by decide +kernel
theorem t_X11_refusal_32 : decode prog_1_method_15_code 32 = .ok (.bipush (-2), 2) := by decide +kernel
theorem t_X11_refusal_34 : decode prog_1_method_15_code 34 = .ok (.ireturn, 1) := by decide +kernel
def y_X11_moves : MethodName := ⟨"SowingBoards", "moves", "(I)I"⟩
theorem t_X11_moves_0 : decode prog_1_method_14_code 0 = .ok (.aload_n 0, 1) := by decide +kernel
theorem t_X11_moves_1 : decode prog_1_method_14_code 1 = .ok (.iload_n 1, 1) := by decide +kernel
theorem t_X11_moves_2 : decode prog_1_method_14_code 2 = .ok (.invokevirtual 218, 3) := by decide +kernel
theorem t_X11_moves_5 : decode prog_1_method_14_code 5 = .ok (.istore_n 2, 1) := by decide +kernel
theorem t_X11_moves_6 : decode prog_1_method_14_code 6 = .ok (.iload_n 2, 1) := by decide +kernel
theorem t_X11_moves_7 : decode prog_1_method_14_code 7 = .ok (.ifCond .ge 5, 3) := by decide +kernel
theorem t_X11_moves_10 : decode prog_1_method_14_code 10 = .ok (.iload_n 2, 1) := by decide +kernel
theorem t_X11_moves_11 : decode prog_1_method_14_code 11 = .ok (.ireturn, 1) := by decide +kernel
theorem t_X11_moves_12 : decode prog_1_method_14_code 12 = .ok (.aload_n 0, 1) := by decide +kernel
theorem t_X11_moves_13 : decode prog_1_method_14_code 13 = .ok (.getfield 33, 3) := by decide +kernel
theorem t_X11_moves_16 : decode prog_1_method_14_code 16 = .ok (.aload_n 0, 1) := by decide +kernel
theorem t_X11_moves_17 : decode prog_1_method_14_code 17 = .ok (.getfield 10, 3) := by decide +kernel
theorem t_X11_moves_20 : decode prog_1_method_14_code 20 = .ok (.invokevirtual 221, 3) := by decide +kernel
theorem t_X11_moves_23 : decode prog_1_method_14_code 23 = .ok (.aload_n 0, 1) := by decide +kernel
theorem t_X11_moves_24 : decode prog_1_method_14_code 24 = .ok (.getfield 54, 3) := by decide +kernel
theorem t_X11_moves_27 : decode prog_1_method_14_code 27 = .ok (.aload_n 0, 1) := by decide +kernel
theorem t_X11_moves_28 : decode prog_1_method_14_code 28 = .ok (.getfield 10, 3) := by decide +kernel
theorem t_X11_moves_31 : decode prog_1_method_14_code 31 = .ok (.iload_n 1, 1) := by decide +kernel
theorem t_X11_moves_32 : decode prog_1_method_14_code 32 = .ok (.aload_n 0, 1) := by decide +kernel
theorem t_X11_moves_33 : decode prog_1_method_14_code 33 = .ok (.getfield 112, 3) := by decide +kernel
theorem t_X11_moves_36 : decode prog_1_method_14_code 36 = .ok (.invokevirtual 225, 3) := by decide +kernel
theorem t_X11_moves_39 : decode prog_1_method_14_code 39 = .ok (.pop, 1) := by decide +kernel
theorem t_X11_moves_40 : decode prog_1_method_14_code 40 = .ok (.aload_n 0, 1) := by decide +kernel
theorem t_X11_moves_41 : decode prog_1_method_14_code 41 = .ok (.getfield 47, 3) := by decide +kernel
theorem t_X11_moves_44 : decode prog_1_method_14_code 44 = .ok (.aload_n 0, 1) := by decide +kernel
theorem t_X11_moves_45 : decode prog_1_method_14_code 45 = .ok (.getfield 54, 3) := by decide +kernel
theorem t_X11_moves_48 : decode prog_1_method_14_code 48 = .ok (.getfield 229, 3) := by decide +kernel
theorem t_X11_moves_51 : decode prog_1_method_14_code 51 = .ok (.i2l, 1) := by decide +kernel
theorem t_X11_moves_52 : decode prog_1_method_14_code 52 = .ok (.aload_n 0, 1) := by decide +kernel
theorem t_X11_moves_53 : decode prog_1_method_14_code 53 = .ok (.getfield 54, 3) := by decide +kernel
theorem t_X11_moves_56 : decode prog_1_method_14_code 56 = .ok (.getfield 232, 3) := by decide +kernel
theorem t_X11_moves_59 : decode prog_1_method_14_code 59 = .ok (.i2l, 1) := by decide +kernel
theorem t_X11_moves_60 : decode prog_1_method_14_code 60 = .ok (.aload_n 0, 1) := by decide +kernel
theorem t_X11_moves_61 : decode prog_1_method_14_code 61 = .ok (.getfield 10, 3) := by decide +kernel
theorem t_X11_moves_64 : decode prog_1_method_14_code 64 = .ok (.getfield 158, 3) := by decide +kernel
theorem t_X11_moves_67 : decode prog_1_method_14_code 67 = .ok (.i2l, 1) := by decide +kernel
theorem t_X11_moves_68 : decode prog_1_method_14_code 68 = .ok (.invokevirtual 235, 3) := by decide +kernel
theorem t_X11_moves_71 : decode prog_1_method_14_code 71 = .ok (.aload_n 0, 1) := by decide +kernel
theorem t_X11_moves_72 : decode prog_1_method_14_code 72 = .ok (.getfield 54, 3) := by decide +kernel
theorem t_X11_moves_75 : decode prog_1_method_14_code 75 = .ok (.getfield 239, 3) := by decide +kernel
theorem t_X11_moves_78 : decode prog_1_method_14_code 78 = .ok (.ireturn, 1) := by decide +kernel
def y_X11_playOn : MethodName := ⟨"SowingBoards", "playOn", "(LSowingBoards$Position;I)I"⟩
theorem t_X11_playOn_0 : decode prog_1_method_17_code 0 = .ok (.iconst 0, 1) := by decide +kernel
theorem t_X11_playOn_1 : decode prog_1_method_17_code 1 = .ok (.istore_n 3, 1) := by decide +kernel
theorem t_X11_playOn_2 : decode prog_1_method_17_code 2 = .ok (.iload_n 3, 1) := by decide +kernel
theorem t_X11_playOn_3 : decode prog_1_method_17_code 3 = .ok (.iload_n 2, 1) := by decide +kernel
theorem t_X11_playOn_4 : decode prog_1_method_17_code 4 = .ok (.if_icmp .ge 28, 3) := by decide +kernel
theorem t_X11_playOn_7 : decode prog_1_method_17_code 7 = .ok (.aload_n 0, 1) := by decide +kernel
theorem t_X11_playOn_8 : decode prog_1_method_17_code 8 = .ok (.getfield 61, 3) := by decide +kernel
theorem t_X11_playOn_11 : decode prog_1_method_17_code 11 = .ok (.aload_n 1, 1) := by decide +kernel
theorem t_X11_playOn_12 : decode prog_1_method_17_code 12 = .ok (.aload_n 0, 1) := by decide +kernel
theorem t_X11_playOn_13 : decode prog_1_method_17_code 13 = .ok (.getfield 89, 3) := by decide +kernel
theorem t_X11_playOn_16 : decode prog_1_method_17_code 16 = .ok (.aload_n 0, 1) := by decide +kernel
theorem t_X11_playOn_17 : decode prog_1_method_17_code 17 = .ok (.getfield 112, 3) := by decide +kernel
theorem t_X11_playOn_20 : decode prog_1_method_17_code 20 = .ok (.invokevirtual 256, 3) := by decide +kernel
theorem t_X11_playOn_23 : decode prog_1_method_17_code 23 = .ok (.ifCond .eq 9, 3) := by decide +kernel
theorem t_X11_playOn_26 : decode prog_1_method_17_code 26 = .ok (.iinc 3 1, 3) := by decide +kernel
theorem t_X11_playOn_29 : decode prog_1_method_17_code 29 = .ok (.goto (-27), 3) := by decide +kernel
theorem t_X11_playOn_32 : decode prog_1_method_17_code 32 = .ok (.iload_n 3, 1) := by decide +kernel
theorem t_X11_playOn_33 : decode prog_1_method_17_code 33 = .ok (.ireturn, 1) := by decide +kernel
def y_X11_plays : MethodName := ⟨"SowingBoards", "plays", "(I)I"⟩
theorem t_X11_plays_0 : decode prog_1_method_16_code 0 = .ok (.iload_n 1, 1) := by decide +kernel
theorem t_X11_plays_1 : decode prog_1_method_16_code 1 = .ok (.iconst 1, 1) := by decide +kernel
theorem t_X11_plays_2 : decode prog_1_method_16_code 2 = .ok (.if_icmp .lt 9, 3) := by decide +kernel
theorem t_X11_plays_5 : decode prog_1_method_16_code 5 = .ok (.iload_n 1, 1) := by decide +kernel
theorem t_X11_plays_6 : decode prog_1_method_16_code 6 = .ok (.bipush 60, 2) := by decide +kernel
theorem t_X11_plays_8 : decode prog_1_method_16_code 8 = .ok (.if_icmp .le 5, 3) := by decide +kernel
theorem t_X11_plays_11 : decode prog_1_method_16_code 11 = .ok (.iconst (-1), 1) := by decide +kernel
theorem t_X11_plays_12 : decode prog_1_method_16_code 12 = .ok (.ireturn, 1) := by decide +kernel
theorem t_X11_plays_13 : decode prog_1_method_16_code 13 = .ok (.aload_n 0, 1) := by decide +kernel
theorem t_X11_plays_14 : decode prog_1_method_16_code 14 = .ok (.getfield 10, 3) := by decide +kernel
theorem t_X11_plays_17 : decode prog_1_method_16_code 17 = .ok (.invokevirtual 245, 3) := by decide +kernel
theorem t_X11_plays_20 : decode prog_1_method_16_code 20 = .ok (.ifCond .eq 6, 3) := by decide +kernel
theorem t_X11_plays_23 : decode prog_1_method_16_code 23 = .ok (.bipush (-2), 2) := by decide +kernel
theorem t_X11_plays_25 : decode prog_1_method_16_code 25 = .ok (.ireturn, 1) := by decide +kernel
theorem t_X11_plays_26 : decode prog_1_method_16_code 26 = .ok (.aload_n 0, 1) := by decide +kernel
theorem t_X11_plays_27 : decode prog_1_method_16_code 27 = .ok (.getfield 33, 3) := by decide +kernel
theorem t_X11_plays_30 : decode prog_1_method_16_code 30 = .ok (.aload_n 0, 1) := by decide +kernel
theorem t_X11_plays_31 : decode prog_1_method_16_code 31 = .ok (.getfield 10, 3) := by decide +kernel
theorem t_X11_plays_34 : decode prog_1_method_16_code 34 = .ok (.invokevirtual 221, 3) := by decide +kernel
theorem t_X11_plays_37 : decode prog_1_method_16_code 37 = .ok (.aload_n 0, 1) := by decide +kernel
theorem t_X11_plays_38 : decode prog_1_method_16_code 38 = .ok (.aload_n 0, 1) := by decide +kernel
theorem t_X11_plays_39 : decode prog_1_method_16_code 39 = .ok (.getfield 10, 3) := by decide +kernel
theorem t_X11_plays_42 : decode prog_1_method_16_code 42 = .ok (.iload_n 1, 1) := by decide +kernel
theorem t_X11_plays_43 : decode prog_1_method_16_code 43 = .ok (.invokevirtual 249, 3) := by decide +kernel
theorem t_X11_plays_46 : decode prog_1_method_16_code 46 = .ok (.istore_n 2, 1) := by decide +kernel
theorem t_X11_plays_47 : decode prog_1_method_16_code 47 = .ok (.aload_n 0, 1) := by decide +kernel
theorem t_X11_plays_48 : decode prog_1_method_16_code 48 = .ok (.getfield 47, 3) := by decide +kernel
theorem t_X11_plays_51 : decode prog_1_method_16_code 51 = .ok (.aload_n 0, 1) := by decide +kernel
theorem t_X11_plays_52 : decode prog_1_method_16_code 52 = .ok (.getfield 10, 3) := by decide +kernel
theorem t_X11_plays_55 : decode prog_1_method_16_code 55 = .ok (.getfield 155, 3) := by decide +kernel
theorem t_X11_plays_58 : decode prog_1_method_16_code 58 = .ok (.iconst 0, 1) := by decide +kernel
theorem t_X11_plays_59 : decode prog_1_method_16_code 59 = .ok (.iaload, 1) := by decide +kernel
theorem t_X11_plays_60 : decode prog_1_method_16_code 60 = .ok (.i2l, 1) := by decide +kernel
theorem t_X11_plays_61 : decode prog_1_method_16_code 61 = .ok (.aload_n 0, 1) := by decide +kernel
theorem t_X11_plays_62 : decode prog_1_method_16_code 62 = .ok (.getfield 10, 3) := by decide +kernel
theorem t_X11_plays_65 : decode prog_1_method_16_code 65 = .ok (.getfield 155, 3) := by decide +kernel
theorem t_X11_plays_68 : decode prog_1_method_16_code 68 = .ok (.iconst 1, 1) := by decide +kernel
theorem t_X11_plays_69 : decode prog_1_method_16_code 69 = .ok (.iaload, 1) := by decide +kernel
theorem t_X11_plays_70 : decode prog_1_method_16_code 70 = .ok (.i2l, 1) := by decide +kernel
theorem t_X11_plays_71 : decode prog_1_method_16_code 71 = .ok (.invokevirtual 253, 3) := by decide +kernel
theorem t_X11_plays_74 : decode prog_1_method_16_code 74 = .ok (.iload_n 2, 1) := by decide +kernel
theorem t_X11_plays_75 : decode prog_1_method_16_code 75 = .ok (.ireturn, 1) := by decide +kernel
def y_X11_passes : MethodName := ⟨"SowingBoards", "passes", "()I"⟩
theorem t_X11_passes_0 : decode prog_1_method_18_code 0 = .ok (.aload_n 0, 1) := by decide +kernel
theorem t_X11_passes_1 : decode prog_1_method_18_code 1 = .ok (.getfield 33, 3) := by decide +kernel
theorem t_X11_passes_4 : decode prog_1_method_18_code 4 = .ok (.aload_n 0, 1) := by decide +kernel
theorem t_X11_passes_5 : decode prog_1_method_18_code 5 = .ok (.getfield 10, 3) := by decide +kernel
theorem t_X11_passes_8 : decode prog_1_method_18_code 8 = .ok (.invokevirtual 221, 3) := by decide +kernel
theorem t_X11_passes_11 : decode prog_1_method_18_code 11 = .ok (.aload_n 0, 1) := by decide +kernel
theorem t_X11_passes_12 : decode prog_1_method_18_code 12 = .ok (.getfield 10, 3) := by decide +kernel
theorem t_X11_passes_15 : decode prog_1_method_18_code 15 = .ok (.invokevirtual 260, 3) := by decide +kernel
theorem t_X11_passes_18 : decode prog_1_method_18_code 18 = .ok (.aload_n 0, 1) := by decide +kernel
theorem t_X11_passes_19 : decode prog_1_method_18_code 19 = .ok (.getfield 10, 3) := by decide +kernel
theorem t_X11_passes_22 : decode prog_1_method_18_code 22 = .ok (.getfield 158, 3) := by decide +kernel
theorem t_X11_passes_25 : decode prog_1_method_18_code 25 = .ok (.ireturn, 1) := by decide +kernel
def y_X11_adds : MethodName := ⟨"SowingBoards", "adds", "(II)I"⟩
theorem t_X11_adds_0 : decode prog_1_method_19_code 0 = .ok (.aload_n 0, 1) := by decide +kernel
theorem t_X11_adds_1 : decode prog_1_method_19_code 1 = .ok (.getfield 10, 3) := by decide +kernel
theorem t_X11_adds_4 : decode prog_1_method_19_code 4 = .ok (.iload_n 1, 1) := by decide +kernel
theorem t_X11_adds_5 : decode prog_1_method_19_code 5 = .ok (.invokevirtual 194, 3) := by decide +kernel
theorem t_X11_adds_8 : decode prog_1_method_19_code 8 = .ok (.ifCond .eq 14, 3) := by decide +kernel
theorem t_X11_adds_11 : decode prog_1_method_19_code 11 = .ok (.iload_n 2, 1) := by decide +kernel
theorem t_X11_adds_12 : decode prog_1_method_19_code 12 = .ok (.iconst 1, 1) := by decide +kernel
theorem t_X11_adds_13 : decode prog_1_method_19_code 13 = .ok (.if_icmp .lt 9, 3) := by decide +kernel
theorem t_X11_adds_16 : decode prog_1_method_19_code 16 = .ok (.iload_n 2, 1) := by decide +kernel
theorem t_X11_adds_17 : decode prog_1_method_19_code 17 = .ok (.bipush 9, 2) := by decide +kernel
theorem t_X11_adds_19 : decode prog_1_method_19_code 19 = .ok (.if_icmp .le 5, 3) := by decide +kernel
theorem t_X11_adds_22 : decode prog_1_method_19_code 22 = .ok (.iconst (-1), 1) := by decide +kernel
theorem t_X11_adds_23 : decode prog_1_method_19_code 23 = .ok (.ireturn, 1) := by decide +kernel
theorem t_X11_adds_24 : decode prog_1_method_19_code 24 = .ok (.aload_n 0, 1) := by decide +kernel
theorem t_X11_adds_25 : decode prog_1_method_19_code 25 = .ok (.getfield 10, 3) := by decide +kernel
theorem t_X11_adds_28 : decode prog_1_method_19_code 28 = .ok (.invokevirtual 263, 3) := by decide +kernel
theorem t_X11_adds_31 : decode prog_1_method_19_code 31 = .ok (.iload_n 2, 1) := by decide +kernel
theorem t_X11_adds_32 : decode prog_1_method_19_code 32 = .ok (.iadd, 1) := by decide +kernel
theorem t_X11_adds_33 : decode prog_1_method_19_code 33 = .ok (.sipush 200, 3) := by decide +kernel
theorem t_X11_adds_36 : decode prog_1_method_19_code 36 = .ok (.if_icmp .le 6, 3) := by decide +kernel
theorem t_X11_adds_39 : decode prog_1_method_19_code 39 = .ok (.bipush (-2), 2) := by decide +kernel
theorem t_X11_adds_41 : decode prog_1_method_19_code 41 = .ok (.ireturn, 1) := by decide +kernel
theorem t_X11_adds_42 : decode prog_1_method_19_code 42 = .ok (.aload_n 0, 1) := by decide +kernel
theorem t_X11_adds_43 : decode prog_1_method_19_code 43 = .ok (.getfield 33, 3) := by decide +kernel
theorem t_X11_adds_46 : decode prog_1_method_19_code 46 = .ok (.aload_n 0, 1) := by decide +kernel
theorem t_X11_adds_47 : decode prog_1_method_19_code 47 = .ok (.getfield 10, 3) := by decide +kernel
theorem t_X11_adds_50 : decode prog_1_method_19_code 50 = .ok (.invokevirtual 221, 3) := by decide +kernel
theorem t_X11_adds_53 : decode prog_1_method_19_code 53 = .ok (.aload_n 0, 1) := by decide +kernel
theorem t_X11_adds_54 : decode prog_1_method_19_code 54 = .ok (.getfield 10, 3) := by decide +kernel
theorem t_X11_adds_57 : decode prog_1_method_19_code 57 = .ok (.getfield 120, 3) := by decide +kernel
theorem t_X11_adds_60 : decode prog_1_method_19_code 60 = .ok (.iload_n 1, 1) := by decide +kernel
theorem t_X11_adds_61 : decode prog_1_method_19_code 61 = .ok (.dup2, 1) := by decide +kernel
theorem t_X11_adds_62 : decode prog_1_method_19_code 62 = .ok (.iaload, 1) := by decide +kernel
theorem t_X11_adds_63 : decode prog_1_method_19_code 63 = .ok (.iload_n 2, 1) := by decide +kernel
theorem t_X11_adds_64 : decode prog_1_method_19_code 64 = .ok (.iadd, 1) := by decide +kernel
theorem t_X11_adds_65 : decode prog_1_method_19_code 65 = .ok (.iastore, 1) := by decide +kernel
theorem t_X11_adds_66 : decode prog_1_method_19_code 66 = .ok (.aload_n 0, 1) := by decide +kernel
theorem t_X11_adds_67 : decode prog_1_method_19_code 67 = .ok (.getfield 10, 3) := by decide +kernel
theorem t_X11_adds_70 : decode prog_1_method_19_code 70 = .ok (.getfield 120, 3) := by decide +kernel
theorem t_X11_adds_73 : decode prog_1_method_19_code 73 = .ok (.iload_n 1, 1) := by decide +kernel
theorem t_X11_adds_74 : decode prog_1_method_19_code 74 = .ok (.iaload, 1) := by decide +kernel
theorem t_X11_adds_75 : decode prog_1_method_19_code 75 = .ok (.ireturn, 1) := by decide +kernel
def y_X11_doAct : MethodName := ⟨"SowingBoards", "doAct", "(I)Z"⟩
theorem t_X11_doAct_0 : decode prog_1_method_23_code 0 = .ok (.iload_n 1, 1) := by decide +kernel
theorem t_X11_doAct_1 : decode prog_1_method_23_code 1 = .ok (.bipush 47, 2) := by decide +kernel
theorem t_X11_doAct_3 : decode prog_1_method_23_code 3 = .ok (.if_icmp .ne 12, 3) := by decide +kernel
theorem t_X11_doAct_6 : decode prog_1_method_23_code 6 = .ok (.aload_n 0, 1) := by decide +kernel
theorem t_X11_doAct_7 : decode prog_1_method_23_code 7 = .ok (.getfield 10, 3) := by decide +kernel
theorem t_X11_doAct_10 : decode prog_1_method_23_code 10 = .ok (.invokevirtual 260, 3) := by decide +kernel
theorem t_X11_doAct_13 : decode prog_1_method_23_code 13 = .ok (.iconst 1, 1) := by decide +kernel
theorem t_X11_doAct_14 : decode prog_1_method_23_code 14 = .ok (.ireturn, 1) := by decide +kernel
theorem t_X11_doAct_15 : decode prog_1_method_23_code 15 = .ok (.iload_n 1, 1) := by decide +kernel
theorem t_X11_doAct_16 : decode prog_1_method_23_code 16 = .ok (.bipush 42, 2) := by decide +kernel
theorem t_X11_doAct_18 : decode prog_1_method_23_code 18 = .ok (.if_icmp .ne 23, 3) := by decide +kernel
theorem t_X11_doAct_21 : decode prog_1_method_23_code 21 = .ok (.aload_n 0, 1) := by decide +kernel
theorem t_X11_doAct_22 : decode prog_1_method_23_code 22 = .ok (.getfield 61, 3) := by decide +kernel
theorem t_X11_doAct_25 : decode prog_1_method_23_code 25 = .ok (.aload_n 0, 1) := by decide +kernel
theorem t_X11_doAct_26 : decode prog_1_method_23_code 26 = .ok (.getfield 10, 3) := by decide +kernel
theorem t_X11_doAct_29 : decode prog_1_method_23_code 29 = .ok (.aload_n 0, 1) := by decide +kernel
theorem t_X11_doAct_30 : decode prog_1_method_23_code 30 = .ok (.getfield 89, 3) := by decide +kernel
theorem t_X11_doAct_33 : decode prog_1_method_23_code 33 = .ok (.aload_n 0, 1) := by decide +kernel
theorem t_X11_doAct_34 : decode prog_1_method_23_code 34 = .ok (.getfield 112, 3) := by decide +kernel
theorem t_X11_doAct_37 : decode prog_1_method_23_code 37 = .ok (.invokevirtual 256, 3) := by decide +kernel
theorem t_X11_doAct_40 : decode prog_1_method_23_code 40 = .ok (.ireturn, 1) := by decide +kernel
theorem t_X11_doAct_41 : decode prog_1_method_23_code 41 = .ok (.aload_n 0, 1) := by decide +kernel
theorem t_X11_doAct_42 : decode prog_1_method_23_code 42 = .ok (.getfield 54, 3) := by decide +kernel
theorem t_X11_doAct_45 : decode prog_1_method_23_code 45 = .ok (.aload_n 0, 1) := by decide +kernel
theorem t_X11_doAct_46 : decode prog_1_method_23_code 46 = .ok (.getfield 10, 3) := by decide +kernel
theorem t_X11_doAct_49 : decode prog_1_method_23_code 49 = .ok (.iload_n 1, 1) := by decide +kernel
theorem t_X11_doAct_50 : decode prog_1_method_23_code 50 = .ok (.bipush 48, 2) := by decide +kernel
theorem t_X11_doAct_52 : decode prog_1_method_23_code 52 = .ok (.isub, 1) := by decide +kernel
theorem t_X11_doAct_53 : decode prog_1_method_23_code 53 = .ok (.aload_n 0, 1) := by decide +kernel
theorem t_X11_doAct_54 : decode prog_1_method_23_code 54 = .ok (.getfield 112, 3) := by decide +kernel
theorem t_X11_doAct_57 : decode prog_1_method_23_code 57 = .ok (.invokevirtual 225, 3) := by decide +kernel
theorem t_X11_doAct_60 : decode prog_1_method_23_code 60 = .ok (.ireturn, 1) := by decide +kernel
def y_X11_isAct : MethodName := ⟨"SowingBoards", "isAct", "(I)Z"⟩
theorem t_X11_isAct_0 : decode prog_1_method_22_code 0 = .ok (.iload_n 0, 1) := by decide +kernel
theorem t_X11_isAct_1 : decode prog_1_method_22_code 1 = .ok (.bipush 48, 2) := by decide +kernel
theorem t_X11_isAct_3 : decode prog_1_method_22_code 3 = .ok (.if_icmp .lt 9, 3) := by decide +kernel
theorem t_X11_isAct_6 : decode prog_1_method_22_code 6 = .ok (.iload_n 0, 1) := by decide +kernel
theorem t_X11_isAct_7 : decode prog_1_method_22_code 7 = .ok (.bipush 53, 2) := by decide +kernel
theorem t_X11_isAct_9 : decode prog_1_method_22_code 9 = .ok (.if_icmp .le 15, 3) := by decide +kernel
theorem t_X11_isAct_12 : decode prog_1_method_22_code 12 = .ok (.iload_n 0, 1) := by decide +kernel
theorem t_X11_isAct_13 : decode prog_1_method_22_code 13 = .ok (.bipush 42, 2) := by decide +kernel
theorem t_X11_isAct_15 : decode prog_1_method_22_code 15 = .ok (.if_icmp .eq 9, 3) := by decide +kernel
theorem t_X11_isAct_18 : decode prog_1_method_22_code 18 = .ok (.iload_n 0, 1) := by decide +kernel
theorem t_X11_isAct_19 : decode prog_1_method_22_code 19 = .ok (.bipush 47, 2) := by decide +kernel
theorem t_X11_isAct_21 : decode prog_1_method_22_code 21 = .ok (.if_icmp .ne 7, 3) := by decide +kernel
theorem t_X11_isAct_24 : decode prog_1_method_22_code 24 = .ok (.iconst 1, 1) := by decide +kernel
theorem t_X11_isAct_25 : decode prog_1_method_22_code 25 = .ok (.goto 4, 3) := by decide +kernel
theorem t_X11_isAct_28 : decode prog_1_method_22_code 28 = .ok (.iconst 0, 1) := by decide +kernel
theorem t_X11_isAct_29 : decode prog_1_method_22_code 29 = .ok (.ireturn, 1) := by decide +kernel
def y_X11_wrongInGame : MethodName := ⟨"SowingBoards", "wrongInGame", "()I"⟩
theorem t_X11_wrongInGame_0 : decode prog_1_method_21_code 0 = .ok (.iconst 0, 1) := by decide +kernel
theorem t_X11_wrongInGame_1 : decode prog_1_method_21_code 1 = .ok (.istore_n 1, 1) := by decide +kernel
theorem t_X11_wrongInGame_2 : decode prog_1_method_21_code 2 = .ok (.iload_n 1, 1) := by decide +kernel
theorem t_X11_wrongInGame_3 : decode prog_1_method_21_code 3 = .ok (.aload_n 0, 1) := by decide +kernel
theorem t_X11_wrongInGame_4 : decode prog_1_method_21_code 4 = .ok (.getfield 40, 3) := by decide +kernel
theorem t_X11_wrongInGame_7 : decode prog_1_method_21_code 7 = .ok (.getfield 130, 3) := by decide +kernel
theorem t_X11_wrongInGame_10 : decode prog_1_method_21_code 10 = .ok (.if_icmp .ge 31, 3) := by decide +kernel
theorem t_X11_wrongInGame_13 : decode prog_1_method_21_code 13 = .ok (.iload_n 1, 1) := by decide +kernel
theorem t_X11_wrongInGame_14 : decode prog_1_method_21_code 14 = .ok (.bipush 60, 2) := by decide +kernel
theorem t_X11_wrongInGame_16 : decode prog_1_method_21_code 16 = .ok (.if_icmp .eq 17, 3) := by decide +kernel
theorem t_X11_wrongInGame_19 : decode prog_1_method_21_code 19 = .ok (.aload_n 0, 1) := by decide +kernel
theorem t_X11_wrongInGame_20 : decode prog_1_method_21_code 20 = .ok (.getfield 40, 3) := by decide +kernel
theorem t_X11_wrongInGame_23 : decode prog_1_method_21_code 23 = .ok (.iload_n 1, 1) := by decide +kernel
theorem t_X11_wrongInGame_24 : decode prog_1_method_21_code 24 = .ok (.invokevirtual 175, 3) := by decide +kernel
theorem t_X11_wrongInGame_27 : decode prog_1_method_21_code 27 = .ok (.invokestatic 274, 3) := by decide +kernel
theorem t_X11_wrongInGame_30 : decode prog_1_method_21_code 30 = .ok (.ifCond .ne 5, 3) := by decide +kernel
theorem t_X11_wrongInGame_33 : decode prog_1_method_21_code 33 = .ok (.iload_n 1, 1) := by decide +kernel
theorem t_X11_wrongInGame_34 : decode prog_1_method_21_code 34 = .ok (.ireturn, 1) := by decide +kernel
theorem t_X11_wrongInGame_35 : decode prog_1_method_21_code 35 = .ok (.iinc 1 1, 3) := by decide +kernel
theorem t_X11_wrongInGame_38 : decode prog_1_method_21_code 38 = .ok (.goto (-36), 3) := by decide +kernel
theorem t_X11_wrongInGame_41 : decode prog_1_method_21_code 41 = .ok (.iconst (-1), 1) := by decide +kernel
theorem t_X11_wrongInGame_42 : decode prog_1_method_21_code 42 = .ok (.ireturn, 1) := by decide +kernel
def y_X11_game : MethodName := ⟨"SowingBoards", "game", "()I"⟩
theorem t_X11_game_0 : decode prog_1_method_20_code 0 = .ok (.aload_n 0, 1) := by decide +kernel
theorem t_X11_game_1 : decode prog_1_method_20_code 1 = .ok (.invokevirtual 266, 3) := by decide +kernel
theorem t_X11_game_4 : decode prog_1_method_20_code 4 = .ok (.istore_n 1, 1) := by decide +kernel
theorem t_X11_game_5 : decode prog_1_method_20_code 5 = .ok (.iload_n 1, 1) := by decide +kernel
theorem t_X11_game_6 : decode prog_1_method_20_code 6 = .ok (.iconst (-1), 1) := by decide +kernel
theorem t_X11_game_7 : decode prog_1_method_20_code 7 = .ok (.if_icmp .eq 14, 3) := by decide +kernel
theorem t_X11_game_10 : decode prog_1_method_20_code 10 = .ok (.aload_n 0, 1) := by decide +kernel
theorem t_X11_game_11 : decode prog_1_method_20_code 11 = .ok (.getfield 40, 3) := by decide +kernel
theorem t_X11_game_14 : decode prog_1_method_20_code 14 = .ok (.invokevirtual 142, 3) := by decide +kernel
theorem t_X11_game_17 : decode prog_1_method_20_code 17 = .ok (.iconst (-1), 1) := by decide +kernel
theorem t_X11_game_18 : decode prog_1_method_20_code 18 = .ok (.iload_n 1, 1) := by decide +kernel
theorem t_X11_game_19 : decode prog_1_method_20_code 19 = .ok (.isub, 1) := by decide +kernel
theorem t_X11_game_20 : decode prog_1_method_20_code 20 = .ok (.ireturn, 1) := by decide +kernel
theorem t_X11_game_21 : decode prog_1_method_20_code 21 = .ok (.aload_n 0, 1) := by decide +kernel
theorem t_X11_game_22 : decode prog_1_method_20_code 22 = .ok (.getfield 16, 3) := by decide +kernel
theorem t_X11_game_25 : decode prog_1_method_20_code 25 = .ok (.aload_n 0, 1) := by decide +kernel
theorem t_X11_game_26 : decode prog_1_method_20_code 26 = .ok (.getfield 10, 3) := by decide +kernel
theorem t_X11_game_29 : decode prog_1_method_20_code 29 = .ok (.invokevirtual 269, 3) := by decide +kernel
theorem t_X11_game_32 : decode prog_1_method_20_code 32 = .ok (.iconst 0, 1) := by decide +kernel
theorem t_X11_game_33 : decode prog_1_method_20_code 33 = .ok (.istore_n 2, 1) := by decide +kernel
theorem t_X11_game_34 : decode prog_1_method_20_code 34 = .ok (.iload_n 2, 1) := by decide +kernel
theorem t_X11_game_35 : decode prog_1_method_20_code 35 = .ok (.aload_n 0, 1) := by decide +kernel
theorem t_X11_game_36 : decode prog_1_method_20_code 36 = .ok (.getfield 40, 3) := by decide +kernel
theorem t_X11_game_39 : decode prog_1_method_20_code 39 = .ok (.getfield 130, 3) := by decide +kernel
theorem t_X11_game_42 : decode prog_1_method_20_code 42 = .ok (.if_icmp .ge 24, 3) := by decide +kernel
theorem t_X11_game_45 : decode prog_1_method_20_code 45 = .ok (.aload_n 0, 1) := by decide +kernel
theorem t_X11_game_46 : decode prog_1_method_20_code 46 = .ok (.aload_n 0, 1) := by decide +kernel
theorem t_X11_game_47 : decode prog_1_method_20_code 47 = .ok (.getfield 40, 3) := by decide +kernel
theorem t_X11_game_50 : decode prog_1_method_20_code 50 = .ok (.iload_n 2, 1) := by decide +kernel
theorem t_X11_game_51 : decode prog_1_method_20_code 51 = .ok (.invokevirtual 175, 3) := by decide +kernel
theorem t_X11_game_54 : decode prog_1_method_20_code 54 = .ok (.invokevirtual 271, 3) := by decide +kernel
theorem t_X11_game_57 : decode prog_1_method_20_code 57 = .ok (.ifCond .eq 9, 3) := by decide +kernel
theorem t_X11_game_60 : decode prog_1_method_20_code 60 = .ok (.iinc 2 1, 3) := by decide +kernel
theorem t_X11_game_63 : decode prog_1_method_20_code 63 = .ok (.goto (-29), 3) := by decide +kernel
theorem t_X11_game_66 : decode prog_1_method_20_code 66 = .ok (.iload_n 2, 1) := by decide +kernel
theorem t_X11_game_67 : decode prog_1_method_20_code 67 = .ok (.ifCond .le 14, 3) := by decide +kernel
theorem t_X11_game_70 : decode prog_1_method_20_code 70 = .ok (.aload_n 0, 1) := by decide +kernel
theorem t_X11_game_71 : decode prog_1_method_20_code 71 = .ok (.getfield 33, 3) := by decide +kernel
theorem t_X11_game_74 : decode prog_1_method_20_code 74 = .ok (.aload_n 0, 1) := by decide +kernel
theorem t_X11_game_75 : decode prog_1_method_20_code 75 = .ok (.getfield 16, 3) := by decide +kernel
theorem t_X11_game_78 : decode prog_1_method_20_code 78 = .ok (.invokevirtual 221, 3) := by decide +kernel
theorem t_X11_game_81 : decode prog_1_method_20_code 81 = .ok (.aload_n 0, 1) := by decide +kernel
theorem t_X11_game_82 : decode prog_1_method_20_code 82 = .ok (.getfield 47, 3) := by decide +kernel
theorem t_X11_game_85 : decode prog_1_method_20_code 85 = .ok (.iload_n 2, 1) := by decide +kernel
theorem t_X11_game_86 : decode prog_1_method_20_code 86 = .ok (.aload_n 0, 1) := by decide +kernel
theorem t_X11_game_87 : decode prog_1_method_20_code 87 = .ok (.getfield 40, 3) := by decide +kernel
theorem t_X11_game_90 : decode prog_1_method_20_code 90 = .ok (.getfield 130, 3) := by decide +kernel
theorem t_X11_game_93 : decode prog_1_method_20_code 93 = .ok (.if_icmp .ge 7, 3) := by decide +kernel
theorem t_X11_game_96 : decode prog_1_method_20_code 96 = .ok (.lconst 1, 1) := by decide +kernel
theorem t_X11_game_97 : decode prog_1_method_20_code 97 = .ok (.goto 4, 3) := by decide +kernel
theorem t_X11_game_100 : decode prog_1_method_20_code 100 = .ok (.lconst 0, 1) := by decide +kernel
theorem t_X11_game_101 : decode prog_1_method_20_code 101 = .ok (.aload_n 0, 1) := by decide +kernel
theorem t_X11_game_102 : decode prog_1_method_20_code 102 = .ok (.getfield 10, 3) := by decide +kernel
theorem t_X11_game_105 : decode prog_1_method_20_code 105 = .ok (.getfield 158, 3) := by decide +kernel
theorem t_X11_game_108 : decode prog_1_method_20_code 108 = .ok (.i2l, 1) := by decide +kernel
theorem t_X11_game_109 : decode prog_1_method_20_code 109 = .ok (.invokevirtual 253, 3) := by decide +kernel
theorem t_X11_game_112 : decode prog_1_method_20_code 112 = .ok (.aload_n 0, 1) := by decide +kernel
theorem t_X11_game_113 : decode prog_1_method_20_code 113 = .ok (.getfield 40, 3) := by decide +kernel
theorem t_X11_game_116 : decode prog_1_method_20_code 116 = .ok (.invokevirtual 142, 3) := by decide +kernel
theorem t_X11_game_119 : decode prog_1_method_20_code 119 = .ok (.iload_n 2, 1) := by decide +kernel
theorem t_X11_game_120 : decode prog_1_method_20_code 120 = .ok (.ireturn, 1) := by decide +kernel
def y_X11_undo : MethodName := ⟨"SowingBoards", "undo", "()I"⟩
theorem t_X11_undo_0 : decode prog_1_method_24_code 0 = .ok (.aload_n 0, 1) := by decide +kernel
theorem t_X11_undo_1 : decode prog_1_method_24_code 1 = .ok (.getfield 33, 3) := by decide +kernel
theorem t_X11_undo_4 : decode prog_1_method_24_code 4 = .ok (.aload_n 0, 1) := by decide +kernel
theorem t_X11_undo_5 : decode prog_1_method_24_code 5 = .ok (.getfield 10, 3) := by decide +kernel
theorem t_X11_undo_8 : decode prog_1_method_24_code 8 = .ok (.invokevirtual 277, 3) := by decide +kernel
theorem t_X11_undo_11 : decode prog_1_method_24_code 11 = .ok (.ifCond .eq 13, 3) := by decide +kernel
theorem t_X11_undo_14 : decode prog_1_method_24_code 14 = .ok (.aload_n 0, 1) := by decide +kernel
theorem t_X11_undo_15 : decode prog_1_method_24_code 15 = .ok (.getfield 33, 3) := by decide +kernel
theorem t_X11_undo_18 : decode prog_1_method_24_code 18 = .ok (.getfield 281, 3) := by decide +kernel
theorem t_X11_undo_21 : decode prog_1_method_24_code 21 = .ok (.goto 4, 3) := by decide +kernel
theorem t_X11_undo_24 : decode prog_1_method_24_code 24 = .ok (.iconst (-1), 1) := by decide +kernel
theorem t_X11_undo_25 : decode prog_1_method_24_code 25 = .ok (.ireturn, 1) := by decide +kernel
def y_X11_tryMove : MethodName := ⟨"SowingBoards", "tryMove", "(II)Z"⟩
theorem t_X11_tryMove_0 : decode prog_1_method_26_code 0 = .ok (.aload_n 0, 1) := by decide +kernel
theorem t_X11_tryMove_1 : decode prog_1_method_26_code 1 = .ok (.getfield 19, 3) := by decide +kernel
theorem t_X11_tryMove_4 : decode prog_1_method_26_code 4 = .ok (.aload_n 0, 1) := by decide +kernel
theorem t_X11_tryMove_5 : decode prog_1_method_26_code 5 = .ok (.getfield 10, 3) := by decide +kernel
theorem t_X11_tryMove_8 : decode prog_1_method_26_code 8 = .ok (.invokevirtual 269, 3) := by decide +kernel
theorem t_X11_tryMove_11 : decode prog_1_method_26_code 11 = .ok (.aload_n 0, 1) := by decide +kernel
theorem t_X11_tryMove_12 : decode prog_1_method_26_code 12 = .ok (.getfield 54, 3) := by decide +kernel
theorem t_X11_tryMove_15 : decode prog_1_method_26_code 15 = .ok (.aload_n 0, 1) := by decide +kernel
theorem t_X11_tryMove_16 : decode prog_1_method_26_code 16 = .ok (.getfield 19, 3) := by decide +kernel
theorem t_X11_tryMove_19 : decode prog_1_method_26_code 19 = .ok (.iload_n 1, 1) := by decide +kernel
theorem t_X11_tryMove_20 : decode prog_1_method_26_code 20 = .ok (.iload_n 2, 1) := by decide +kernel
theorem t_X11_tryMove_21 : decode prog_1_method_26_code 21 = .ok (.invokevirtual 225, 3) := by decide +kernel
theorem t_X11_tryMove_24 : decode prog_1_method_26_code 24 = .ok (.ireturn, 1) := by decide +kernel
def y_X11_would : MethodName := ⟨"SowingBoards", "would", "(I)I"⟩
theorem t_X11_would_0 : decode prog_1_method_25_code 0 = .ok (.aload_n 0, 1) := by decide +kernel
theorem t_X11_would_1 : decode prog_1_method_25_code 1 = .ok (.iload_n 1, 1) := by decide +kernel
theorem t_X11_would_2 : decode prog_1_method_25_code 2 = .ok (.invokevirtual 218, 3) := by decide +kernel
theorem t_X11_would_5 : decode prog_1_method_25_code 5 = .ok (.istore_n 2, 1) := by decide +kernel
theorem t_X11_would_6 : decode prog_1_method_25_code 6 = .ok (.iload_n 2, 1) := by decide +kernel
theorem t_X11_would_7 : decode prog_1_method_25_code 7 = .ok (.ifCond .ge 5, 3) := by decide +kernel
theorem t_X11_would_10 : decode prog_1_method_25_code 10 = .ok (.iload_n 2, 1) := by decide +kernel
theorem t_X11_would_11 : decode prog_1_method_25_code 11 = .ok (.ireturn, 1) := by decide +kernel
theorem t_X11_would_12 : decode prog_1_method_25_code 12 = .ok (.aload_n 0, 1) := by decide +kernel
theorem t_X11_would_13 : decode prog_1_method_25_code 13 = .ok (.iload_n 1, 1) := by decide +kernel
theorem t_X11_would_14 : decode prog_1_method_25_code 14 = .ok (.aload_n 0, 1) := by decide +kernel
theorem t_X11_would_15 : decode prog_1_method_25_code 15 = .ok (.getfield 112, 3) := by decide +kernel
theorem t_X11_would_18 : decode prog_1_method_25_code 18 = .ok (.invokevirtual 284, 3) := by decide +kernel
theorem t_X11_would_21 : decode prog_1_method_25_code 21 = .ok (.pop, 1) := by decide +kernel
theorem t_X11_would_22 : decode prog_1_method_25_code 22 = .ok (.aload_n 0, 1) := by decide +kernel
theorem t_X11_would_23 : decode prog_1_method_25_code 23 = .ok (.getfield 47, 3) := by decide +kernel
theorem t_X11_would_26 : decode prog_1_method_25_code 26 = .ok (.aload_n 0, 1) := by decide +kernel
theorem t_X11_would_27 : decode prog_1_method_25_code 27 = .ok (.getfield 54, 3) := by decide +kernel
theorem t_X11_would_30 : decode prog_1_method_25_code 30 = .ok (.getfield 229, 3) := by decide +kernel
theorem t_X11_would_33 : decode prog_1_method_25_code 33 = .ok (.i2l, 1) := by decide +kernel
theorem t_X11_would_34 : decode prog_1_method_25_code 34 = .ok (.aload_n 0, 1) := by decide +kernel
theorem t_X11_would_35 : decode prog_1_method_25_code 35 = .ok (.getfield 54, 3) := by decide +kernel
theorem t_X11_would_38 : decode prog_1_method_25_code 38 = .ok (.getfield 232, 3) := by decide +kernel
theorem t_X11_would_41 : decode prog_1_method_25_code 41 = .ok (.i2l, 1) := by decide +kernel
theorem t_X11_would_42 : decode prog_1_method_25_code 42 = .ok (.aload_n 0, 1) := by decide +kernel
theorem t_X11_would_43 : decode prog_1_method_25_code 43 = .ok (.getfield 19, 3) := by decide +kernel
theorem t_X11_would_46 : decode prog_1_method_25_code 46 = .ok (.getfield 158, 3) := by decide +kernel
theorem t_X11_would_49 : decode prog_1_method_25_code 49 = .ok (.i2l, 1) := by decide +kernel
theorem t_X11_would_50 : decode prog_1_method_25_code 50 = .ok (.invokevirtual 235, 3) := by decide +kernel
theorem t_X11_would_53 : decode prog_1_method_25_code 53 = .ok (.aload_n 0, 1) := by decide +kernel
theorem t_X11_would_54 : decode prog_1_method_25_code 54 = .ok (.getfield 54, 3) := by decide +kernel
theorem t_X11_would_57 : decode prog_1_method_25_code 57 = .ok (.getfield 239, 3) := by decide +kernel
theorem t_X11_would_60 : decode prog_1_method_25_code 60 = .ok (.ireturn, 1) := by decide +kernel
def y_X11_worth : MethodName := ⟨"SowingBoards", "worth", "(I)I"⟩
theorem t_X11_worth_0 : decode prog_1_method_27_code 0 = .ok (.aload_n 0, 1) := by decide +kernel
theorem t_X11_worth_1 : decode prog_1_method_27_code 1 = .ok (.iload_n 1, 1) := by decide +kernel
theorem t_X11_worth_2 : decode prog_1_method_27_code 2 = .ok (.invokevirtual 218, 3) := by decide +kernel
theorem t_X11_worth_5 : decode prog_1_method_27_code 5 = .ok (.istore_n 2, 1) := by decide +kernel
theorem t_X11_worth_6 : decode prog_1_method_27_code 6 = .ok (.iload_n 2, 1) := by decide +kernel
theorem t_X11_worth_7 : decode prog_1_method_27_code 7 = .ok (.ifCond .ge 5, 3) := by decide +kernel
theorem t_X11_worth_10 : decode prog_1_method_27_code 10 = .ok (.iload_n 2, 1) := by decide +kernel
theorem t_X11_worth_11 : decode prog_1_method_27_code 11 = .ok (.ireturn, 1) := by decide +kernel
theorem t_X11_worth_12 : decode prog_1_method_27_code 12 = .ok (.aload_n 0, 1) := by decide +kernel
theorem t_X11_worth_13 : decode prog_1_method_27_code 13 = .ok (.iload_n 1, 1) := by decide +kernel
theorem t_X11_worth_14 : decode prog_1_method_27_code 14 = .ok (.aload_n 0, 1) := by decide +kernel
theorem t_X11_worth_15 : decode prog_1_method_27_code 15 = .ok (.getfield 112, 3) := by decide +kernel
theorem t_X11_worth_18 : decode prog_1_method_27_code 18 = .ok (.invokevirtual 284, 3) := by decide +kernel
theorem t_X11_worth_21 : decode prog_1_method_27_code 21 = .ok (.pop, 1) := by decide +kernel
theorem t_X11_worth_22 : decode prog_1_method_27_code 22 = .ok (.aload_n 0, 1) := by decide +kernel
theorem t_X11_worth_23 : decode prog_1_method_27_code 23 = .ok (.getfield 47, 3) := by decide +kernel
theorem t_X11_worth_26 : decode prog_1_method_27_code 26 = .ok (.aload_n 0, 1) := by decide +kernel
theorem t_X11_worth_27 : decode prog_1_method_27_code 27 = .ok (.getfield 89, 3) := by decide +kernel
theorem t_X11_worth_30 : decode prog_1_method_27_code 30 = .ok (.aload_n 0, 1) := by decide +kernel
theorem t_X11_worth_31 : decode prog_1_method_27_code 31 = .ok (.getfield 54, 3) := by decide +kernel
theorem t_X11_worth_34 : decode prog_1_method_27_code 34 = .ok (.invokevirtual 288, 3) := by decide +kernel
theorem t_X11_worth_37 : decode prog_1_method_27_code 37 = .ok (.i2l, 1) := by decide +kernel
theorem t_X11_worth_38 : decode prog_1_method_27_code 38 = .ok (.invokevirtual 292, 3) := by decide +kernel
theorem t_X11_worth_41 : decode prog_1_method_27_code 41 = .ok (.iconst 0, 1) := by decide +kernel
theorem t_X11_worth_42 : decode prog_1_method_27_code 42 = .ok (.ireturn, 1) := by decide +kernel
def y_X11_best : MethodName := ⟨"SowingBoards", "best", "()I"⟩
theorem t_X11_best_0 : decode prog_1_method_28_code 0 = .ok (.aload_n 0, 1) := by decide +kernel
theorem t_X11_best_1 : decode prog_1_method_28_code 1 = .ok (.getfield 61, 3) := by decide +kernel
theorem t_X11_best_4 : decode prog_1_method_28_code 4 = .ok (.aload_n 0, 1) := by decide +kernel
theorem t_X11_best_5 : decode prog_1_method_28_code 5 = .ok (.getfield 10, 3) := by decide +kernel
theorem t_X11_best_8 : decode prog_1_method_28_code 8 = .ok (.aload_n 0, 1) := by decide +kernel
theorem t_X11_best_9 : decode prog_1_method_28_code 9 = .ok (.getfield 89, 3) := by decide +kernel
theorem t_X11_best_12 : decode prog_1_method_28_code 12 = .ok (.aload_n 0, 1) := by decide +kernel
theorem t_X11_best_13 : decode prog_1_method_28_code 13 = .ok (.getfield 112, 3) := by decide +kernel
theorem t_X11_best_16 : decode prog_1_method_28_code 16 = .ok (.invokevirtual 295, 3) := by decide +kernel
theorem t_X11_best_19 : decode prog_1_method_28_code 19 = .ok (.istore_n 1, 1) := by decide +kernel
theorem t_X11_best_20 : decode prog_1_method_28_code 20 = .ok (.iload_n 1, 1) := by decide +kernel
theorem t_X11_best_21 : decode prog_1_method_28_code 21 = .ok (.iconst (-1), 1) := by decide +kernel
theorem t_X11_best_22 : decode prog_1_method_28_code 22 = .ok (.if_icmp .ne 6, 3) := by decide +kernel
theorem t_X11_best_25 : decode prog_1_method_28_code 25 = .ok (.bipush (-2), 2) := by decide +kernel
theorem t_X11_best_27 : decode prog_1_method_28_code 27 = .ok (.ireturn, 1) := by decide +kernel
theorem t_X11_best_28 : decode prog_1_method_28_code 28 = .ok (.aload_n 0, 1) := by decide +kernel
theorem t_X11_best_29 : decode prog_1_method_28_code 29 = .ok (.getfield 47, 3) := by decide +kernel
theorem t_X11_best_32 : decode prog_1_method_28_code 32 = .ok (.aload_n 0, 1) := by decide +kernel
theorem t_X11_best_33 : decode prog_1_method_28_code 33 = .ok (.getfield 61, 3) := by decide +kernel
theorem t_X11_best_36 : decode prog_1_method_28_code 36 = .ok (.getfield 299, 3) := by decide +kernel
theorem t_X11_best_39 : decode prog_1_method_28_code 39 = .ok (.i2l, 1) := by decide +kernel
theorem t_X11_best_40 : decode prog_1_method_28_code 40 = .ok (.invokevirtual 292, 3) := by decide +kernel
theorem t_X11_best_43 : decode prog_1_method_28_code 43 = .ok (.iload_n 1, 1) := by decide +kernel
theorem t_X11_best_44 : decode prog_1_method_28_code 44 = .ok (.ireturn, 1) := by decide +kernel
def y_X11_most : MethodName := ⟨"SowingBoards", "most", "()I"⟩
theorem t_X11_most_0 : decode prog_1_method_29_code 0 = .ok (.aload_n 0, 1) := by decide +kernel
theorem t_X11_most_1 : decode prog_1_method_29_code 1 = .ok (.getfield 61, 3) := by decide +kernel
theorem t_X11_most_4 : decode prog_1_method_29_code 4 = .ok (.aload_n 0, 1) := by decide +kernel
theorem t_X11_most_5 : decode prog_1_method_29_code 5 = .ok (.getfield 10, 3) := by decide +kernel
theorem t_X11_most_8 : decode prog_1_method_29_code 8 = .ok (.aload_n 0, 1) := by decide +kernel
theorem t_X11_most_9 : decode prog_1_method_29_code 9 = .ok (.getfield 93, 3) := by decide +kernel
theorem t_X11_most_12 : decode prog_1_method_29_code 12 = .ok (.aload_n 0, 1) := by decide +kernel
theorem t_X11_most_13 : decode prog_1_method_29_code 13 = .ok (.getfield 112, 3) := by decide +kernel
theorem t_X11_most_16 : decode prog_1_method_29_code 16 = .ok (.invokevirtual 295, 3) := by decide +kernel
theorem t_X11_most_19 : decode prog_1_method_29_code 19 = .ok (.istore_n 1, 1) := by decide +kernel
theorem t_X11_most_20 : decode prog_1_method_29_code 20 = .ok (.iload_n 1, 1) := by decide +kernel
theorem t_X11_most_21 : decode prog_1_method_29_code 21 = .ok (.iconst (-1), 1) := by decide +kernel
theorem t_X11_most_22 : decode prog_1_method_29_code 22 = .ok (.if_icmp .ne 6, 3) := by decide +kernel
theorem t_X11_most_25 : decode prog_1_method_29_code 25 = .ok (.bipush (-2), 2) := by decide +kernel
theorem t_X11_most_27 : decode prog_1_method_29_code 27 = .ok (.ireturn, 1) := by decide +kernel
theorem t_X11_most_28 : decode prog_1_method_29_code 28 = .ok (.aload_n 0, 1) := by decide +kernel
theorem t_X11_most_29 : decode prog_1_method_29_code 29 = .ok (.getfield 47, 3) := by decide +kernel
theorem t_X11_most_32 : decode prog_1_method_29_code 32 = .ok (.iload_n 1, 1) := by decide +kernel
theorem t_X11_most_33 : decode prog_1_method_29_code 33 = .ok (.i2l, 1) := by decide +kernel
theorem t_X11_most_34 : decode prog_1_method_29_code 34 = .ok (.invokevirtual 292, 3) := by decide +kernel
theorem t_X11_most_37 : decode prog_1_method_29_code 37 = .ok (.aload_n 0, 1) := by decide +kernel
theorem t_X11_most_38 : decode prog_1_method_29_code 38 = .ok (.getfield 61, 3) := by decide +kernel
theorem t_X11_most_41 : decode prog_1_method_29_code 41 = .ok (.getfield 299, 3) := by decide +kernel
theorem t_X11_most_44 : decode prog_1_method_29_code 44 = .ok (.ireturn, 1) := by decide +kernel
def y_X11_chain : MethodName := ⟨"SowingBoards", "chain", "()I"⟩
theorem t_X11_chain_0 : decode prog_1_method_30_code 0 = .ok (.aload_n 0, 1) := by decide +kernel
theorem t_X11_chain_1 : decode prog_1_method_30_code 1 = .ok (.getfield 10, 3) := by decide +kernel
theorem t_X11_chain_4 : decode prog_1_method_30_code 4 = .ok (.invokevirtual 245, 3) := by decide +kernel
theorem t_X11_chain_7 : decode prog_1_method_30_code 7 = .ok (.ifCond .eq 6, 3) := by decide +kernel
theorem t_X11_chain_10 : decode prog_1_method_30_code 10 = .ok (.bipush (-2), 2) := by decide +kernel
theorem t_X11_chain_12 : decode prog_1_method_30_code 12 = .ok (.ireturn, 1) := by decide +kernel
theorem t_X11_chain_13 : decode prog_1_method_30_code 13 = .ok (.iconst (-1), 1) := by decide +kernel
theorem t_X11_chain_14 : decode prog_1_method_30_code 14 = .ok (.istore_n 1, 1) := by decide +kernel
theorem t_X11_chain_15 : decode prog_1_method_30_code 15 = .ok (.aload_n 0, 1) := by decide +kernel
theorem t_X11_chain_16 : decode prog_1_method_30_code 16 = .ok (.getfield 68, 3) := by decide +kernel
theorem t_X11_chain_19 : decode prog_1_method_30_code 19 = .ok (.aload_n 0, 1) := by decide +kernel
theorem t_X11_chain_20 : decode prog_1_method_30_code 20 = .ok (.getfield 10, 3) := by decide +kernel
theorem t_X11_chain_23 : decode prog_1_method_30_code 23 = .ok (.bipush 6, 2) := by decide +kernel
theorem t_X11_chain_25 : decode prog_1_method_30_code 25 = .ok (.iconst 1, 1) := by decide +kernel
theorem t_X11_chain_26 : decode prog_1_method_30_code 26 = .ok (.aload_n 0, 1) := by decide +kernel
theorem t_X11_chain_27 : decode prog_1_method_30_code 27 = .ok (.getfield 112, 3) := by decide +kernel
theorem t_X11_chain_30 : decode prog_1_method_30_code 30 = .ok (.invokevirtual 302, 3) := by decide +kernel
theorem t_X11_chain_33 : decode prog_1_method_30_code 33 = .ok (.iconst 0, 1) := by decide +kernel
theorem t_X11_chain_34 : decode prog_1_method_30_code 34 = .ok (.istore_n 2, 1) := by decide +kernel
theorem t_X11_chain_35 : decode prog_1_method_30_code 35 = .ok (.iload_n 2, 1) := by decide +kernel
theorem t_X11_chain_36 : decode prog_1_method_30_code 36 = .ok (.ldc_w 306, 3) := by decide +kernel
theorem t_X11_chain_39 : decode prog_1_method_30_code 39 = .ok (.if_icmp .ge 72, 3) := by decide +kernel
theorem t_X11_chain_42 : decode prog_1_method_30_code 42 = .ok (.aload_n 0, 1) := by decide +kernel
theorem t_X11_chain_43 : decode prog_1_method_30_code 43 = .ok (.getfield 68, 3) := by decide +kernel
theorem t_X11_chain_46 : decode prog_1_method_30_code 46 = .ok (.invokevirtual 307, 3) := by decide +kernel
theorem t_X11_chain_49 : decode prog_1_method_30_code 49 = .ok (.ifCond .eq 62, 3) := by decide +kernel
theorem t_X11_chain_52 : decode prog_1_method_30_code 52 = .ok (.aload_n 0, 1) := by decide +kernel
theorem t_X11_chain_53 : decode prog_1_method_30_code 53 = .ok (.getfield 68, 3) := by decide +kernel
theorem t_X11_chain_56 : decode prog_1_method_30_code 56 = .ok (.invokevirtual 310, 3) := by decide +kernel
theorem t_X11_chain_59 : decode prog_1_method_30_code 59 = .ok (.getfield 155, 3) := by decide +kernel
theorem t_X11_chain_62 : decode prog_1_method_30_code 62 = .ok (.aload_n 0, 1) := by decide +kernel
theorem t_X11_chain_63 : decode prog_1_method_30_code 63 = .ok (.getfield 10, 3) := by decide +kernel
theorem t_X11_chain_66 : decode prog_1_method_30_code 66 = .ok (.getfield 158, 3) := by decide +kernel
theorem t_X11_chain_69 : decode prog_1_method_30_code 69 = .ok (.iaload, 1) := by decide +kernel
theorem t_X11_chain_70 : decode prog_1_method_30_code 70 = .ok (.aload_n 0, 1) := by decide +kernel
theorem t_X11_chain_71 : decode prog_1_method_30_code 71 = .ok (.getfield 10, 3) := by decide +kernel
theorem t_X11_chain_74 : decode prog_1_method_30_code 74 = .ok (.getfield 155, 3) := by decide +kernel
theorem t_X11_chain_77 : decode prog_1_method_30_code 77 = .ok (.aload_n 0, 1) := by decide +kernel
theorem t_X11_chain_78 : decode prog_1_method_30_code 78 = .ok (.getfield 10, 3) := by decide +kernel
theorem t_X11_chain_81 : decode prog_1_method_30_code 81 = .ok (.getfield 158, 3) := by decide +kernel
theorem t_X11_chain_84 : decode prog_1_method_30_code 84 = .ok (.iaload, 1) := by decide +kernel
theorem t_X11_chain_85 : decode prog_1_method_30_code 85 = .ok (.isub, 1) := by decide +kernel
theorem t_X11_chain_86 : decode prog_1_method_30_code 86 = .ok (.istore_n 3, 1) := by decide +kernel
theorem t_X11_chain_87 : decode prog_1_method_30_code 87 = .ok (.iload_n 3, 1) := by decide +kernel
theorem t_X11_chain_88 : decode prog_1_method_30_code 88 = .ok (.iload_n 1, 1) := by decide +kernel
theorem t_X11_chain_89 : decode prog_1_method_30_code 89 = .ok (.if_icmp .le 16, 3) := by decide +kernel
theorem t_X11_chain_92 : decode prog_1_method_30_code 92 = .ok (.iload_n 3, 1) := by decide +kernel
theorem t_X11_chain_93 : decode prog_1_method_30_code 93 = .ok (.istore_n 1, 1) := by decide +kernel
theorem t_X11_chain_94 : decode prog_1_method_30_code 94 = .ok (.aload_n 0, 1) := by decide +kernel
theorem t_X11_chain_95 : decode prog_1_method_30_code 95 = .ok (.getfield 68, 3) := by decide +kernel
theorem t_X11_chain_98 : decode prog_1_method_30_code 98 = .ok (.aload_n 0, 1) := by decide +kernel
theorem t_X11_chain_99 : decode prog_1_method_30_code 99 = .ok (.getfield 47, 3) := by decide +kernel
theorem t_X11_chain_102 : decode prog_1_method_30_code 102 = .ok (.invokevirtual 314, 3) := by decide +kernel
theorem t_X11_chain_105 : decode prog_1_method_30_code 105 = .ok (.iinc 2 1, 3) := by decide +kernel
theorem t_X11_chain_108 : decode prog_1_method_30_code 108 = .ok (.goto (-73), 3) := by decide +kernel
theorem t_X11_chain_111 : decode prog_1_method_30_code 111 = .ok (.iload_n 1, 1) := by decide +kernel
theorem t_X11_chain_112 : decode prog_1_method_30_code 112 = .ok (.ireturn, 1) := by decide +kernel
def y_X11_longest : MethodName := ⟨"SowingBoards", "longest", "()I"⟩
theorem t_X11_longest_0 : decode prog_1_method_31_code 0 = .ok (.aload_n 0, 1) := by decide +kernel
theorem t_X11_longest_1 : decode prog_1_method_31_code 1 = .ok (.getfield 10, 3) := by decide +kernel
theorem t_X11_longest_4 : decode prog_1_method_31_code 4 = .ok (.invokevirtual 245, 3) := by decide +kernel
theorem t_X11_longest_7 : decode prog_1_method_31_code 7 = .ok (.ifCond .eq 6, 3) := by decide +kernel
theorem t_X11_longest_10 : decode prog_1_method_31_code 10 = .ok (.bipush (-2), 2) := by decide +kernel
theorem t_X11_longest_12 : decode prog_1_method_31_code 12 = .ok (.ireturn, 1) := by decide +kernel
theorem t_X11_longest_13 : decode prog_1_method_31_code 13 = .ok (.iconst 0, 1) := by decide +kernel
theorem t_X11_longest_14 : decode prog_1_method_31_code 14 = .ok (.istore_n 1, 1) := by decide +kernel
theorem t_X11_longest_15 : decode prog_1_method_31_code 15 = .ok (.aload_n 0, 1) := by decide +kernel
theorem t_X11_longest_16 : decode prog_1_method_31_code 16 = .ok (.getfield 68, 3) := by decide +kernel
theorem t_X11_longest_19 : decode prog_1_method_31_code 19 = .ok (.aload_n 0, 1) := by decide +kernel
theorem t_X11_longest_20 : decode prog_1_method_31_code 20 = .ok (.getfield 10, 3) := by decide +kernel
theorem t_X11_longest_23 : decode prog_1_method_31_code 23 = .ok (.bipush 6, 2) := by decide +kernel
theorem t_X11_longest_25 : decode prog_1_method_31_code 25 = .ok (.iconst 1, 1) := by decide +kernel
theorem t_X11_longest_26 : decode prog_1_method_31_code 26 = .ok (.aload_n 0, 1) := by decide +kernel
theorem t_X11_longest_27 : decode prog_1_method_31_code 27 = .ok (.getfield 112, 3) := by decide +kernel
theorem t_X11_longest_30 : decode prog_1_method_31_code 30 = .ok (.invokevirtual 302, 3) := by decide +kernel
theorem t_X11_longest_33 : decode prog_1_method_31_code 33 = .ok (.iconst 0, 1) := by decide +kernel
theorem t_X11_longest_34 : decode prog_1_method_31_code 34 = .ok (.istore_n 2, 1) := by decide +kernel
theorem t_X11_longest_35 : decode prog_1_method_31_code 35 = .ok (.iload_n 2, 1) := by decide +kernel
theorem t_X11_longest_36 : decode prog_1_method_31_code 36 = .ok (.ldc_w 306, 3) := by decide +kernel
theorem t_X11_longest_39 : decode prog_1_method_31_code 39 = .ok (.if_icmp .ge 49, 3) := by decide +kernel
theorem t_X11_longest_42 : decode prog_1_method_31_code 42 = .ok (.aload_n 0, 1) := by decide +kernel
theorem t_X11_longest_43 : decode prog_1_method_31_code 43 = .ok (.getfield 68, 3) := by decide +kernel
theorem t_X11_longest_46 : decode prog_1_method_31_code 46 = .ok (.invokevirtual 307, 3) := by decide +kernel
theorem t_X11_longest_49 : decode prog_1_method_31_code 49 = .ok (.ifCond .eq 39, 3) := by decide +kernel
theorem t_X11_longest_52 : decode prog_1_method_31_code 52 = .ok (.aload_n 0, 1) := by decide +kernel
theorem t_X11_longest_53 : decode prog_1_method_31_code 53 = .ok (.getfield 68, 3) := by decide +kernel
theorem t_X11_longest_56 : decode prog_1_method_31_code 56 = .ok (.getfield 318, 3) := by decide +kernel
theorem t_X11_longest_59 : decode prog_1_method_31_code 59 = .ok (.iload_n 1, 1) := by decide +kernel
theorem t_X11_longest_60 : decode prog_1_method_31_code 60 = .ok (.if_icmp .le 22, 3) := by decide +kernel
theorem t_X11_longest_63 : decode prog_1_method_31_code 63 = .ok (.aload_n 0, 1) := by decide +kernel
theorem t_X11_longest_64 : decode prog_1_method_31_code 64 = .ok (.getfield 68, 3) := by decide +kernel
theorem t_X11_longest_67 : decode prog_1_method_31_code 67 = .ok (.getfield 318, 3) := by decide +kernel
theorem t_X11_longest_70 : decode prog_1_method_31_code 70 = .ok (.istore_n 1, 1) := by decide +kernel
theorem t_X11_longest_71 : decode prog_1_method_31_code 71 = .ok (.aload_n 0, 1) := by decide +kernel
theorem t_X11_longest_72 : decode prog_1_method_31_code 72 = .ok (.getfield 68, 3) := by decide +kernel
theorem t_X11_longest_75 : decode prog_1_method_31_code 75 = .ok (.aload_n 0, 1) := by decide +kernel
theorem t_X11_longest_76 : decode prog_1_method_31_code 76 = .ok (.getfield 47, 3) := by decide +kernel
theorem t_X11_longest_79 : decode prog_1_method_31_code 79 = .ok (.invokevirtual 314, 3) := by decide +kernel
theorem t_X11_longest_82 : decode prog_1_method_31_code 82 = .ok (.iinc 2 1, 3) := by decide +kernel
theorem t_X11_longest_85 : decode prog_1_method_31_code 85 = .ok (.goto (-50), 3) := by decide +kernel
theorem t_X11_longest_88 : decode prog_1_method_31_code 88 = .ok (.iload_n 1, 1) := by decide +kernel
theorem t_X11_longest_89 : decode prog_1_method_31_code 89 = .ok (.ireturn, 1) := by decide +kernel
def y_X11_threat : MethodName := ⟨"SowingBoards", "threat", "()I"⟩
theorem t_X11_threat_0 : decode prog_1_method_32_code 0 = .ok (.aload_n 0, 1) := by decide +kernel
theorem t_X11_threat_1 : decode prog_1_method_32_code 1 = .ok (.getfield 19, 3) := by decide +kernel
theorem t_X11_threat_4 : decode prog_1_method_32_code 4 = .ok (.aload_n 0, 1) := by decide +kernel
theorem t_X11_threat_5 : decode prog_1_method_32_code 5 = .ok (.getfield 10, 3) := by decide +kernel
theorem t_X11_threat_8 : decode prog_1_method_32_code 8 = .ok (.invokevirtual 269, 3) := by decide +kernel
theorem t_X11_threat_11 : decode prog_1_method_32_code 11 = .ok (.aload_n 0, 1) := by decide +kernel
theorem t_X11_threat_12 : decode prog_1_method_32_code 12 = .ok (.getfield 19, 3) := by decide +kernel
theorem t_X11_threat_15 : decode prog_1_method_32_code 15 = .ok (.invokevirtual 260, 3) := by decide +kernel
theorem t_X11_threat_18 : decode prog_1_method_32_code 18 = .ok (.aload_n 0, 1) := by decide +kernel
theorem t_X11_threat_19 : decode prog_1_method_32_code 19 = .ok (.getfield 61, 3) := by decide +kernel
theorem t_X11_threat_22 : decode prog_1_method_32_code 22 = .ok (.aload_n 0, 1) := by decide +kernel
theorem t_X11_threat_23 : decode prog_1_method_32_code 23 = .ok (.getfield 19, 3) := by decide +kernel
theorem t_X11_threat_26 : decode prog_1_method_32_code 26 = .ok (.aload_n 0, 1) := by decide +kernel
theorem t_X11_threat_27 : decode prog_1_method_32_code 27 = .ok (.getfield 93, 3) := by decide +kernel
theorem t_X11_threat_30 : decode prog_1_method_32_code 30 = .ok (.aload_n 0, 1) := by decide +kernel
theorem t_X11_threat_31 : decode prog_1_method_32_code 31 = .ok (.getfield 112, 3) := by decide +kernel
theorem t_X11_threat_34 : decode prog_1_method_32_code 34 = .ok (.invokevirtual 295, 3) := by decide +kernel
theorem t_X11_threat_37 : decode prog_1_method_32_code 37 = .ok (.istore_n 1, 1) := by decide +kernel
theorem t_X11_threat_38 : decode prog_1_method_32_code 38 = .ok (.aload_n 0, 1) := by decide +kernel
theorem t_X11_threat_39 : decode prog_1_method_32_code 39 = .ok (.getfield 47, 3) := by decide +kernel
theorem t_X11_threat_42 : decode prog_1_method_32_code 42 = .ok (.invokevirtual 321, 3) := by decide +kernel
theorem t_X11_threat_45 : decode prog_1_method_32_code 45 = .ok (.iload_n 1, 1) := by decide +kernel
theorem t_X11_threat_46 : decode prog_1_method_32_code 46 = .ok (.iconst (-1), 1) := by decide +kernel
theorem t_X11_threat_47 : decode prog_1_method_32_code 47 = .ok (.if_icmp .eq 12, 3) := by decide +kernel
theorem t_X11_threat_50 : decode prog_1_method_32_code 50 = .ok (.aload_n 0, 1) := by decide +kernel
theorem t_X11_threat_51 : decode prog_1_method_32_code 51 = .ok (.getfield 47, 3) := by decide +kernel
theorem t_X11_threat_54 : decode prog_1_method_32_code 54 = .ok (.iload_n 1, 1) := by decide +kernel
theorem t_X11_threat_55 : decode prog_1_method_32_code 55 = .ok (.i2l, 1) := by decide +kernel
theorem t_X11_threat_56 : decode prog_1_method_32_code 56 = .ok (.invokevirtual 322, 3) := by decide +kernel
theorem t_X11_threat_59 : decode prog_1_method_32_code 59 = .ok (.aload_n 0, 1) := by decide +kernel
theorem t_X11_threat_60 : decode prog_1_method_32_code 60 = .ok (.getfield 61, 3) := by decide +kernel
theorem t_X11_threat_63 : decode prog_1_method_32_code 63 = .ok (.getfield 299, 3) := by decide +kernel
theorem t_X11_threat_66 : decode prog_1_method_32_code 66 = .ok (.ireturn, 1) := by decide +kernel
theorem fl_11_10 : FLk "SowingBoards" 10 11 0 := ⟨_, rfl, by decide, Or.inl (vtb_at 475 (by decide +kernel) rfl)⟩
theorem fl_11_16 : FLk "SowingBoards" 16 11 1 := ⟨_, rfl, by decide, Or.inl (vtb_at 476 (by decide +kernel) rfl)⟩
theorem fl_11_19 : FLk "SowingBoards" 19 11 2 := ⟨_, rfl, by decide, Or.inl (vtb_at 477 (by decide +kernel) rfl)⟩
theorem fl_11_26 : FLk "SowingBoards" 26 11 4 := ⟨_, rfl, by decide, Or.inl (vtb_at 479 (by decide +kernel) rfl)⟩
theorem fl_11_33 : FLk "SowingBoards" 33 11 5 := ⟨_, rfl, by decide, Or.inl (vtb_at 480 (by decide +kernel) rfl)⟩
theorem fl_11_40 : FLk "SowingBoards" 40 11 6 := ⟨_, rfl, by decide, Or.inl (vtb_at 481 (by decide +kernel) rfl)⟩
theorem fl_11_47 : FLk "SowingBoards" 47 11 7 := ⟨_, rfl, by decide, Or.inl (vtb_at 482 (by decide +kernel) rfl)⟩
theorem fl_11_54 : FLk "SowingBoards" 54 11 8 := ⟨_, rfl, by decide, Or.inl (vtb_at 483 (by decide +kernel) rfl)⟩
theorem fl_11_61 : FLk "SowingBoards" 61 11 9 := ⟨_, rfl, by decide, Or.inl (vtb_at 484 (by decide +kernel) rfl)⟩
theorem fl_11_68 : FLk "SowingBoards" 68 11 10 := ⟨_, rfl, by decide, Or.inl (vtb_at 485 (by decide +kernel) rfl)⟩
theorem fl_11_82 : FLk "SowingBoards" 82 11 12 := ⟨_, rfl, by decide, Or.inl (vtb_at 487 (by decide +kernel) rfl)⟩
theorem fl_11_89 : FLk "SowingBoards" 89 11 13 := ⟨_, rfl, by decide, Or.inl (vtb_at 488 (by decide +kernel) rfl)⟩
theorem fl_11_93 : FLk "SowingBoards" 93 11 14 := ⟨_, rfl, by decide, Or.inl (vtb_at 489 (by decide +kernel) rfl)⟩
theorem fl_11_112 : FLk "SowingBoards" 112 11 18 := ⟨_, rfl, by decide, Or.inl (vtb_at 493 (by decide +kernel) rfl)⟩
theorem fl_11_120 : FLk "SowingBoards" 120 5 0 := ⟨_, rfl, by decide, Or.inr ⟨"SowingBoards", vnl_at 181 (by decide +kernel) rfl⟩⟩
theorem fl_11_130 : FLk "SowingBoards" 130 9 1 := ⟨_, rfl, by decide, Or.inr ⟨"SowingBoards", vnl_at 243 (by decide +kernel) rfl⟩⟩
theorem fl_11_152 : FLk "SowingBoards" 152 5 2 := ⟨_, rfl, by decide, Or.inr ⟨"SowingBoards", vnl_at 193 (by decide +kernel) rfl⟩⟩
theorem fl_11_155 : FLk "SowingBoards" 155 5 1 := ⟨_, rfl, by decide, Or.inr ⟨"SowingBoards", vnl_at 187 (by decide +kernel) rfl⟩⟩
theorem fl_11_158 : FLk "SowingBoards" 158 5 3 := ⟨_, rfl, by decide, Or.inr ⟨"SowingBoards", vnl_at 198 (by decide +kernel) rfl⟩⟩
theorem fl_11_161 : FLk "SowingBoards" 161 5 4 := ⟨_, rfl, by decide, Or.inr ⟨"SowingBoards", vnl_at 200 (by decide +kernel) rfl⟩⟩
theorem fl_11_187 : FLk "SowingBoards" 187 7 2 := ⟨_, rfl, by decide, Or.inr ⟨"SowingBoards", vnl_at 416 (by decide +kernel) rfl⟩⟩
theorem fl_11_229 : FLk "SowingBoards" 229 1 5 := ⟨_, rfl, by decide, Or.inr ⟨"SowingBoards", vnl_at 283 (by decide +kernel) rfl⟩⟩
theorem fl_11_232 : FLk "SowingBoards" 232 1 6 := ⟨_, rfl, by decide, Or.inr ⟨"SowingBoards", vnl_at 285 (by decide +kernel) rfl⟩⟩
theorem fl_11_239 : FLk "SowingBoards" 239 1 4 := ⟨_, rfl, by decide, Or.inr ⟨"SowingBoards", vnl_at 280 (by decide +kernel) rfl⟩⟩
theorem fl_11_281 : FLk "SowingBoards" 281 0 2 := ⟨_, rfl, by decide, Or.inr ⟨"SowingBoards", vnl_at 226 (by decide +kernel) rfl⟩⟩
theorem fl_11_299 : FLk "SowingBoards" 299 4 2 := ⟨_, rfl, by decide, Or.inr ⟨"SowingBoards", vnl_at 327 (by decide +kernel) rfl⟩⟩
theorem fl_11_318 : FLk "SowingBoards" 318 10 5 := ⟨_, rfl, by decide, Or.inr ⟨"SowingBoards", vnl_at 353 (by decide +kernel) rfl⟩⟩
theorem fp_11_18 : FPk 11 18 "I" := ⟨_, rfl, rfl, rfl⟩
theorem cc_11_306 : Cond.constant "SowingBoards" 306 1000000 ∈ vtb := vtb_at 952 (by decide +kernel) rfl
theorem my_X9_addFour : MY y_X9_addFour prog_11_method_2_code 3 (some .boolean) 1 := ⟨vtb_at 540 (by decide +kernel) rfl, vtb_at 142 (by decide +kernel) rfl, ⟨by decide, by decide, by decide +kernel⟩, by decide⟩
theorem mi_X9_addFour : MI y_X9_addFour := ⟨vtb_at 539 (by decide +kernel) rfl, vtb_at 3 (by decide +kernel) rfl⟩
theorem my_X9_cut : MY y_X9_cut prog_11_method_3_code 2 (some .boolean) 1 := ⟨vtb_at 548 (by decide +kernel) rfl, vtb_at 142 (by decide +kernel) rfl, ⟨by decide, by decide, by decide +kernel⟩, by decide⟩
theorem mi_X9_cut : MI y_X9_cut := ⟨vtb_at 547 (by decide +kernel) rfl, vtb_at 4 (by decide +kernel) rfl⟩
theorem my_X9_digitAt : MY y_X9_digitAt prog_11_method_6_code 3 (some .int) 1 := ⟨vtb_at 560 (by decide +kernel) rfl, vtb_at 142 (by decide +kernel) rfl, ⟨by decide, by decide, by decide +kernel⟩, by decide⟩
theorem mi_X9_digitAt : MI y_X9_digitAt := ⟨vtb_at 559 (by decide +kernel) rfl, vtb_at 6 (by decide +kernel) rfl⟩
theorem my_X5_pits : MY y_X5_pits prog_7_method_3_code 1 (some .int) 0 := ⟨vtb_at 466 (by decide +kernel) rfl, vtb_at 140 (by decide +kernel) rfl, ⟨by decide, by decide, by decide +kernel⟩, by decide⟩
theorem mi_X5_pits : MI y_X5_pits := ⟨vtb_at 465 (by decide +kernel) rfl, vtb_at 0 (by decide +kernel) rfl⟩
theorem my_X0_clear : MY y_X0_clear prog_2_method_4_code 1 none 0 := ⟨vtb_at 572 (by decide +kernel) rfl, vtb_at 141 (by decide +kernel) rfl, ⟨by decide, by decide, by decide +kernel⟩, by decide⟩
theorem mi_X0_clear : MI y_X0_clear := ⟨vtb_at 571 (by decide +kernel) rfl, vtb_at 9 (by decide +kernel) rfl⟩
theorem my_X11_wrongInBoard : MY y_X11_wrongInBoard prog_1_method_5_code 4 (some .int) 0 := ⟨vtb_at 556 (by decide +kernel) rfl, vtb_at 139 (by decide +kernel) rfl, ⟨by decide, by decide, by decide +kernel⟩, by decide⟩
theorem mi_X11_wrongInBoard : MI y_X11_wrongInBoard := ⟨vtb_at 555 (by decide +kernel) rfl, vtb_at 5 (by decide +kernel) rfl⟩
theorem my_X9_clear : MY y_X9_clear prog_11_method_4_code 1 none 0 := ⟨vtb_at 576 (by decide +kernel) rfl, vtb_at 142 (by decide +kernel) rfl, ⟨by decide, by decide, by decide +kernel⟩, by decide⟩
theorem mi_X9_clear : MI y_X9_clear := ⟨vtb_at 575 (by decide +kernel) rfl, vtb_at 10 (by decide +kernel) rfl⟩
theorem my_X5_inPits : MY y_X5_inPits prog_7_method_8_code 1 (some .int) 0 := ⟨vtb_at 580 (by decide +kernel) rfl, vtb_at 140 (by decide +kernel) rfl, ⟨by decide, by decide, by decide +kernel⟩, by decide⟩
theorem mi_X5_inPits : MI y_X5_inPits := ⟨vtb_at 579 (by decide +kernel) rfl, vtb_at 11 (by decide +kernel) rfl⟩
theorem my_X11_setBoard : MY y_X11_setBoard prog_1_method_6_code 2 none 0 := ⟨vtb_at 568 (by decide +kernel) rfl, vtb_at 139 (by decide +kernel) rfl, ⟨by decide, by decide, by decide +kernel⟩, by decide⟩
theorem mi_X11_setBoard : MI y_X11_setBoard := ⟨vtb_at 567 (by decide +kernel) rfl, vtb_at 8 (by decide +kernel) rfl⟩
theorem my_X11_readLaws : MY y_X11_readLaws prog_1_method_8_code 5 (some .int) 0 := ⟨vtb_at 592 (by decide +kernel) rfl, vtb_at 139 (by decide +kernel) rfl, ⟨by decide, by decide, by decide +kernel⟩, by decide⟩
theorem mi_X11_readLaws : MI y_X11_readLaws := ⟨vtb_at 591 (by decide +kernel) rfl, vtb_at 13 (by decide +kernel) rfl⟩
theorem my_J6_bitCount_0f7a4 : MY y_J6_bitCount_0f7a4 prog_20_method_49_code 1 (some .int) 1 := ⟨vtb_at 681 (by decide +kernel) rfl, vtb_at 159 (by decide +kernel) rfl, ⟨by decide, by decide, by decide +kernel⟩, by decide⟩
theorem ms_J6_bitCount_0f7a4 : Cond.static y_J6_bitCount_0f7a4 ∈ vtb := vtb_at 680 (by decide +kernel) rfl
theorem my_X7_read : MY y_X7_read prog_9_method_2_code 3 (some .int) 1 := ⟨vtb_at 693 (by decide +kernel) rfl, vtb_at 148 (by decide +kernel) rfl, ⟨by decide, by decide, by decide +kernel⟩, by decide⟩
theorem mi_X7_read : MI y_X7_read := ⟨vtb_at 692 (by decide +kernel) rfl, vtb_at 14 (by decide +kernel) rfl⟩
theorem my_X6_take : MY y_X6_take prog_8_method_3_code 2 none 1 := ⟨vtb_at 739 (by decide +kernel) rfl, vtb_at 149 (by decide +kernel) rfl, ⟨by decide, by decide, by decide +kernel⟩, by decide⟩
theorem mi_X6_take : MI y_X6_take := ⟨vtb_at 738 (by decide +kernel) rfl, vtb_at 23 (by decide +kernel) rfl⟩
theorem my_X11_entry : MY y_X11_entry prog_1_method_13_code 3 (some .int) 2 := ⟨vtb_at 749 (by decide +kernel) rfl, vtb_at 139 (by decide +kernel) rfl, ⟨by decide, by decide, by decide +kernel⟩, by decide⟩
theorem ms_X11_entry : Cond.static y_X11_entry ∈ vtb := vtb_at 748 (by decide +kernel) rfl
theorem my_X11_refusal : MY y_X11_refusal prog_1_method_15_code 2 (some .int) 1 := ⟨vtb_at 759 (by decide +kernel) rfl, vtb_at 139 (by decide +kernel) rfl, ⟨by decide, by decide, by decide +kernel⟩, by decide⟩
theorem mi_X11_refusal : MI y_X11_refusal := ⟨vtb_at 758 (by decide +kernel) rfl, vtb_at 24 (by decide +kernel) rfl⟩
theorem my_X0_push : MY y_X0_push prog_2_method_2_code 2 none 1 := ⟨vtb_at 767 (by decide +kernel) rfl, vtb_at 141 (by decide +kernel) rfl, ⟨by decide, by decide, by decide +kernel⟩, by decide⟩
theorem mi_X0_push : MI y_X0_push := ⟨vtb_at 766 (by decide +kernel) rfl, vtb_at 26 (by decide +kernel) rfl⟩
theorem my_X3_tell__ : MY y_X3_tell__ prog_5_method_6_code 7 none 3 := ⟨vtb_at 823 (by decide +kernel) rfl, vtb_at 143 (by decide +kernel) rfl, ⟨by decide, by decide, by decide +kernel⟩, by decide⟩
theorem mi_X3_tell__ : MI y_X3_tell__ := ⟨vtb_at 822 (by decide +kernel) rfl, vtb_at 39 (by decide +kernel) rfl⟩
theorem my_X4_play : MY y_X4_play prog_6_method_3_code 4 (some .boolean) 3 := ⟨vtb_at 855 (by decide +kernel) rfl, vtb_at 145 (by decide +kernel) rfl, ⟨by decide, by decide, by decide +kernel⟩, by decide⟩
theorem mi_X4_play : MI y_X4_play := ⟨vtb_at 854 (by decide +kernel) rfl, vtb_at 46 (by decide +kernel) rfl⟩
theorem my_X11_playOn : MY y_X11_playOn prog_1_method_17_code 4 (some .int) 2 := ⟨vtb_at 851 (by decide +kernel) rfl, vtb_at 139 (by decide +kernel) rfl, ⟨by decide, by decide, by decide +kernel⟩, by decide⟩
theorem mi_X11_playOn : MI y_X11_playOn := ⟨vtb_at 850 (by decide +kernel) rfl, vtb_at 45 (by decide +kernel) rfl⟩
theorem my_X5_hasPit : MY y_X5_hasPit prog_7_method_4_code 2 (some .boolean) 1 := ⟨vtb_at 886 (by decide +kernel) rfl, vtb_at 140 (by decide +kernel) rfl, ⟨by decide, by decide, by decide +kernel⟩, by decide⟩
theorem mi_X5_hasPit : MI y_X5_hasPit := ⟨vtb_at 885 (by decide +kernel) rfl, vtb_at 49 (by decide +kernel) rfl⟩
theorem my_X5_inAll : MY y_X5_inAll prog_7_method_9_code 1 (some .int) 0 := ⟨vtb_at 890 (by decide +kernel) rfl, vtb_at 140 (by decide +kernel) rfl, ⟨by decide, by decide, by decide +kernel⟩, by decide⟩
theorem mi_X5_inAll : MI y_X5_inAll := ⟨vtb_at 889 (by decide +kernel) rfl, vtb_at 50 (by decide +kernel) rfl⟩
theorem my_X11_isAct : MY y_X11_isAct prog_1_method_22_code 1 (some .boolean) 1 := ⟨vtb_at 905 (by decide +kernel) rfl, vtb_at 139 (by decide +kernel) rfl, ⟨by decide, by decide, by decide +kernel⟩, by decide⟩
theorem ms_X11_isAct : Cond.static y_X11_isAct ∈ vtb := vtb_at 904 (by decide +kernel) rfl
theorem my_X11_wrongInGame : MY y_X11_wrongInGame prog_1_method_21_code 2 (some .int) 0 := ⟨vtb_at 902 (by decide +kernel) rfl, vtb_at 139 (by decide +kernel) rfl, ⟨by decide, by decide, by decide +kernel⟩, by decide⟩
theorem mi_X11_wrongInGame : MI y_X11_wrongInGame := ⟨vtb_at 901 (by decide +kernel) rfl, vtb_at 52 (by decide +kernel) rfl⟩
theorem my_X11_doAct : MY y_X11_doAct prog_1_method_23_code 2 (some .boolean) 1 := ⟨vtb_at 910 (by decide +kernel) rfl, vtb_at 139 (by decide +kernel) rfl, ⟨by decide, by decide, by decide +kernel⟩, by decide⟩
theorem mi_X11_doAct : MI y_X11_doAct := ⟨vtb_at 909 (by decide +kernel) rfl, vtb_at 53 (by decide +kernel) rfl⟩
theorem my_X0_pop : MY y_X0_pop prog_2_method_3_code 2 (some .boolean) 1 := ⟨vtb_at 918 (by decide +kernel) rfl, vtb_at 141 (by decide +kernel) rfl, ⟨by decide, by decide, by decide +kernel⟩, by decide⟩
theorem mi_X0_pop : MI y_X0_pop := ⟨vtb_at 917 (by decide +kernel) rfl, vtb_at 54 (by decide +kernel) rfl⟩
theorem my_X11_tryMove : MY y_X11_tryMove prog_1_method_26_code 3 (some .boolean) 2 := ⟨vtb_at 926 (by decide +kernel) rfl, vtb_at 139 (by decide +kernel) rfl, ⟨by decide, by decide, by decide +kernel⟩, by decide⟩
theorem mi_X11_tryMove : MI y_X11_tryMove := ⟨vtb_at 925 (by decide +kernel) rfl, vtb_at 55 (by decide +kernel) rfl⟩
theorem my_X10_step : MY y_X10_step prog_12_method_4_code 2 (some .boolean) 0 := ⟨vtb_at 956 (by decide +kernel) rfl, vtb_at 146 (by decide +kernel) rfl, ⟨by decide, by decide, by decide +kernel⟩, by decide⟩
theorem mi_X10_step : MI y_X10_step := ⟨vtb_at 955 (by decide +kernel) rfl, vtb_at 57 (by decide +kernel) rfl⟩
theorem my_X10_tellPath : MY y_X10_tellPath prog_12_method_8_code 3 none 1 := ⟨vtb_at 971 (by decide +kernel) rfl, vtb_at 146 (by decide +kernel) rfl, ⟨by decide, by decide, by decide +kernel⟩, by decide⟩
theorem mi_X10_tellPath : MI y_X10_tellPath := ⟨vtb_at 970 (by decide +kernel) rfl, vtb_at 60 (by decide +kernel) rfl⟩
theorem ml_11_116 : ML "SowingBoards" 116 y_X5_pits := Or.inr ⟨"SowingBoards", vnl_at 463 (by decide +kernel) rfl⟩
theorem ml_11_126 : ML "SowingBoards" 126 y_X9_addFour := Or.inr ⟨"SowingBoards", vnl_at 537 (by decide +kernel) rfl⟩
theorem ml_11_133 : ML "SowingBoards" 133 y_X9_cut := Or.inr ⟨"SowingBoards", vnl_at 545 (by decide +kernel) rfl⟩
theorem ml_11_136 : ML "SowingBoards" 136 y_X11_wrongInBoard := Or.inl (vtb_at 553 (by decide +kernel) rfl)
theorem ml_11_139 : ML "SowingBoards" 139 y_X11_setBoard := Or.inl (vtb_at 565 (by decide +kernel) rfl)
theorem ml_11_142 : ML "SowingBoards" 142 y_X9_clear := Or.inr ⟨"SowingBoards", vnl_at 573 (by decide +kernel) rfl⟩
theorem ml_11_145 : ML "SowingBoards" 145 y_X5_inPits := Or.inr ⟨"SowingBoards", vnl_at 577 (by decide +kernel) rfl⟩
theorem ml_11_148 : ML "SowingBoards" 148 y_X9_digitAt := Or.inr ⟨"SowingBoards", vnl_at 557 (by decide +kernel) rfl⟩
theorem ml_11_164 : ML "SowingBoards" 164 y_X0_clear := Or.inr ⟨"SowingBoards", vnl_at 569 (by decide +kernel) rfl⟩
theorem ml_11_165 : ML "SowingBoards" 165 y_X11_readLaws := Or.inl (vtb_at 589 (by decide +kernel) rfl)
theorem ml_11_168 : ML "SowingBoards" 168 y_J6_bitCount_0f7a4 := Or.inl (vtb_at 679 (by decide +kernel) rfl)
theorem ml_11_175 : ML "SowingBoards" 175 y_X9_at := Or.inr ⟨"SowingBoards", vnl_at 594 (by decide +kernel) rfl⟩
theorem ml_11_183 : ML "SowingBoards" 183 y_X7_read := Or.inr ⟨"SowingBoards", vnl_at 690 (by decide +kernel) rfl⟩
theorem ml_11_190 : ML "SowingBoards" 190 y_X6_take := Or.inr ⟨"SowingBoards", vnl_at 736 (by decide +kernel) rfl⟩
theorem ml_11_194 : ML "SowingBoards" 194 y_X5_hasPit := Or.inr ⟨"SowingBoards", vnl_at 883 (by decide +kernel) rfl⟩
theorem ml_11_206 : ML "SowingBoards" 206 y_X11_entry := Or.inl (vtb_at 747 (by decide +kernel) rfl)
theorem ml_11_218 : ML "SowingBoards" 218 y_X11_refusal := Or.inl (vtb_at 756 (by decide +kernel) rfl)
theorem ml_11_221 : ML "SowingBoards" 221 y_X0_push := Or.inr ⟨"SowingBoards", vnl_at 764 (by decide +kernel) rfl⟩
theorem ml_11_225 : ML "SowingBoards" 225 y_X1_make := Or.inr ⟨"SowingBoards", vnl_at 774 (by decide +kernel) rfl⟩
theorem ml_11_235 : ML "SowingBoards" 235 y_X3_tell__ := Or.inr ⟨"SowingBoards", vnl_at 820 (by decide +kernel) rfl⟩
theorem ml_11_242 : ML "SowingBoards" 242 y_X5_canMove := Or.inr ⟨"SowingBoards", vnl_at 760 (by decide +kernel) rfl⟩
theorem ml_11_245 : ML "SowingBoards" 245 y_X5_isOver := Or.inr ⟨"SowingBoards", vnl_at 844 (by decide +kernel) rfl⟩
theorem ml_11_249 : ML "SowingBoards" 249 y_X11_playOn := Or.inl (vtb_at 848 (by decide +kernel) rfl)
theorem ml_11_253 : ML "SowingBoards" 253 y_X3_tell_ := Or.inr ⟨"SowingBoards", vnl_at 873 (by decide +kernel) rfl⟩
theorem ml_11_256 : ML "SowingBoards" 256 y_X4_play := Or.inr ⟨"SowingBoards", vnl_at 852 (by decide +kernel) rfl⟩
theorem ml_11_260 : ML "SowingBoards" 260 y_X5_pass := Or.inr ⟨"SowingBoards", vnl_at 878 (by decide +kernel) rfl⟩
theorem ml_11_263 : ML "SowingBoards" 263 y_X5_inAll := Or.inr ⟨"SowingBoards", vnl_at 887 (by decide +kernel) rfl⟩
theorem ml_11_266 : ML "SowingBoards" 266 y_X11_wrongInGame := Or.inl (vtb_at 899 (by decide +kernel) rfl)
theorem ml_11_269 : ML "SowingBoards" 269 y_X5_take := Or.inr ⟨"SowingBoards", vnl_at 906 (by decide +kernel) rfl⟩
theorem ml_11_271 : ML "SowingBoards" 271 y_X11_doAct := Or.inl (vtb_at 907 (by decide +kernel) rfl)
theorem ml_11_274 : ML "SowingBoards" 274 y_X11_isAct := Or.inl (vtb_at 903 (by decide +kernel) rfl)
theorem ml_11_277 : ML "SowingBoards" 277 y_X0_pop := Or.inr ⟨"SowingBoards", vnl_at 915 (by decide +kernel) rfl⟩
theorem ml_11_284 : ML "SowingBoards" 284 y_X11_tryMove := Or.inl (vtb_at 923 (by decide +kernel) rfl)
theorem ml_11_288 : ML "SowingBoards" 288 y_X6_judge := Or.inr ⟨"SowingBoards", vnl_at 931 (by decide +kernel) rfl⟩
theorem ml_11_292 : ML "SowingBoards" 292 y_X3_tell := Or.inr ⟨"SowingBoards", vnl_at 932 (by decide +kernel) rfl⟩
theorem ml_11_295 : ML "SowingBoards" 295 y_X4_choose := Or.inr ⟨"SowingBoards", vnl_at 937 (by decide +kernel) rfl⟩
theorem ml_11_302 : ML "SowingBoards" 302 y_X10_start := Or.inr ⟨"SowingBoards", vnl_at 946 (by decide +kernel) rfl⟩
theorem ml_11_307 : ML "SowingBoards" 307 y_X10_step := Or.inr ⟨"SowingBoards", vnl_at 953 (by decide +kernel) rfl⟩
theorem ml_11_310 : ML "SowingBoards" 310 y_X10_here := Or.inr ⟨"SowingBoards", vnl_at 967 (by decide +kernel) rfl⟩
theorem ml_11_314 : ML "SowingBoards" 314 y_X10_tellPath := Or.inr ⟨"SowingBoards", vnl_at 968 (by decide +kernel) rfl⟩
theorem ml_11_321 : ML "SowingBoards" 321 y_X3_clear := Or.inr ⟨"SowingBoards", vnl_at 982 (by decide +kernel) rfl⟩
theorem ml_11_322 : ML "SowingBoards" 322 y_X3_add := Or.inr ⟨"SowingBoards", vnl_at 983 (by decide +kernel) rfl⟩
def D_X11_sign (p1 : Int32) : Wd → Option (Int32 × Wd) := fun w =>
  bc (D_X9_addFour p1 w) fun x2 w1 => if x2 = 0 then (some ((-1), w1)) else (some (w1.1 80 1, w1))
set_option maxRecDepth 20000 in
theorem S_X11_sign {l0 : Launch} {ρ : Nat → Nat} {cs : Nat → ClassId} {G : va_G} (hρ : injN ρ) {p1 : Int32} {w : Wd} {rr : (Int32 × Wd)} (hD : D_X11_sign p1 w = some rr) : CtI l0 ρ cs G y_X11_sign prog_1_method_2_code 2 .int 1 [.ref (ρ 75), .int p1] w rr.1 rr.2 := by
  refine ctI_of hρ (by decide) (Nat.le_of_ble_eq_true rfl) (fun X hn h hR => ?_)
  unfold D_X11_sign at hD
  show gG ρ cs G X 0 [(0, .ref (ρ 75)), (1, .int p1)] [] w
  refine g_aload_n h 0 t_X11_sign_0 rfl ?_
  refine g_getR h 75 6 80 fl_11_40 rfl (by decide) rfl t_X11_sign_1 ?_
  refine g_iload_n h 1 t_X11_sign_4 rfl ?_
  refine g_callVI h 80 (As := [.int p1]) (st := []) my_X9_addFour mi_X9_addFour ml_11_126 rfl (by decide) rfl rfl rfl (Nat.le_of_ble_eq_true rfl) (by decide) t_X11_sign_5 hD (fun _ _ e => S_X9_addFour hρ  e) (fun x2 w1 hD => ?_)
  refine g_if_eq (tgt := 21) h t_X11_sign_8 (by decide) hD (fun hD => ?_) (fun hD => ?_)
  · refine g_iconst (v := (-1)) h t_X11_sign_21 (by decide) ?_
    obtain rfl := Option.some.inj hD
    exact hR _ _ t_X11_sign_22 rfl
  · refine g_aload_n h 0 t_X11_sign_11 rfl ?_
    refine g_getR h 75 6 80 fl_11_40 rfl (by decide) rfl t_X11_sign_12 ?_
    refine g_getI h 80 1 fl_11_130 rfl (by decide) rfl t_X11_sign_15 ?_
    refine g_goto (tgt := 22) h t_X11_sign_18 (by decide) ?_
    obtain rfl := Option.some.inj hD
    exact hR _ _ t_X11_sign_22 rfl
def D_X11_end (p1 : Int32) : Wd → Option (Int32 × Wd) := fun w =>
  bc (D_X9_cut p1 w) fun x2 w1 => if b01 x2 then some (x2, w1) else none
set_option maxRecDepth 20000 in
theorem S_X11_end {l0 : Launch} {ρ : Nat → Nat} {cs : Nat → ClassId} {G : va_G} (hρ : injN ρ) {p1 : Int32} {w : Wd} {rr : (Int32 × Wd)} (hD : D_X11_end p1 w = some rr) : CtI l0 ρ cs G y_X11_end prog_1_method_3_code 2 .boolean 1 [.ref (ρ 75), .int p1] w rr.1 rr.2 := by
  refine ctI_of hρ (by decide) (Nat.le_of_ble_eq_true rfl) (fun X hn h hR => ?_)
  unfold D_X11_end at hD
  show gG ρ cs G X 0 [(0, .ref (ρ 75)), (1, .int p1)] [] w
  refine g_aload_n h 0 t_X11_end_0 rfl ?_
  refine g_getR h 75 6 80 fl_11_40 rfl (by decide) rfl t_X11_end_1 ?_
  refine g_iload_n h 1 t_X11_end_4 rfl ?_
  refine g_callVI h 80 (As := [.int p1]) (st := []) my_X9_cut mi_X9_cut ml_11_133 rfl (by decide) rfl rfl rfl (Nat.le_of_ble_eq_true rfl) (by decide) t_X11_end_5 hD (fun _ _ e => S_X9_cut hρ  e) (fun x2 w1 hD => ?_)
  obtain ⟨hb, hD⟩ := of_ite hD
  obtain rfl := Option.some.inj hD
  exact hR _ _ t_X11_end_8 (b01_n hb)
def J_X11_setBoard_j56_1 (r17 : Int32 → Wd → Option Wd) (x6 : Int32) : Int32 → Wd → Option Wd := fun x10 w11 =>
  if ib x6 12 then bd (wI w11 1 x6.toNatClampNeg x10) (fun w13 => bd (x6 + 1) fun x14 => r17 x14 w13) else none
def L_X11_setBoard_17 (k4 : Wd → Option Wd) : Nat → Int32 → Wd → Option Wd
  | 0, _, _ => none
  | n5 + 1, x6, w7 =>
    if 12 ≤ x6 then (k4 w7) else (bc (D_X5_pits 0 w7) fun x9 w8 => bd (J_X11_setBoard_j56_1 (L_X11_setBoard_17 k4 n5) x6) fun k12 => if x9 ≤ x6 then (k12 0 w8) else (bc (D_X9_digitAt (1 + x6) w8) fun x16 w15 => k12 x16 w15))
def L_X11_setBoard_108 (k23 : Wd → Option Wd) : Nat → Int32 → Wd → Option Wd
  | 0, _, _ => none
  | n24 + 1, x25, w26 =>
    if 2 ≤ x25 then (k23 w26) else (if ib x25 2 then bd (wI w26 77 x25.toNatClampNeg (vp_nar .boolean 0)) (fun w27 => bd (x25 + 1) fun x28 => L_X11_setBoard_108 k23 n24 x28 w27) else none)
def J_X11_setBoard_x126_2  : Wd → Option Wd := fun w29 =>
  some w29
def J_X11_setBoard_x63_3  : Wd → Option Wd := fun w17 =>
  if ib 0 2 then bd (wI w17 2 (0 : Int32).toNatClampNeg 0) (fun w18 => if ib 1 2 then bd (wI w18 2 (1 : Int32).toNatClampNeg 0) (fun w19 => bd (wI w19 0 3 0) fun w20 => bd (wI w20 0 4 0) fun w21 => bv (D_X0_clear w21) fun w22 => L_X11_setBoard_108 J_X11_setBoard_x126_2 FU 0 w22) else none) else none
def D_X11_setBoard  : Wd → Option Wd := fun w =>
  bc (D_X9_digitAt 0 w) fun x2 w1 => bd (wI w1 0 2 x2) fun w3 => L_X11_setBoard_17 J_X11_setBoard_x63_3 FU 0 w3
set_option maxRecDepth 20000 in
theorem Q_X11_setBoard_17 {l0 : Launch} {ρ : Nat → Nat} {cs : Nat → ClassId} {G : va_G} {X : Cx} (hρ : injN ρ) (hn : X.2.2.2.2.2.2.2.2.2.2.1 = 2) (h : Okx l0 ρ cs G X prog_1_method_6_code "SowingBoards" 2) {rr : Wd} (hR : ∀ pc L, decode prog_1_method_6_code pc = .ok (.return_, 1) → gG ρ cs G X pc L [] rr)  {k4 : Wd → Option Wd} (hk4 : ∀ (w1 : Wd), k4 w1 = some rr → gG ρ cs G X 63 [(0, .ref (ρ 75))] [] w1) : ∀ (n : Nat) (x6 : Int32) (w : Wd), L_X11_setBoard_17 k4 n x6 w = some rr → gG ρ cs G X 17 [(0, .ref (ρ 75)), (1, .int x6)] [] w := by
  intro n
  induction n with
  | zero =>
    intro x6 w hD
    cases hD
  | succ n5 ih =>
    intro x6 w7 hD
    unfold L_X11_setBoard_17 at hD
    refine g_iload_n h 1 t_X11_setBoard_17 rfl ?_
    refine g_bipush (v := 12) h t_X11_setBoard_18 (by decide) ?_
    refine g_icmp_ge (tgt := 63) h t_X11_setBoard_20 (by decide) hD (fun hD => ?_) (fun hD => ?_)
    · refine g_loc (L' := [(0, .ref (ρ 75))]) h [0] rfl ?_
      exact hk4 _ hD
    · refine g_aload_n h 0 t_X11_setBoard_23 rfl ?_
      refine g_getR h 75 0 0 fl_11_10 rfl (by decide) rfl t_X11_setBoard_24 ?_
      refine g_getQ h 0 0 1 1 (by decide) rfl fl_11_120 rfl (by decide) rfl t_X11_setBoard_27 ?_
      refine g_iload_n h 1 t_X11_setBoard_30 rfl ?_
      refine g_iload_n h 1 t_X11_setBoard_31 rfl ?_
      refine g_aload_n h 0 t_X11_setBoard_32 rfl ?_
      refine g_getR h 75 0 0 fl_11_10 rfl (by decide) rfl t_X11_setBoard_33 ?_
      refine g_callVI h 0 (As := []) (st := [.int x6, .int x6, .ref (ρ 1)]) my_X5_pits mi_X5_pits ml_11_116 rfl (by decide) rfl rfl rfl (Nat.le_of_ble_eq_true rfl) (by decide) t_X11_setBoard_36 hD (fun _ _ e => S_X5_pits hρ (by decide) e) (fun x9 w8 hD => ?_)
      refine g_join (P := fun k12 => ∀ (x10 : Int32) (w11 : Wd), k12 x10 w11 = some rr → gG ρ cs G X 56 [(0, .ref (ρ 75)), (1, .int x6)] [.int x10, .int x6, .ref (ρ 1)] w11) hD ?_ (fun k12 hk12 hD => ?_)
      · intro x10 w11 hD
        unfold J_X11_setBoard_j56_1 at hD
        refine g_iast h 1 rfl (by decide) t_X11_setBoard_56 hD (fun w13 hD => ?_)
        obtain ⟨x14, ex14, hD⟩ := bd_ex hD
        refine g_iinc (v := x14) (L' := [(1, .int x14), (0, .ref (ρ 75))]) h hn t_X11_setBoard_57 (k := 1) rfl (by rw [ex14]; rfl) (by decide) rfl ?_
        refine g_goto (tgt := 17) h t_X11_setBoard_60 (by decide) ?_
        refine g_loc (L' := [(0, .ref (ρ 75)), (1, .int x14)]) h [1, 0] rfl ?_
        exact ih x14 _ hD
      · refine g_icmp_ge (tgt := 55) h t_X11_setBoard_39 (by decide) hD (fun hD => ?_) (fun hD => ?_)
        · refine g_iconst (v := 0) h t_X11_setBoard_55 (by decide) ?_
          refine g_loc (L' := [(0, .ref (ρ 75)), (1, .int x6)]) h [0, 1] rfl ?_
          exact hk12 0 _ hD
        · refine g_aload_n h 0 t_X11_setBoard_42 rfl ?_
          refine g_getR h 75 6 80 fl_11_40 rfl (by decide) rfl t_X11_setBoard_43 ?_
          refine g_iconst (v := 1) h t_X11_setBoard_46 (by decide) ?_
          refine g_iload_n h 1 t_X11_setBoard_47 rfl ?_
          refine g_iadd h t_X11_setBoard_48 ?_
          refine g_callVI h 80 (As := [.int (1 + x6)]) (st := [.int x6, .ref (ρ 1)]) my_X9_digitAt mi_X9_digitAt ml_11_148 rfl (by decide) rfl rfl rfl (Nat.le_of_ble_eq_true rfl) (by decide) t_X11_setBoard_49 hD (fun _ _ e => S_X9_digitAt hρ  e) (fun x16 w15 hD => ?_)
          refine g_goto (tgt := 56) h t_X11_setBoard_52 (by decide) ?_
          refine g_loc (L' := [(0, .ref (ρ 75)), (1, .int x6)]) h [0, 1] rfl ?_
          exact hk12 x16 _ hD
set_option maxRecDepth 20000 in
theorem Q_X11_setBoard_108 {l0 : Launch} {ρ : Nat → Nat} {cs : Nat → ClassId} {G : va_G} {X : Cx} (hρ : injN ρ) (hn : X.2.2.2.2.2.2.2.2.2.2.1 = 2) (h : Okx l0 ρ cs G X prog_1_method_6_code "SowingBoards" 2) {rr : Wd} (hR : ∀ pc L, decode prog_1_method_6_code pc = .ok (.return_, 1) → gG ρ cs G X pc L [] rr)  {k23 : Wd → Option Wd} (hk23 : ∀ (w1 : Wd), k23 w1 = some rr → gG ρ cs G X 126 [] [] w1) : ∀ (n : Nat) (x25 : Int32) (w : Wd), L_X11_setBoard_108 k23 n x25 w = some rr → gG ρ cs G X 108 [(0, .ref (ρ 75)), (1, .int x25)] [] w := by
  intro n
  induction n with
  | zero =>
    intro x25 w hD
    cases hD
  | succ n24 ih =>
    intro x25 w26 hD
    unfold L_X11_setBoard_108 at hD
    refine g_iload_n h 1 t_X11_setBoard_108 rfl ?_
    refine g_iconst (v := 2) h t_X11_setBoard_109 (by decide) ?_
    refine g_icmp_ge (tgt := 126) h t_X11_setBoard_110 (by decide) hD (fun hD => ?_) (fun hD => ?_)
    · refine g_loc (L' := []) h [] rfl ?_
      exact hk23 _ hD
    · refine g_aload_n h 0 t_X11_setBoard_113 rfl ?_
      refine g_getR h 75 4 77 fl_11_26 rfl (by decide) rfl t_X11_setBoard_114 ?_
      refine g_iload_n h 1 t_X11_setBoard_117 rfl ?_
      refine g_iconst (v := 0) h t_X11_setBoard_118 (by decide) ?_
      refine g_zast h 77 rfl (by decide) t_X11_setBoard_119 hD (fun w27 hD => ?_)
      obtain ⟨x28, ex28, hD⟩ := bd_ex hD
      refine g_iinc (v := x28) (L' := [(1, .int x28), (0, .ref (ρ 75))]) h hn t_X11_setBoard_120 (k := 1) rfl (by rw [ex28]; rfl) (by decide) rfl ?_
      refine g_goto (tgt := 108) h t_X11_setBoard_123 (by decide) ?_
      refine g_loc (L' := [(0, .ref (ρ 75)), (1, .int x28)]) h [1, 0] rfl ?_
      exact ih x28 _ hD
set_option maxRecDepth 20000 in
theorem S_X11_setBoard {l0 : Launch} {ρ : Nat → Nat} {cs : Nat → ClassId} {G : va_G} (hρ : injN ρ)  {w : Wd} {rr : Wd} (hD : D_X11_setBoard w = some rr) : CtV l0 ρ cs G y_X11_setBoard prog_1_method_6_code 2 2 [.ref (ρ 75)] w rr := by
  refine ctV_of hρ (by decide) (Nat.le_of_ble_eq_true rfl) (fun X hn h hR => ?_)
  unfold D_X11_setBoard at hD
  show gG ρ cs G X 0 [(0, .ref (ρ 75))] [] w
  refine g_aload_n h 0 t_X11_setBoard_0 rfl ?_
  refine g_getR h 75 0 0 fl_11_10 rfl (by decide) rfl t_X11_setBoard_1 ?_
  refine g_aload_n h 0 t_X11_setBoard_4 rfl ?_
  refine g_getR h 75 6 80 fl_11_40 rfl (by decide) rfl t_X11_setBoard_5 ?_
  refine g_iconst (v := 0) h t_X11_setBoard_8 (by decide) ?_
  refine g_callVI h 80 (As := [.int 0]) (st := [.ref (ρ 0)]) my_X9_digitAt mi_X9_digitAt ml_11_148 rfl (by decide) rfl rfl rfl (Nat.le_of_ble_eq_true rfl) (by decide) t_X11_setBoard_9 hD (fun _ _ e => S_X9_digitAt hρ  e) (fun x2 w1 hD => ?_)
  refine g_putI h 0 2 fl_11_152 fp_5_2 rfl (by decide) rfl t_X11_setBoard_12 hD (fun w3 hD => ?_)
  refine g_iconst (v := 0) h t_X11_setBoard_15 (by decide) ?_
  refine g_istore_n (L' := [(1, .int 0), (0, .ref (ρ 75))]) h hn t_X11_setBoard_16 rfl (by decide) rfl ?_
  refine g_loc (L' := [(0, .ref (ρ 75)), (1, .int 0)]) h [1, 0] rfl ?_
  refine Q_X11_setBoard_17 hρ hn h hR  ?_ _ _ _ hD
  · intro w17 hD
    unfold J_X11_setBoard_x63_3 at hD
    refine g_aload_n h 0 t_X11_setBoard_63 rfl ?_
    refine g_getR h 75 0 0 fl_11_10 rfl (by decide) rfl t_X11_setBoard_64 ?_
    refine g_getQ h 0 1 2 2 (by decide) rfl fl_11_155 rfl (by decide) rfl t_X11_setBoard_67 ?_
    refine g_iconst (v := 0) h t_X11_setBoard_70 (by decide) ?_
    refine g_iconst (v := 0) h t_X11_setBoard_71 (by decide) ?_
    refine g_iast h 2 rfl (by decide) t_X11_setBoard_72 hD (fun w18 hD => ?_)
    refine g_aload_n h 0 t_X11_setBoard_73 rfl ?_
    refine g_getR h 75 0 0 fl_11_10 rfl (by decide) rfl t_X11_setBoard_74 ?_
    refine g_getQ h 0 1 2 2 (by decide) rfl fl_11_155 rfl (by decide) rfl t_X11_setBoard_77 ?_
    refine g_iconst (v := 1) h t_X11_setBoard_80 (by decide) ?_
    refine g_iconst (v := 0) h t_X11_setBoard_81 (by decide) ?_
    refine g_iast h 2 rfl (by decide) t_X11_setBoard_82 hD (fun w19 hD => ?_)
    refine g_aload_n h 0 t_X11_setBoard_83 rfl ?_
    refine g_getR h 75 0 0 fl_11_10 rfl (by decide) rfl t_X11_setBoard_84 ?_
    refine g_iconst (v := 0) h t_X11_setBoard_87 (by decide) ?_
    refine g_putI h 0 3 fl_11_158 fp_5_3 rfl (by decide) rfl t_X11_setBoard_88 hD (fun w20 hD => ?_)
    refine g_aload_n h 0 t_X11_setBoard_91 rfl ?_
    refine g_getR h 75 0 0 fl_11_10 rfl (by decide) rfl t_X11_setBoard_92 ?_
    refine g_iconst (v := 0) h t_X11_setBoard_95 (by decide) ?_
    refine g_putI h 0 4 fl_11_161 fp_5_4 rfl (by decide) rfl t_X11_setBoard_96 hD (fun w21 hD => ?_)
    refine g_aload_n h 0 t_X11_setBoard_99 rfl ?_
    refine g_getR h 75 5 78 fl_11_33 rfl (by decide) rfl t_X11_setBoard_100 ?_
    refine g_callVV h 78 (As := []) (st := []) my_X0_clear mi_X0_clear ml_11_164 rfl (by decide) rfl rfl rfl (Nat.le_of_ble_eq_true rfl) (by decide) t_X11_setBoard_103 hD (fun _ e => S_X0_clear hρ  e) (fun w22 hD => ?_)
    refine g_iconst (v := 0) h t_X11_setBoard_106 (by decide) ?_
    refine g_istore_n (L' := [(1, .int 0), (0, .ref (ρ 75))]) h hn t_X11_setBoard_107 rfl (by decide) rfl ?_
    refine g_loc (L' := [(0, .ref (ρ 75)), (1, .int 0)]) h [1, 0] rfl ?_
    refine Q_X11_setBoard_108 hρ hn h hR  ?_ _ _ _ hD
    · intro w29 hD
      unfold J_X11_setBoard_x126_2 at hD
      obtain rfl := Option.some.inj hD
      exact hR _ _ t_X11_setBoard_126
def L_X11_wrongInBoard_30 (x4 : Int32) (k5 : Int32 → Wd → Option (Int32 × Wd)) (k6 : Wd → Option (Int32 × Wd)) : Nat → Int32 → Wd → Option (Int32 × Wd)
  | 0, _, _ => none
  | n7 + 1, x8, w9 =>
    if x4 ≤ x8 then (k6 w9) else (bc (D_X9_digitAt x8 w9) fun x11 w10 => if 0 ≤ x11 then (bd (x8 + 1) fun x12 => L_X11_wrongInBoard_30 x4 k5 k6 n7 x12 w10) else (k5 x8 w10))
def J_X11_wrongInBoard_x46_1  : Int32 → Wd → Option (Int32 × Wd) := fun x13 w14 =>
  some (x13, w14)
def J_X11_wrongInBoard_x54_2 (x3 : Int32) : Wd → Option (Int32 × Wd) := fun w15 =>
  if (w15.1 80 1) ≤ x3 then (some ((-1), w15)) else (some (x3, w15))
def D_X11_wrongInBoard  : Wd → Option (Int32 × Wd) := fun w =>
  bc (D_X9_digitAt 0 w) fun x2 w1 => if x2 < 2 then (some (0, w1)) else (if x2 ≤ 6 then (bd (1 + (2 * x2)) fun x3 => L_X11_wrongInBoard_30 x3 J_X11_wrongInBoard_x46_1 (J_X11_wrongInBoard_x54_2 x3) FU 1 w1) else (some (0, w1)))
set_option maxRecDepth 20000 in
theorem Q_X11_wrongInBoard_30 {l0 : Launch} {ρ : Nat → Nat} {cs : Nat → ClassId} {G : va_G} {X : Cx} (hρ : injN ρ) (hn : X.2.2.2.2.2.2.2.2.2.2.1 = 4) (h : Okx l0 ρ cs G X prog_1_method_5_code "SowingBoards" 2) {rr : (Int32 × Wd)} (hR : ∀ pc L, decode prog_1_method_5_code pc = .ok (.ireturn, 1) → narrow .int (.int rr.1) = .int rr.1 → gG ρ cs G X pc L [.int rr.1] rr.2) {x4 : Int32} {k5 : Int32 → Wd → Option (Int32 × Wd)} (hk5 : ∀ (z3 : Int32) (w1 : Wd), k5 z3 w1 = some rr → gG ρ cs G X 46 [(3, .int z3)] [] w1) {k6 : Wd → Option (Int32 × Wd)} (hk6 : ∀ (w1 : Wd), k6 w1 = some rr → gG ρ cs G X 54 [(0, .ref (ρ 75)), (2, .int x4)] [] w1) : ∀ (n : Nat) (x8 : Int32) (w : Wd), L_X11_wrongInBoard_30 x4 k5 k6 n x8 w = some rr → gG ρ cs G X 30 [(0, .ref (ρ 75)), (2, .int x4), (3, .int x8)] [] w := by
  intro n
  induction n with
  | zero =>
    intro x8 w hD
    cases hD
  | succ n7 ih =>
    intro x8 w9 hD
    unfold L_X11_wrongInBoard_30 at hD
    refine g_iload_n h 2 t_X11_wrongInBoard_30 rfl ?_
    refine g_iload_n h 1 t_X11_wrongInBoard_31 rfl ?_
    refine g_icmp_ge (tgt := 54) h t_X11_wrongInBoard_32 (by decide) hD (fun hD => ?_) (fun hD => ?_)
    · refine g_loc (L' := [(0, .ref (ρ 75)), (2, .int x4)]) h [0, 1] rfl ?_
      exact hk6 _ hD
    · refine g_aload_n h 0 t_X11_wrongInBoard_35 rfl ?_
      refine g_getR h 75 6 80 fl_11_40 rfl (by decide) rfl t_X11_wrongInBoard_36 ?_
      refine g_iload_n h 2 t_X11_wrongInBoard_39 rfl ?_
      refine g_callVI h 80 (As := [.int x8]) (st := []) my_X9_digitAt mi_X9_digitAt ml_11_148 rfl (by decide) rfl rfl rfl (Nat.le_of_ble_eq_true rfl) (by decide) t_X11_wrongInBoard_40 hD (fun _ _ e => S_X9_digitAt hρ  e) (fun x11 w10 hD => ?_)
      refine g_if_ge (tgt := 48) h t_X11_wrongInBoard_43 (by decide) hD (fun hD => ?_) (fun hD => ?_)
      · obtain ⟨x12, ex12, hD⟩ := bd_ex hD
        refine g_iinc (v := x12) (L' := [(3, .int x12), (0, .ref (ρ 75)), (2, .int x4)]) h hn t_X11_wrongInBoard_48 (k := 2) rfl (by rw [ex12]; rfl) (by decide) rfl ?_
        refine g_goto (tgt := 30) h t_X11_wrongInBoard_51 (by decide) ?_
        refine g_loc (L' := [(0, .ref (ρ 75)), (2, .int x4), (3, .int x12)]) h [1, 2, 0] rfl ?_
        exact ih x12 _ hD
      · refine g_loc (L' := [(3, .int x8)]) h [2] rfl ?_
        exact hk5 x8 _ hD
set_option maxRecDepth 20000 in
theorem S_X11_wrongInBoard {l0 : Launch} {ρ : Nat → Nat} {cs : Nat → ClassId} {G : va_G} (hρ : injN ρ)  {w : Wd} {rr : (Int32 × Wd)} (hD : D_X11_wrongInBoard w = some rr) : CtI l0 ρ cs G y_X11_wrongInBoard prog_1_method_5_code 4 .int 2 [.ref (ρ 75)] w rr.1 rr.2 := by
  refine ctI_of hρ (by decide) (Nat.le_of_ble_eq_true rfl) (fun X hn h hR => ?_)
  unfold D_X11_wrongInBoard at hD
  show gG ρ cs G X 0 [(0, .ref (ρ 75))] [] w
  refine g_aload_n h 0 t_X11_wrongInBoard_0 rfl ?_
  refine g_getR h 75 6 80 fl_11_40 rfl (by decide) rfl t_X11_wrongInBoard_1 ?_
  refine g_iconst (v := 0) h t_X11_wrongInBoard_4 (by decide) ?_
  refine g_callVI h 80 (As := [.int 0]) (st := []) my_X9_digitAt mi_X9_digitAt ml_11_148 rfl (by decide) rfl rfl rfl (Nat.le_of_ble_eq_true rfl) (by decide) t_X11_wrongInBoard_5 hD (fun _ _ e => S_X9_digitAt hρ  e) (fun x2 w1 hD => ?_)
  refine g_istore_n (L' := [(1, .int x2), (0, .ref (ρ 75))]) h hn t_X11_wrongInBoard_8 rfl (by decide) rfl ?_
  refine g_iload_n h 0 t_X11_wrongInBoard_9 rfl ?_
  refine g_iconst (v := 2) h t_X11_wrongInBoard_10 (by decide) ?_
  refine g_icmp_lt (tgt := 20) h t_X11_wrongInBoard_11 (by decide) hD (fun hD => ?_) (fun hD => ?_)
  · refine g_iconst (v := 0) h t_X11_wrongInBoard_20 (by decide) ?_
    obtain rfl := Option.some.inj hD
    exact hR _ _ t_X11_wrongInBoard_21 rfl
  · refine g_iload_n h 0 t_X11_wrongInBoard_14 rfl ?_
    refine g_bipush (v := 6) h t_X11_wrongInBoard_15 (by decide) ?_
    refine g_icmp_le (tgt := 22) h t_X11_wrongInBoard_17 (by decide) hD (fun hD => ?_) (fun hD => ?_)
    · refine g_iconst (v := 1) h t_X11_wrongInBoard_22 (by decide) ?_
      refine g_iconst (v := 2) h t_X11_wrongInBoard_23 (by decide) ?_
      refine g_iload_n h 0 t_X11_wrongInBoard_24 rfl ?_
      refine g_imul h t_X11_wrongInBoard_25 ?_
      refine g_iadd h t_X11_wrongInBoard_26 ?_
      refine g_bdI hD (fun x3 hD => ?_)
      refine g_istore_n (L' := [(2, .int x3), (1, .int x2), (0, .ref (ρ 75))]) h hn t_X11_wrongInBoard_27 rfl (by decide) rfl ?_
      refine g_iconst (v := 1) h t_X11_wrongInBoard_28 (by decide) ?_
      refine g_istore_n (L' := [(3, .int 1), (2, .int x3), (1, .int x2), (0, .ref (ρ 75))]) h hn t_X11_wrongInBoard_29 rfl (by decide) rfl ?_
      refine g_loc (L' := [(0, .ref (ρ 75)), (2, .int x3), (3, .int 1)]) h [3, 1, 0] rfl ?_
      refine Q_X11_wrongInBoard_30 hρ hn h hR  ?_ ?_ _ _ _ hD
      · intro x13 w14 hD
        unfold J_X11_wrongInBoard_x46_1 at hD
        refine g_iload_n h 0 t_X11_wrongInBoard_46 rfl ?_
        obtain rfl := Option.some.inj hD
        exact hR _ _ t_X11_wrongInBoard_47 rfl
      · intro w15 hD
        unfold J_X11_wrongInBoard_x54_2 at hD
        refine g_aload_n h 0 t_X11_wrongInBoard_54 rfl ?_
        refine g_getR h 75 6 80 fl_11_40 rfl (by decide) rfl t_X11_wrongInBoard_55 ?_
        refine g_getI h 80 1 fl_11_130 rfl (by decide) rfl t_X11_wrongInBoard_58 ?_
        refine g_iload_n h 1 t_X11_wrongInBoard_61 rfl ?_
        refine g_icmp_le (tgt := 69) h t_X11_wrongInBoard_62 (by decide) hD (fun hD => ?_) (fun hD => ?_)
        · refine g_iconst (v := (-1)) h t_X11_wrongInBoard_69 (by decide) ?_
          obtain rfl := Option.some.inj hD
          exact hR _ _ t_X11_wrongInBoard_70 rfl
        · refine g_iload_n h 1 t_X11_wrongInBoard_65 rfl ?_
          refine g_goto (tgt := 70) h t_X11_wrongInBoard_66 (by decide) ?_
          obtain rfl := Option.some.inj hD
          exact hR _ _ t_X11_wrongInBoard_70 rfl
    · refine g_iconst (v := 0) h t_X11_wrongInBoard_20 (by decide) ?_
      obtain rfl := Option.some.inj hD
      exact hR _ _ t_X11_wrongInBoard_21 rfl
def J_X11_board_j14_1 (x2 : Int32) : Wd → Option (Int32 × Wd) := fun w3 =>
  bv (D_X9_clear w3) fun w5 => if x2 = (-1) then (bc (D_X5_inPits 0 w5) fun x7 w6 => some (x7, w6)) else (some ((-1) - x2, w5))
def D_X11_board  : Wd → Option (Int32 × Wd) := fun w =>
  bc (D_X11_wrongInBoard w) fun x2 w1 => bd (J_X11_board_j14_1 x2) fun k4 => if x2 = (-1) then (bv (D_X11_setBoard w1) fun w8 => k4 w8) else (k4 w1)
set_option maxRecDepth 20000 in
theorem S_X11_board {l0 : Launch} {ρ : Nat → Nat} {cs : Nat → ClassId} {G : va_G} (hρ : injN ρ)  {w : Wd} {rr : (Int32 × Wd)} (hD : D_X11_board w = some rr) : CtI l0 ρ cs G y_X11_board prog_1_method_4_code 2 .int 3 [.ref (ρ 75)] w rr.1 rr.2 := by
  refine ctI_of hρ (by decide) (Nat.le_of_ble_eq_true rfl) (fun X hn h hR => ?_)
  unfold D_X11_board at hD
  show gG ρ cs G X 0 [(0, .ref (ρ 75))] [] w
  refine g_aload_n h 0 t_X11_board_0 rfl ?_
  refine g_callVI h 75 (As := []) (st := []) my_X11_wrongInBoard mi_X11_wrongInBoard ml_11_136 rfl (by decide) rfl rfl rfl (Nat.le_of_ble_eq_true rfl) (by decide) t_X11_board_1 hD (fun _ _ e => S_X11_wrongInBoard hρ  e) (fun x2 w1 hD => ?_)
  refine g_istore_n (L' := [(1, .int x2), (0, .ref (ρ 75))]) h hn t_X11_board_4 rfl (by decide) rfl ?_
  refine g_iload_n h 0 t_X11_board_5 rfl ?_
  refine g_iconst (v := (-1)) h t_X11_board_6 (by decide) ?_
  refine g_join (P := fun k4 => ∀ (w3 : Wd), k4 w3 = some rr → gG ρ cs G X 14 [(0, .ref (ρ 75)), (1, .int x2)] [] w3) hD ?_ (fun k4 hk4 hD => ?_)
  · intro w3 hD
    unfold J_X11_board_j14_1 at hD
    refine g_aload_n h 0 t_X11_board_14 rfl ?_
    refine g_getR h 75 6 80 fl_11_40 rfl (by decide) rfl t_X11_board_15 ?_
    refine g_callVV h 80 (As := []) (st := []) my_X9_clear mi_X9_clear ml_11_142 rfl (by decide) rfl rfl rfl (Nat.le_of_ble_eq_true rfl) (by decide) t_X11_board_18 hD (fun _ e => S_X9_clear hρ  e) (fun w5 hD => ?_)
    refine g_iload_n h 1 t_X11_board_21 rfl ?_
    refine g_iconst (v := (-1)) h t_X11_board_22 (by decide) ?_
    refine g_icmp_ne (tgt := 36) h t_X11_board_23 (by decide) hD (fun hD => ?_) (fun hD => ?_)
    · refine g_iconst (v := (-1)) h t_X11_board_36 (by decide) ?_
      refine g_iload_n h 1 t_X11_board_37 rfl ?_
      refine g_isub h t_X11_board_38 ?_
      obtain rfl := Option.some.inj hD
      exact hR _ _ t_X11_board_39 rfl
    · refine g_aload_n h 0 t_X11_board_26 rfl ?_
      refine g_getR h 75 0 0 fl_11_10 rfl (by decide) rfl t_X11_board_27 ?_
      refine g_callVI h 0 (As := []) (st := []) my_X5_inPits mi_X5_inPits ml_11_145 rfl (by decide) rfl rfl rfl (Nat.le_of_ble_eq_true rfl) (by decide) t_X11_board_30 hD (fun _ _ e => S_X5_inPits hρ (by decide) e) (fun x7 w6 hD => ?_)
      refine g_goto (tgt := 39) h t_X11_board_33 (by decide) ?_
      obtain rfl := Option.some.inj hD
      exact hR _ _ t_X11_board_39 rfl
  · refine g_icmp_ne (tgt := 14) h t_X11_board_7 (by decide) hD (fun hD => ?_) (fun hD => ?_)
    · refine g_loc (L' := [(0, .ref (ρ 75)), (1, .int x2)]) h [1, 0] rfl ?_
      exact hk4 _ hD
    · refine g_aload_n h 1 t_X11_board_10 rfl ?_
      refine g_callVV h 75 (As := []) (st := []) my_X11_setBoard mi_X11_setBoard ml_11_139 rfl (by decide) rfl rfl rfl (Nat.le_of_ble_eq_true rfl) (by decide) t_X11_board_11 hD (fun _ e => S_X11_setBoard hρ  e) (fun w8 hD => ?_)
      refine g_loc (L' := [(0, .ref (ρ 75)), (1, .int x2)]) h [1, 0] rfl ?_
      exact hk4 _ hD
def J_X11_readLaws_j41_1 (r4 : Int32 → Int32 → Wd → Option (Int32 × Wd)) (k1 : Int32 → Wd → Option (Int32 × Wd)) (x5 : Int32) (x4 : Int32) : Int32 → Wd → Option (Int32 × Wd) := fun x10 w11 =>
  if x10 = 0 then (k1 x5 w11) else (if (x4 &&& x10) = 0 then (bd (x4 ||| x10) fun x13 => bd (x5 + 1) fun x14 => r4 x13 x14 w11) else (k1 x5 w11))
def L_X11_readLaws_4 (k1 : Int32 → Wd → Option (Int32 × Wd)) (k2 : Int32 → Wd → Option (Int32 × Wd)) : Nat → Int32 → Int32 → Wd → Option (Int32 × Wd)
  | 0, _, _, _ => none
  | n3 + 1, x4, x5, w6 =>
    if (w6.1 80 1) ≤ x5 then (k2 x4 w6) else (bc (D_X9_at x5 w6) fun x8 w7 => bd (sidx 0 ((x8.toUInt32 % 65536).toInt32)) fun x9 => bd (J_X11_readLaws_j41_1 (L_X11_readLaws_4 k1 k2 n3) k1 x5 x4) fun k12 => if 0 ≤ x9 then (k12 (1 <<< (x9 &&& 31)) w7) else (k12 0 w7))
def J_X11_readLaws_x55_2  : Int32 → Wd → Option (Int32 × Wd) := fun x15 w16 =>
  some ((-1) - x15, w16)
def J_X11_readLaws_x70_3  : Int32 → Wd → Option (Int32 × Wd) := fun x17 w18 =>
  some (x17, w18)
def D_X11_readLaws  : Wd → Option (Int32 × Wd) := fun w =>
  L_X11_readLaws_4 J_X11_readLaws_x55_2 J_X11_readLaws_x70_3 FU 0 0 w
set_option maxRecDepth 20000 in
theorem Q_X11_readLaws_4 {l0 : Launch} {ρ : Nat → Nat} {cs : Nat → ClassId} {G : va_G} {X : Cx} (hρ : injN ρ) (hn : X.2.2.2.2.2.2.2.2.2.2.1 = 5) (h : Okx l0 ρ cs G X prog_1_method_8_code "SowingBoards" 9) {rr : (Int32 × Wd)} (hR : ∀ pc L, decode prog_1_method_8_code pc = .ok (.ireturn, 1) → narrow .int (.int rr.1) = .int rr.1 → gG ρ cs G X pc L [.int rr.1] rr.2)  {k1 : Int32 → Wd → Option (Int32 × Wd)} (hk1 : ∀ (z2 : Int32) (w1 : Wd), k1 z2 w1 = some rr → gG ρ cs G X 55 [(2, .int z2)] [] w1) {k2 : Int32 → Wd → Option (Int32 × Wd)} (hk2 : ∀ (z1 : Int32) (w1 : Wd), k2 z1 w1 = some rr → gG ρ cs G X 70 [(1, .int z1)] [] w1) : ∀ (n : Nat) (x4 : Int32) (x5 : Int32) (w : Wd), L_X11_readLaws_4 k1 k2 n x4 x5 w = some rr → gG ρ cs G X 4 [(0, .ref (ρ 75)), (1, .int x4), (2, .int x5)] [] w := by
  intro n
  induction n with
  | zero =>
    intro x4 x5 w hD
    cases hD
  | succ n3 ih =>
    intro x4 x5 w6 hD
    unfold L_X11_readLaws_4 at hD
    refine g_iload_n h 2 t_X11_readLaws_4 rfl ?_
    refine g_aload_n h 0 t_X11_readLaws_5 rfl ?_
    refine g_getR h 75 6 80 fl_11_40 rfl (by decide) rfl t_X11_readLaws_6 ?_
    refine g_getI h 80 1 fl_11_130 rfl (by decide) rfl t_X11_readLaws_9 ?_
    refine g_icmp_ge (tgt := 70) h t_X11_readLaws_12 (by decide) hD (fun hD => ?_) (fun hD => ?_)
    · refine g_loc (L' := [(1, .int x4)]) h [1] rfl ?_
      exact hk2 x4 _ hD
    · refine g_sldc (i := 0) h (Or.inl ⟨rfl, rfl, rfl⟩) t_X11_readLaws_15 ?_
      refine g_aload_n h 0 t_X11_readLaws_17 rfl ?_
      refine g_getR h 75 6 80 fl_11_40 rfl (by decide) rfl t_X11_readLaws_18 ?_
      refine g_iload_n h 2 t_X11_readLaws_21 rfl ?_
      refine g_callVI h 80 (As := [.int x5]) (st := [.ref (ρ 200)]) my_X9_at mi_X9_at ml_11_175 rfl (by decide) rfl rfl rfl (Nat.le_of_ble_eq_true rfl) (by decide) t_X11_readLaws_22 hD (fun _ _ e => S_X9_at hρ  e) (fun x8 w7 hD => ?_)
      refine g_i2c h t_X11_readLaws_25 ?_
      refine g_sidx h (st := []) 0 (by decide) (i2c_rng _) (by decide) (vtb_at 595 (by decide +kernel) rfl) (Nat.le_of_ble_eq_true rfl) t_X11_readLaws_26 ?_
      refine g_bdI hD (fun x9 hD => ?_)
      refine g_istore_n (L' := [(3, .int x9), (0, .ref (ρ 75)), (1, .int x4), (2, .int x5)]) h hn t_X11_readLaws_29 rfl (by decide) rfl ?_
      refine g_iload_n h 0 t_X11_readLaws_30 rfl ?_
      refine g_join (P := fun k12 => ∀ (x10 : Int32) (w11 : Wd), k12 x10 w11 = some rr → gG ρ cs G X 41 [(0, .ref (ρ 75)), (1, .int x4), (2, .int x5)] [.int x10] w11) hD ?_ (fun k12 hk12 hD => ?_)
      · intro x10 w11 hD
        unfold J_X11_readLaws_j41_1 at hD
        refine g_istore (L' := [(4, .int x10), (0, .ref (ρ 75)), (1, .int x4), (2, .int x5)]) h hn t_X11_readLaws_41 (by decide) rfl ?_
        refine g_iload h 0 t_X11_readLaws_43 rfl ?_
        refine g_if_eq (tgt := 55) h t_X11_readLaws_45 (by decide) hD (fun hD => ?_) (fun hD => ?_)
        · refine g_loc (L' := [(2, .int x5)]) h [3] rfl ?_
          exact hk1 x5 _ hD
        · refine g_iload_n h 2 t_X11_readLaws_48 rfl ?_
          refine g_iload h 0 t_X11_readLaws_49 rfl ?_
          refine g_iand h t_X11_readLaws_51 ?_
          refine g_if_eq (tgt := 59) h t_X11_readLaws_52 (by decide) hD (fun hD => ?_) (fun hD => ?_)
          · refine g_iload_n h 2 t_X11_readLaws_59 rfl ?_
            refine g_iload h 0 t_X11_readLaws_60 rfl ?_
            refine g_ior h t_X11_readLaws_62 ?_
            refine g_bdI hD (fun x13 hD => ?_)
            refine g_istore_n (L' := [(1, .int x13), (4, .int x10), (0, .ref (ρ 75)), (2, .int x5)]) h hn t_X11_readLaws_63 rfl (by decide) rfl ?_
            obtain ⟨x14, ex14, hD⟩ := bd_ex hD
            refine g_iinc (v := x14) (L' := [(2, .int x14), (1, .int x13), (4, .int x10), (0, .ref (ρ 75))]) h hn t_X11_readLaws_64 (k := 3) rfl (by rw [ex14]; rfl) (by decide) rfl ?_
            refine g_goto (tgt := 4) h t_X11_readLaws_67 (by decide) ?_
            refine g_loc (L' := [(0, .ref (ρ 75)), (1, .int x13), (2, .int x14)]) h [3, 1, 0] rfl ?_
            exact ih x13 x14 _ hD
          · refine g_loc (L' := [(2, .int x5)]) h [3] rfl ?_
            exact hk1 x5 _ hD
      · refine g_if_ge (tgt := 38) h t_X11_readLaws_31 (by decide) hD (fun hD => ?_) (fun hD => ?_)
        · refine g_iconst (v := 1) h t_X11_readLaws_38 (by decide) ?_
          refine g_iload_n h 0 t_X11_readLaws_39 rfl ?_
          refine g_ishl h t_X11_readLaws_40 ?_
          refine g_loc (L' := [(0, .ref (ρ 75)), (1, .int x4), (2, .int x5)]) h [1, 2, 3] rfl ?_
          exact hk12 (1 <<< (x9 &&& 31)) _ hD
        · refine g_iconst (v := 0) h t_X11_readLaws_34 (by decide) ?_
          refine g_goto (tgt := 41) h t_X11_readLaws_35 (by decide) ?_
          refine g_loc (L' := [(0, .ref (ρ 75)), (1, .int x4), (2, .int x5)]) h [1, 2, 3] rfl ?_
          exact hk12 0 _ hD
set_option maxRecDepth 20000 in
theorem S_X11_readLaws {l0 : Launch} {ρ : Nat → Nat} {cs : Nat → ClassId} {G : va_G} (hρ : injN ρ)  {w : Wd} {rr : (Int32 × Wd)} (hD : D_X11_readLaws w = some rr) : CtI l0 ρ cs G y_X11_readLaws prog_1_method_8_code 5 .int 9 [.ref (ρ 75)] w rr.1 rr.2 := by
  refine ctI_of hρ (by decide) (Nat.le_of_ble_eq_true rfl) (fun X hn h hR => ?_)
  unfold D_X11_readLaws at hD
  show gG ρ cs G X 0 [(0, .ref (ρ 75))] [] w
  refine g_iconst (v := 0) h t_X11_readLaws_0 (by decide) ?_
  refine g_istore_n (L' := [(1, .int 0), (0, .ref (ρ 75))]) h hn t_X11_readLaws_1 rfl (by decide) rfl ?_
  refine g_iconst (v := 0) h t_X11_readLaws_2 (by decide) ?_
  refine g_istore_n (L' := [(2, .int 0), (1, .int 0), (0, .ref (ρ 75))]) h hn t_X11_readLaws_3 rfl (by decide) rfl ?_
  refine g_loc (L' := [(0, .ref (ρ 75)), (1, .int 0), (2, .int 0)]) h [2, 1, 0] rfl ?_
  refine Q_X11_readLaws_4 hρ hn h hR  ?_ ?_ _ _ _ _ hD
  · intro x15 w16 hD
    unfold J_X11_readLaws_x55_2 at hD
    refine g_iconst (v := (-1)) h t_X11_readLaws_55 (by decide) ?_
    refine g_iload_n h 0 t_X11_readLaws_56 rfl ?_
    refine g_isub h t_X11_readLaws_57 ?_
    obtain rfl := Option.some.inj hD
    exact hR _ _ t_X11_readLaws_58 rfl
  · intro x17 w18 hD
    unfold J_X11_readLaws_x70_3 at hD
    refine g_iload_n h 0 t_X11_readLaws_70 rfl ?_
    obtain rfl := Option.some.inj hD
    exact hR _ _ t_X11_readLaws_71 rfl
def D_X11_laws  : Wd → Option (Int32 × Wd) := fun w =>
  bc (D_X11_readLaws w) fun x2 w1 => bv (D_X9_clear w1) fun w3 => if 0 ≤ x2 then (bd (wI w3 75 18 x2) fun w4 => bc (D_J6_bitCount_0f7a4 x2 w4) fun x6 w5 => some (x6, w5)) else (some (x2, w3))
set_option maxRecDepth 20000 in
theorem S_X11_laws {l0 : Launch} {ρ : Nat → Nat} {cs : Nat → ClassId} {G : va_G} (hρ : injN ρ)  {w : Wd} {rr : (Int32 × Wd)} (hD : D_X11_laws w = some rr) : CtI l0 ρ cs G y_X11_laws prog_1_method_7_code 2 .int 10 [.ref (ρ 75)] w rr.1 rr.2 := by
  refine ctI_of hρ (by decide) (Nat.le_of_ble_eq_true rfl) (fun X hn h hR => ?_)
  unfold D_X11_laws at hD
  show gG ρ cs G X 0 [(0, .ref (ρ 75))] [] w
  refine g_aload_n h 0 t_X11_laws_0 rfl ?_
  refine g_callVI h 75 (As := []) (st := []) my_X11_readLaws mi_X11_readLaws ml_11_165 rfl (by decide) rfl rfl rfl (Nat.le_of_ble_eq_true rfl) (by decide) t_X11_laws_1 hD (fun _ _ e => S_X11_readLaws hρ  e) (fun x2 w1 hD => ?_)
  refine g_istore_n (L' := [(1, .int x2), (0, .ref (ρ 75))]) h hn t_X11_laws_4 rfl (by decide) rfl ?_
  refine g_aload_n h 1 t_X11_laws_5 rfl ?_
  refine g_getR h 75 6 80 fl_11_40 rfl (by decide) rfl t_X11_laws_6 ?_
  refine g_callVV h 80 (As := []) (st := []) my_X9_clear mi_X9_clear ml_11_142 rfl (by decide) rfl rfl rfl (Nat.le_of_ble_eq_true rfl) (by decide) t_X11_laws_9 hD (fun _ e => S_X9_clear hρ  e) (fun w3 hD => ?_)
  refine g_iload_n h 0 t_X11_laws_12 rfl ?_
  refine g_if_ge (tgt := 18) h t_X11_laws_13 (by decide) hD (fun hD => ?_) (fun hD => ?_)
  · refine g_aload_n h 1 t_X11_laws_18 rfl ?_
    refine g_iload_n h 0 t_X11_laws_19 rfl ?_
    refine g_putI h 75 18 fl_11_112 fp_11_18 rfl (by decide) rfl t_X11_laws_20 hD (fun w4 hD => ?_)
    refine g_iload_n h 0 t_X11_laws_23 rfl ?_
    refine g_callSI h (As := [.int x2]) (st := []) my_J6_bitCount_0f7a4 ms_J6_bitCount_0f7a4 ml_11_168 rfl rfl (Nat.le_of_ble_eq_true rfl) (by decide) t_X11_laws_24 hD (fun _ _ e => S_J6_bitCount_0f7a4 hρ  e) (fun x6 w5 hD => ?_)
    obtain rfl := Option.some.inj hD
    exact hR _ _ t_X11_laws_27 rfl
  · refine g_iload_n h 0 t_X11_laws_16 rfl ?_
    obtain rfl := Option.some.inj hD
    exact hR _ _ t_X11_laws_17 rfl
def D_X11_rule  : Wd → Option (Int32 × Wd) := fun w =>
  bc (D_X7_read w) fun x2 w1 => bv (D_X9_clear w1) fun w3 => if x2 = (-1) then (bv (D_X6_take 106 103 w3) fun w4 => some (0, w4)) else (some ((-1) - x2, w3))
set_option maxRecDepth 20000 in
theorem S_X11_rule {l0 : Launch} {ρ : Nat → Nat} {cs : Nat → ClassId} {G : va_G} (hρ : injN ρ)  {w : Wd} {rr : (Int32 × Wd)} (hD : D_X11_rule w = some rr) : CtI l0 ρ cs G y_X11_rule prog_1_method_9_code 2 .int 13 [.ref (ρ 75)] w rr.1 rr.2 := by
  refine ctI_of hρ (by decide) (Nat.le_of_ble_eq_true rfl) (fun X hn h hR => ?_)
  unfold D_X11_rule at hD
  show gG ρ cs G X 0 [(0, .ref (ρ 75))] [] w
  refine g_aload_n h 0 t_X11_rule_0 rfl ?_
  refine g_getR h 75 12 100 fl_11_82 rfl (by decide) rfl t_X11_rule_1 ?_
  refine g_aload_n h 0 t_X11_rule_4 rfl ?_
  refine g_getR h 75 6 80 fl_11_40 rfl (by decide) rfl t_X11_rule_5 ?_
  refine g_callVI h 100 (As := [.ref (ρ 80)]) (st := []) my_X7_read mi_X7_read ml_11_183 rfl (by decide) rfl rfl rfl (Nat.le_of_ble_eq_true rfl) (by decide) t_X11_rule_8 hD (fun _ _ e => S_X7_read hρ  e) (fun x2 w1 hD => ?_)
  refine g_istore_n (L' := [(1, .int x2), (0, .ref (ρ 75))]) h hn t_X11_rule_11 rfl (by decide) rfl ?_
  refine g_aload_n h 1 t_X11_rule_12 rfl ?_
  refine g_getR h 75 6 80 fl_11_40 rfl (by decide) rfl t_X11_rule_13 ?_
  refine g_callVV h 80 (As := []) (st := []) my_X9_clear mi_X9_clear ml_11_142 rfl (by decide) rfl rfl rfl (Nat.le_of_ble_eq_true rfl) (by decide) t_X11_rule_16 hD (fun _ e => S_X9_clear hρ  e) (fun w3 hD => ?_)
  refine g_iload_n h 0 t_X11_rule_19 rfl ?_
  refine g_iconst (v := (-1)) h t_X11_rule_20 (by decide) ?_
  refine g_icmp_eq (tgt := 28) h t_X11_rule_21 (by decide) hD (fun hD => ?_) (fun hD => ?_)
  · refine g_aload_n h 1 t_X11_rule_28 rfl ?_
    refine g_getR h 75 13 106 fl_11_89 rfl (by decide) rfl t_X11_rule_29 ?_
    refine g_aload_n h 1 t_X11_rule_32 rfl ?_
    refine g_getR h 75 12 100 fl_11_82 rfl (by decide) rfl t_X11_rule_33 ?_
    refine g_getR h 100 2 103 fl_11_187 rfl (by decide) rfl t_X11_rule_36 ?_
    refine g_callVV h 106 (As := [.ref (ρ 103)]) (st := []) my_X6_take mi_X6_take ml_11_190 rfl (by decide) rfl rfl rfl (Nat.le_of_ble_eq_true rfl) (by decide) t_X11_rule_39 hD (fun _ e => S_X6_take hρ (by decide) (by decide) e) (fun w4 hD => ?_)
    refine g_iconst (v := 0) h t_X11_rule_42 (by decide) ?_
    obtain rfl := Option.some.inj hD
    exact hR _ _ t_X11_rule_43 rfl
  · refine g_iconst (v := (-1)) h t_X11_rule_24 (by decide) ?_
    refine g_iload_n h 0 t_X11_rule_25 rfl ?_
    refine g_isub h t_X11_rule_26 ?_
    obtain rfl := Option.some.inj hD
    exact hR _ _ t_X11_rule_27 rfl
def J_X11_entry_j20_1  : Int32 → Wd → Option (Int32 × Wd) := fun x1 w2 =>
  some (imax 0 (imin 9 x1), w2)
def D_X11_entry (p0 : Int32) (p1 : Int32) : Wd → Option (Int32 × Wd) := fun w =>
  bd J_X11_entry_j20_1 fun k3 => if p0 = 0 then (k3 p1.toInt8.toInt32 w) else (if p0 = 1 then (k3 p1.toInt16.toInt32 w) else (k3 p1 w))
set_option maxRecDepth 20000 in
theorem S_X11_entry {l0 : Launch} {ρ : Nat → Nat} {cs : Nat → ClassId} {G : va_G} (hρ : injN ρ) {p0 : Int32} {p1 : Int32} {w : Wd} {rr : (Int32 × Wd)} (hD : D_X11_entry p0 p1 w = some rr) : CtI l0 ρ cs G y_X11_entry prog_1_method_13_code 3 .int 0 [.int p0, .int p1] w rr.1 rr.2 := by
  refine ctI_of hρ (by decide) (Nat.le_of_ble_eq_true rfl) (fun X hn h hR => ?_)
  unfold D_X11_entry at hD
  show gG ρ cs G X 0 [(0, .int p0), (1, .int p1)] [] w
  refine g_iload_n h 0 t_X11_entry_0 rfl ?_
  refine g_join (P := fun k3 => ∀ (x1 : Int32) (w2 : Wd), k3 x1 w2 = some rr → gG ρ cs G X 20 [] [.int x1] w2) hD ?_ (fun k3 hk3 hD => ?_)
  · intro x1 w2 hD
    unfold J_X11_entry_j20_1 at hD
    refine g_istore_n (L' := [(2, .int x1)]) h hn t_X11_entry_20 rfl (by decide) rfl ?_
    refine g_iconst (v := 0) h t_X11_entry_21 (by decide) ?_
    refine g_bipush (v := 9) h t_X11_entry_22 (by decide) ?_
    refine g_iload_n h 0 t_X11_entry_24 rfl ?_
    refine g_mmin h (st := [.int 0]) (vtb_at 750 (by decide +kernel) rfl) (Nat.le_of_ble_eq_true rfl) t_X11_entry_25 ?_
    refine g_mmax h (st := []) (vtb_at 751 (by decide +kernel) rfl) (Nat.le_of_ble_eq_true rfl) t_X11_entry_28 ?_
    obtain rfl := Option.some.inj hD
    exact hR _ _ t_X11_entry_31 rfl
  · refine g_if_ne (tgt := 9) h t_X11_entry_1 (by decide) hD (fun hD => ?_) (fun hD => ?_)
    · refine g_iload_n h 0 t_X11_entry_9 rfl ?_
      refine g_iconst (v := 1) h t_X11_entry_10 (by decide) ?_
      refine g_icmp_ne (tgt := 19) h t_X11_entry_11 (by decide) hD (fun hD => ?_) (fun hD => ?_)
      · refine g_iload_n h 1 t_X11_entry_19 rfl ?_
        refine g_loc (L' := []) h [] rfl ?_
        exact hk3 p1 _ hD
      · refine g_iload_n h 1 t_X11_entry_14 rfl ?_
        refine g_i2s h t_X11_entry_15 ?_
        refine g_goto (tgt := 20) h t_X11_entry_16 (by decide) ?_
        refine g_loc (L' := []) h [] rfl ?_
        exact hk3 p1.toInt16.toInt32 _ hD
    · refine g_iload_n h 1 t_X11_entry_4 rfl ?_
      refine g_i2b h t_X11_entry_5 ?_
      refine g_goto (tgt := 20) h t_X11_entry_6 (by decide) ?_
      refine g_loc (L' := []) h [] rfl ?_
      exact hk3 p1.toInt8.toInt32 _ hD
def J_X11_sheet_j99_1 (r56 : Int32 → Wd → Option (Int32 × Wd)) (x16 : Int32) : Int32 → Wd → Option (Int32 × Wd) := fun x20 w21 =>
  if ib x16 12 then bd (wI w21 1 x16.toNatClampNeg x20) (fun w23 => bd (x16 + 1) fun x24 => r56 x24 w23) else none
def L_X11_sheet_56 (x9 : Int32) (x10 : Int32) (x11 : Int32) (x12 : Int32) (x13 : Int32) (k14 : Wd → Option (Int32 × Wd)) : Nat → Int32 → Wd → Option (Int32 × Wd)
  | 0, _, _ => none
  | n15 + 1, x16, w17 =>
    bc (D_X5_pits 0 w17) fun x19 w18 => if x19 ≤ x16 then (k14 w18) else (bd (J_X11_sheet_j99_1 (L_X11_sheet_56 x9 x10 x11 x12 x13 k14 n15) x16) fun k22 => if x13 ≤ x16 then (k22 0 w18) else (bc (D_X11_entry x9 (x10 + (x16 * x11)) w18) fun x26 w25 => k22 x26 w25))
def J_X11_sheet_x106_2 (x1 : Int32) : Wd → Option (Int32 × Wd) := fun w27 =>
  if x1 = 0 then (bc (D_X5_inPits 0 w27) fun x29 w28 => some (x29, w28)) else (some ((-3), w27))
def J_X11_sheet_j51_3 (p1 : Int32) (p3 : Int32) (p4 : Int32) (x1 : Int32) : Int32 → Wd → Option (Int32 × Wd) := fun x6 w7 =>
  L_X11_sheet_56 p1 p3 p4 x1 x6 (J_X11_sheet_x106_2 x1) FU 0 w7
def J_X11_sheet_j41_4 (p1 : Int32) (p3 : Int32) (p4 : Int32) (x1 : Int32) (p2 : Int32) : Wd → Option (Int32 × Wd) := fun w4 =>
  bd (J_X11_sheet_j51_3 p1 p3 p4 x1) fun k8 => if x1 = 0 then (k8 p2 w4) else (k8 0 w4)
def J_X11_sheet_j27_5 (p1 : Int32) (p3 : Int32) (p4 : Int32) (p2 : Int32) : Int32 → Wd → Option (Int32 × Wd) := fun x1 w2 =>
  bd (J_X11_sheet_j41_4 p1 p3 p4 x1 p2) fun k5 => if x1 = 0 then (if 0 ≤ p2 then (k5 w2) else (some ((-2), w2))) else (k5 w2)
def D_X11_sheet (p1 : Int32) (p2 : Int32) (p3 : Int32) (p4 : Int32) : Wd → Option (Int32 × Wd) := fun w =>
  if p1 < 0 then (some ((-1), w)) else (if 3 < p1 then (some ((-1), w)) else (if p2 ≤ 12 then (bd (J_X11_sheet_j27_5 p1 p3 p4 p2) fun k3 => if p1 = 3 then (k3 1 w) else (k3 0 w)) else (some ((-1), w))))
set_option maxRecDepth 20000 in
theorem Q_X11_sheet_56 {l0 : Launch} {ρ : Nat → Nat} {cs : Nat → ClassId} {G : va_G} {X : Cx} (hρ : injN ρ) (hn : X.2.2.2.2.2.2.2.2.2.2.1 = 8) (h : Okx l0 ρ cs G X prog_1_method_12_code "SowingBoards" 2) {rr : (Int32 × Wd)} (hR : ∀ pc L, decode prog_1_method_12_code pc = .ok (.ireturn, 1) → narrow .int (.int rr.1) = .int rr.1 → gG ρ cs G X pc L [.int rr.1] rr.2) {x9 : Int32} {x10 : Int32} {x11 : Int32} {x12 : Int32} {x13 : Int32} {k14 : Wd → Option (Int32 × Wd)} (hk14 : ∀ (w1 : Wd), k14 w1 = some rr → gG ρ cs G X 106 [(0, .ref (ρ 75)), (5, .int x12)] [] w1) : ∀ (n : Nat) (x16 : Int32) (w : Wd), L_X11_sheet_56 x9 x10 x11 x12 x13 k14 n x16 w = some rr → gG ρ cs G X 56 [(0, .ref (ρ 75)), (1, .int x9), (3, .int x10), (4, .int x11), (5, .int x12), (6, .int x13), (7, .int x16)] [] w := by
  intro n
  induction n with
  | zero =>
    intro x16 w hD
    cases hD
  | succ n15 ih =>
    intro x16 w17 hD
    unfold L_X11_sheet_56 at hD
    refine g_iload h 6 t_X11_sheet_56 rfl ?_
    refine g_aload_n h 0 t_X11_sheet_58 rfl ?_
    refine g_getR h 75 0 0 fl_11_10 rfl (by decide) rfl t_X11_sheet_59 ?_
    refine g_callVI h 0 (As := []) (st := [.int x16]) my_X5_pits mi_X5_pits ml_11_116 rfl (by decide) rfl rfl rfl (Nat.le_of_ble_eq_true rfl) (by decide) t_X11_sheet_62 hD (fun _ _ e => S_X5_pits hρ (by decide) e) (fun x19 w18 hD => ?_)
    refine g_icmp_ge (tgt := 106) h t_X11_sheet_65 (by decide) hD (fun hD => ?_) (fun hD => ?_)
    · refine g_loc (L' := [(0, .ref (ρ 75)), (5, .int x12)]) h [0, 4] rfl ?_
      exact hk14 _ hD
    · refine g_aload_n h 0 t_X11_sheet_68 rfl ?_
      refine g_getR h 75 0 0 fl_11_10 rfl (by decide) rfl t_X11_sheet_69 ?_
      refine g_getQ h 0 0 1 1 (by decide) rfl fl_11_120 rfl (by decide) rfl t_X11_sheet_72 ?_
      refine g_iload h 6 t_X11_sheet_75 rfl ?_
      refine g_iload h 6 t_X11_sheet_77 rfl ?_
      refine g_iload h 5 t_X11_sheet_79 rfl ?_
      refine g_join (P := fun k22 => ∀ (x20 : Int32) (w21 : Wd), k22 x20 w21 = some rr → gG ρ cs G X 99 [(0, .ref (ρ 75)), (1, .int x9), (3, .int x10), (4, .int x11), (5, .int x12), (6, .int x13), (7, .int x16)] [.int x20, .int x16, .ref (ρ 1)] w21) hD ?_ (fun k22 hk22 hD => ?_)
      · intro x20 w21 hD
        unfold J_X11_sheet_j99_1 at hD
        refine g_iast h 1 rfl (by decide) t_X11_sheet_99 hD (fun w23 hD => ?_)
        obtain ⟨x24, ex24, hD⟩ := bd_ex hD
        refine g_iinc (v := x24) (L' := [(7, .int x24), (0, .ref (ρ 75)), (1, .int x9), (3, .int x10), (4, .int x11), (5, .int x12), (6, .int x13)]) h hn t_X11_sheet_100 (k := 6) rfl (by rw [ex24]; rfl) (by decide) rfl ?_
        refine g_goto (tgt := 56) h t_X11_sheet_103 (by decide) ?_
        refine g_loc (L' := [(0, .ref (ρ 75)), (1, .int x9), (3, .int x10), (4, .int x11), (5, .int x12), (6, .int x13), (7, .int x24)]) h [1, 2, 3, 4, 5, 6, 0] rfl ?_
        exact ih x24 _ hD
      · refine g_icmp_ge (tgt := 98) h t_X11_sheet_81 (by decide) hD (fun hD => ?_) (fun hD => ?_)
        · refine g_iconst (v := 0) h t_X11_sheet_98 (by decide) ?_
          refine g_loc (L' := [(0, .ref (ρ 75)), (1, .int x9), (3, .int x10), (4, .int x11), (5, .int x12), (6, .int x13), (7, .int x16)]) h [0, 1, 2, 3, 4, 5, 6] rfl ?_
          exact hk22 0 _ hD
        · refine g_iload_n h 1 t_X11_sheet_84 rfl ?_
          refine g_iload_n h 2 t_X11_sheet_85 rfl ?_
          refine g_iload h 6 t_X11_sheet_86 rfl ?_
          refine g_iload h 3 t_X11_sheet_88 rfl ?_
          refine g_imul h t_X11_sheet_90 ?_
          refine g_iadd h t_X11_sheet_91 ?_
          refine g_callSI h (As := [.int x9, .int (x10 + (x16 * x11))]) (st := [.int x16, .ref (ρ 1)]) my_X11_entry ms_X11_entry ml_11_206 rfl rfl (Nat.le_of_ble_eq_true rfl) (by decide) t_X11_sheet_92 hD (fun _ _ e => S_X11_entry hρ  e) (fun x26 w25 hD => ?_)
          refine g_goto (tgt := 99) h t_X11_sheet_95 (by decide) ?_
          refine g_loc (L' := [(0, .ref (ρ 75)), (1, .int x9), (3, .int x10), (4, .int x11), (5, .int x12), (6, .int x13), (7, .int x16)]) h [0, 1, 2, 3, 4, 5, 6] rfl ?_
          exact hk22 x26 _ hD
set_option maxRecDepth 20000 in
theorem S_X11_sheet {l0 : Launch} {ρ : Nat → Nat} {cs : Nat → ClassId} {G : va_G} (hρ : injN ρ) {p1 : Int32} {p2 : Int32} {p3 : Int32} {p4 : Int32} {w : Wd} {rr : (Int32 × Wd)} (hD : D_X11_sheet p1 p2 p3 p4 w = some rr) : CtI l0 ρ cs G y_X11_sheet prog_1_method_12_code 8 .int 2 [.ref (ρ 75), .int p1, .int p2, .int p3, .int p4] w rr.1 rr.2 := by
  refine ctI_of hρ (by decide) (Nat.le_of_ble_eq_true rfl) (fun X hn h hR => ?_)
  unfold D_X11_sheet at hD
  show gG ρ cs G X 0 [(0, .ref (ρ 75)), (1, .int p1), (2, .int p2), (3, .int p3), (4, .int p4)] [] w
  refine g_iload_n h 1 t_X11_sheet_0 rfl ?_
  refine g_if_lt (tgt := 15) h t_X11_sheet_1 (by decide) hD (fun hD => ?_) (fun hD => ?_)
  · refine g_iconst (v := (-1)) h t_X11_sheet_15 (by decide) ?_
    obtain rfl := Option.some.inj hD
    exact hR _ _ t_X11_sheet_16 rfl
  · refine g_iload_n h 1 t_X11_sheet_4 rfl ?_
    refine g_iconst (v := 3) h t_X11_sheet_5 (by decide) ?_
    refine g_icmp_gt (tgt := 15) h t_X11_sheet_6 (by decide) hD (fun hD => ?_) (fun hD => ?_)
    · refine g_iconst (v := (-1)) h t_X11_sheet_15 (by decide) ?_
      obtain rfl := Option.some.inj hD
      exact hR _ _ t_X11_sheet_16 rfl
    · refine g_iload_n h 2 t_X11_sheet_9 rfl ?_
      refine g_bipush (v := 12) h t_X11_sheet_10 (by decide) ?_
      refine g_icmp_le (tgt := 17) h t_X11_sheet_12 (by decide) hD (fun hD => ?_) (fun hD => ?_)
      · refine g_iload_n h 1 t_X11_sheet_17 rfl ?_
        refine g_iconst (v := 3) h t_X11_sheet_18 (by decide) ?_
        refine g_join (P := fun k3 => ∀ (x1 : Int32) (w2 : Wd), k3 x1 w2 = some rr → gG ρ cs G X 27 [(0, .ref (ρ 75)), (1, .int p1), (2, .int p2), (3, .int p3), (4, .int p4)] [.int x1] w2) hD ?_ (fun k3 hk3 hD => ?_)
        · intro x1 w2 hD
          unfold J_X11_sheet_j27_5 at hD
          refine g_istore (L' := [(5, .int x1), (0, .ref (ρ 75)), (1, .int p1), (2, .int p2), (3, .int p3), (4, .int p4)]) h hn t_X11_sheet_27 (by decide) rfl ?_
          refine g_iload h 0 t_X11_sheet_29 rfl ?_
          refine g_join (P := fun k5 => ∀ (w4 : Wd), k5 w4 = some rr → gG ρ cs G X 41 [(0, .ref (ρ 75)), (1, .int p1), (2, .int p2), (3, .int p3), (4, .int p4), (5, .int x1)] [] w4) hD ?_ (fun k5 hk5 hD => ?_)
          · intro w4 hD
            unfold J_X11_sheet_j41_4 at hD
            refine g_iload h 5 t_X11_sheet_41 rfl ?_
            refine g_join (P := fun k8 => ∀ (x6 : Int32) (w7 : Wd), k8 x6 w7 = some rr → gG ρ cs G X 51 [(0, .ref (ρ 75)), (1, .int p1), (3, .int p3), (4, .int p4), (5, .int x1)] [.int x6] w7) hD ?_ (fun k8 hk8 hD => ?_)
            · intro x6 w7 hD
              unfold J_X11_sheet_j51_3 at hD
              refine g_istore (L' := [(6, .int x6), (0, .ref (ρ 75)), (1, .int p1), (3, .int p3), (4, .int p4), (5, .int x1)]) h hn t_X11_sheet_51 (by decide) rfl ?_
              refine g_iconst (v := 0) h t_X11_sheet_53 (by decide) ?_
              refine g_istore (L' := [(7, .int 0), (6, .int x6), (0, .ref (ρ 75)), (1, .int p1), (3, .int p3), (4, .int p4), (5, .int x1)]) h hn t_X11_sheet_54 (by decide) rfl ?_
              refine g_loc (L' := [(0, .ref (ρ 75)), (1, .int p1), (3, .int p3), (4, .int p4), (5, .int x1), (6, .int x6), (7, .int 0)]) h [2, 3, 4, 5, 6, 1, 0] rfl ?_
              refine Q_X11_sheet_56 hρ hn h hR  ?_ _ _ _ hD
              · intro w27 hD
                unfold J_X11_sheet_x106_2 at hD
                refine g_iload h 1 t_X11_sheet_106 rfl ?_
                refine g_if_eq (tgt := 116) h t_X11_sheet_108 (by decide) hD (fun hD => ?_) (fun hD => ?_)
                · refine g_aload_n h 0 t_X11_sheet_116 rfl ?_
                  refine g_getR h 75 0 0 fl_11_10 rfl (by decide) rfl t_X11_sheet_117 ?_
                  refine g_callVI h 0 (As := []) (st := []) my_X5_inPits mi_X5_inPits ml_11_145 rfl (by decide) rfl rfl rfl (Nat.le_of_ble_eq_true rfl) (by decide) t_X11_sheet_120 hD (fun _ _ e => S_X5_inPits hρ (by decide) e) (fun x29 w28 hD => ?_)
                  obtain rfl := Option.some.inj hD
                  exact hR _ _ t_X11_sheet_123 rfl
                · refine g_bipush (v := (-3)) h t_X11_sheet_111 (by decide) ?_
                  refine g_goto (tgt := 123) h t_X11_sheet_113 (by decide) ?_
                  obtain rfl := Option.some.inj hD
                  exact hR _ _ t_X11_sheet_123 rfl
            · refine g_if_eq (tgt := 50) h t_X11_sheet_43 (by decide) hD (fun hD => ?_) (fun hD => ?_)
              · refine g_iload_n h 2 t_X11_sheet_50 rfl ?_
                refine g_loc (L' := [(0, .ref (ρ 75)), (1, .int p1), (3, .int p3), (4, .int p4), (5, .int x1)]) h [0, 1, 3, 4, 5] rfl ?_
                exact hk8 p2 _ hD
              · refine g_iconst (v := 0) h t_X11_sheet_46 (by decide) ?_
                refine g_goto (tgt := 51) h t_X11_sheet_47 (by decide) ?_
                refine g_loc (L' := [(0, .ref (ρ 75)), (1, .int p1), (3, .int p3), (4, .int p4), (5, .int x1)]) h [0, 1, 3, 4, 5] rfl ?_
                exact hk8 0 _ hD
          · refine g_if_ne (tgt := 41) h t_X11_sheet_31 (by decide) hD (fun hD => ?_) (fun hD => ?_)
            · refine g_loc (L' := [(0, .ref (ρ 75)), (1, .int p1), (2, .int p2), (3, .int p3), (4, .int p4), (5, .int x1)]) h [1, 2, 3, 4, 5, 0] rfl ?_
              exact hk5 _ hD
            · refine g_iload_n h 3 t_X11_sheet_34 rfl ?_
              refine g_if_ge (tgt := 41) h t_X11_sheet_35 (by decide) hD (fun hD => ?_) (fun hD => ?_)
              · refine g_loc (L' := [(0, .ref (ρ 75)), (1, .int p1), (2, .int p2), (3, .int p3), (4, .int p4), (5, .int x1)]) h [1, 2, 3, 4, 5, 0] rfl ?_
                exact hk5 _ hD
              · refine g_bipush (v := (-2)) h t_X11_sheet_38 (by decide) ?_
                obtain rfl := Option.some.inj hD
                exact hR _ _ t_X11_sheet_40 rfl
        · refine g_icmp_ne (tgt := 26) h t_X11_sheet_19 (by decide) hD (fun hD => ?_) (fun hD => ?_)
          · refine g_iconst (v := 0) h t_X11_sheet_26 (by decide) ?_
            refine g_loc (L' := [(0, .ref (ρ 75)), (1, .int p1), (2, .int p2), (3, .int p3), (4, .int p4)]) h [0, 1, 2, 3, 4] rfl ?_
            exact hk3 0 _ hD
          · refine g_iconst (v := 1) h t_X11_sheet_22 (by decide) ?_
            refine g_goto (tgt := 27) h t_X11_sheet_23 (by decide) ?_
            refine g_loc (L' := [(0, .ref (ρ 75)), (1, .int p1), (2, .int p2), (3, .int p3), (4, .int p4)]) h [0, 1, 2, 3, 4] rfl ?_
            exact hk3 1 _ hD
      · refine g_iconst (v := (-1)) h t_X11_sheet_15 (by decide) ?_
        obtain rfl := Option.some.inj hD
        exact hR _ _ t_X11_sheet_16 rfl
def D_X11_refusal (p1 : Int32) : Wd → Option (Int32 × Wd) := fun w =>
  if p1 < 0 then (some ((-1), w)) else (if p1 < (w.1 0 2) then (bc (D_X5_canMove 0 p1 w) fun x2 w1 => if x2 = 0 then (some ((-2), w1)) else (some (0, w1))) else (some ((-1), w)))
set_option maxRecDepth 20000 in
theorem S_X11_refusal {l0 : Launch} {ρ : Nat → Nat} {cs : Nat → ClassId} {G : va_G} (hρ : injN ρ) {p1 : Int32} {w : Wd} {rr : (Int32 × Wd)} (hD : D_X11_refusal p1 w = some rr) : CtI l0 ρ cs G y_X11_refusal prog_1_method_15_code 2 .int 1 [.ref (ρ 75), .int p1] w rr.1 rr.2 := by
  refine ctI_of hρ (by decide) (Nat.le_of_ble_eq_true rfl) (fun X hn h hR => ?_)
  unfold D_X11_refusal at hD
  show gG ρ cs G X 0 [(0, .ref (ρ 75)), (1, .int p1)] [] w
  refine g_iload_n h 1 t_X11_refusal_0 rfl ?_
  refine g_if_lt (tgt := 15) h t_X11_refusal_1 (by decide) hD (fun hD => ?_) (fun hD => ?_)
  · refine g_iconst (v := (-1)) h t_X11_refusal_15 (by decide) ?_
    obtain rfl := Option.some.inj hD
    exact hR _ _ t_X11_refusal_16 rfl
  · refine g_iload_n h 1 t_X11_refusal_4 rfl ?_
    refine g_aload_n h 0 t_X11_refusal_5 rfl ?_
    refine g_getR h 75 0 0 fl_11_10 rfl (by decide) rfl t_X11_refusal_6 ?_
    refine g_getI h 0 2 fl_11_152 rfl (by decide) rfl t_X11_refusal_9 ?_
    refine g_icmp_lt (tgt := 17) h t_X11_refusal_12 (by decide) hD (fun hD => ?_) (fun hD => ?_)
    · refine g_aload_n h 0 t_X11_refusal_17 rfl ?_
      refine g_getR h 75 0 0 fl_11_10 rfl (by decide) rfl t_X11_refusal_18 ?_
      refine g_iload_n h 1 t_X11_refusal_21 rfl ?_
      refine g_callVI h 0 (As := [.int p1]) (st := []) my_X5_canMove mi_X5_canMove ml_11_242 rfl (by decide) rfl rfl rfl (Nat.le_of_ble_eq_true rfl) (by decide) t_X11_refusal_22 hD (fun _ _ e => S_X5_canMove hρ (by decide) e) (fun x2 w1 hD => ?_)
      refine g_if_eq (tgt := 32) h t_X11_refusal_25 (by decide) hD (fun hD => ?_) (fun hD => ?_)
      · refine g_bipush (v := (-2)) h t_X11_refusal_32 (by decide) ?_
        obtain rfl := Option.some.inj hD
        exact hR _ _ t_X11_refusal_34 rfl
      · refine g_iconst (v := 0) h t_X11_refusal_28 (by decide) ?_
        refine g_goto (tgt := 34) h t_X11_refusal_29 (by decide) ?_
        obtain rfl := Option.some.inj hD
        exact hR _ _ t_X11_refusal_34 rfl
    · refine g_iconst (v := (-1)) h t_X11_refusal_15 (by decide) ?_
      obtain rfl := Option.some.inj hD
      exact hR _ _ t_X11_refusal_16 rfl
def D_X11_moves (p1 : Int32) : Wd → Option (Int32 × Wd) := fun w =>
  bc (D_X11_refusal p1 w) fun x2 w1 => if 0 ≤ x2 then (bv (D_X0_push 0 w1) fun w3 => bc (D_X1_make 84 0 p1 (w3.1 75 18) w3) fun x5 w4 => bv (D_X3_tell__ ((w4.1 84 5).toInt64) ((w4.1 84 6).toInt64) ((w4.1 0 3).toInt64) w4) fun w6 => some (w6.1 84 4, w6)) else (some (x2, w1))
set_option maxRecDepth 20000 in
theorem S_X11_moves {l0 : Launch} {ρ : Nat → Nat} {cs : Nat → ClassId} {G : va_G} (hρ : injN ρ) {p1 : Int32} {w : Wd} {rr : (Int32 × Wd)} (hD : D_X11_moves p1 w = some rr) : CtI l0 ρ cs G y_X11_moves prog_1_method_14_code 3 .int 4 [.ref (ρ 75), .int p1] w rr.1 rr.2 := by
  refine ctI_of hρ (by decide) (Nat.le_of_ble_eq_true rfl) (fun X hn h hR => ?_)
  unfold D_X11_moves at hD
  show gG ρ cs G X 0 [(0, .ref (ρ 75)), (1, .int p1)] [] w
  refine g_aload_n h 0 t_X11_moves_0 rfl ?_
  refine g_iload_n h 1 t_X11_moves_1 rfl ?_
  refine g_callVI h 75 (As := [.int p1]) (st := []) my_X11_refusal mi_X11_refusal ml_11_218 rfl (by decide) rfl rfl rfl (Nat.le_of_ble_eq_true rfl) (by decide) t_X11_moves_2 hD (fun _ _ e => S_X11_refusal hρ  e) (fun x2 w1 hD => ?_)
  refine g_istore_n (L' := [(2, .int x2), (0, .ref (ρ 75)), (1, .int p1)]) h hn t_X11_moves_5 rfl (by decide) rfl ?_
  refine g_iload_n h 0 t_X11_moves_6 rfl ?_
  refine g_if_ge (tgt := 12) h t_X11_moves_7 (by decide) hD (fun hD => ?_) (fun hD => ?_)
  · refine g_aload_n h 1 t_X11_moves_12 rfl ?_
    refine g_getR h 75 5 78 fl_11_33 rfl (by decide) rfl t_X11_moves_13 ?_
    refine g_aload_n h 1 t_X11_moves_16 rfl ?_
    refine g_getR h 75 0 0 fl_11_10 rfl (by decide) rfl t_X11_moves_17 ?_
    refine g_callVV h 78 (As := [.ref (ρ 0)]) (st := []) my_X0_push mi_X0_push ml_11_221 rfl (by decide) rfl rfl rfl (Nat.le_of_ble_eq_true rfl) (by decide) t_X11_moves_20 hD (fun _ e => S_X0_push hρ (by decide) e) (fun w3 hD => ?_)
    refine g_aload_n h 1 t_X11_moves_23 rfl ?_
    refine g_getR h 75 8 84 fl_11_54 rfl (by decide) rfl t_X11_moves_24 ?_
    refine g_aload_n h 1 t_X11_moves_27 rfl ?_
    refine g_getR h 75 0 0 fl_11_10 rfl (by decide) rfl t_X11_moves_28 ?_
    refine g_iload_n h 2 t_X11_moves_31 rfl ?_
    refine g_aload_n h 1 t_X11_moves_32 rfl ?_
    refine g_getI h 75 18 fl_11_112 rfl (by decide) rfl t_X11_moves_33 ?_
    refine g_callVI h 84 (As := [.ref (ρ 0), .int p1, .int (w3.1 75 18)]) (st := []) my_X1_make mi_X1_make ml_11_225 rfl (by decide) rfl rfl rfl (Nat.le_of_ble_eq_true rfl) (by decide) t_X11_moves_36 hD (fun _ _ e => S_X1_make hρ (by decide) (by decide) e) (fun x5 w4 hD => ?_)
    refine g_pop h t_X11_moves_39 rfl ?_
    refine g_aload_n h 1 t_X11_moves_40 rfl ?_
    refine g_getR h 75 7 82 fl_11_47 rfl (by decide) rfl t_X11_moves_41 ?_
    refine g_aload_n h 1 t_X11_moves_44 rfl ?_
    refine g_getR h 75 8 84 fl_11_54 rfl (by decide) rfl t_X11_moves_45 ?_
    refine g_getI h 84 5 fl_11_229 rfl (by decide) rfl t_X11_moves_48 ?_
    refine g_i2l h t_X11_moves_51 ?_
    refine g_aload_n h 1 t_X11_moves_52 rfl ?_
    refine g_getR h 75 8 84 fl_11_54 rfl (by decide) rfl t_X11_moves_53 ?_
    refine g_getI h 84 6 fl_11_232 rfl (by decide) rfl t_X11_moves_56 ?_
    refine g_i2l h t_X11_moves_59 ?_
    refine g_aload_n h 1 t_X11_moves_60 rfl ?_
    refine g_getR h 75 0 0 fl_11_10 rfl (by decide) rfl t_X11_moves_61 ?_
    refine g_getI h 0 3 fl_11_158 rfl (by decide) rfl t_X11_moves_64 ?_
    refine g_i2l h t_X11_moves_67 ?_
    refine g_callVV h 82 (As := [.long ((w4.1 84 5).toInt64), .long ((w4.1 84 6).toInt64), .long ((w4.1 0 3).toInt64)]) (st := []) my_X3_tell__ mi_X3_tell__ ml_11_235 rfl (by decide) rfl rfl rfl (Nat.le_of_ble_eq_true rfl) (by decide) t_X11_moves_68 hD (fun _ e => S_X3_tell__ hρ  e) (fun w6 hD => ?_)
    refine g_aload_n h 1 t_X11_moves_71 rfl ?_
    refine g_getR h 75 8 84 fl_11_54 rfl (by decide) rfl t_X11_moves_72 ?_
    refine g_getI h 84 4 fl_11_239 rfl (by decide) rfl t_X11_moves_75 ?_
    obtain rfl := Option.some.inj hD
    exact hR _ _ t_X11_moves_78 rfl
  · refine g_iload_n h 0 t_X11_moves_10 rfl ?_
    obtain rfl := Option.some.inj hD
    exact hR _ _ t_X11_moves_11 rfl
def L_X11_playOn_2 (q1 : Nat) (x2 : Int32) (k3 : Int32 → Wd → Option (Int32 × Wd)) : Nat → Int32 → Wd → Option (Int32 × Wd)
  | 0, _, _ => none
  | n4 + 1, x5, w6 =>
    if x2 ≤ x5 then (k3 x5 w6) else (bc (D_X4_play q1 106 (w6.1 75 18) w6) fun x8 w7 => if x8 = 0 then (k3 x5 w7) else (bd (x5 + 1) fun x9 => L_X11_playOn_2 q1 x2 k3 n4 x9 w7))
def J_X11_playOn_x32_1  : Int32 → Wd → Option (Int32 × Wd) := fun x10 w11 =>
  some (x10, w11)
def D_X11_playOn (o1 : Nat) (p2 : Int32) : Wd → Option (Int32 × Wd) := fun w =>
  L_X11_playOn_2 o1 p2 J_X11_playOn_x32_1 FU 0 w
set_option maxRecDepth 20000 in
theorem Q_X11_playOn_2 {l0 : Launch} {ρ : Nat → Nat} {cs : Nat → ClassId} {G : va_G} {X : Cx} (hρ : injN ρ) (hn : X.2.2.2.2.2.2.2.2.2.2.1 = 4) (h : Okx l0 ρ cs G X prog_1_method_17_code "SowingBoards" 13) {rr : (Int32 × Wd)} (hR : ∀ pc L, decode prog_1_method_17_code pc = .ok (.ireturn, 1) → narrow .int (.int rr.1) = .int rr.1 → gG ρ cs G X pc L [.int rr.1] rr.2) {q1 : Nat} (hq1 : isPos q1) {x2 : Int32} {k3 : Int32 → Wd → Option (Int32 × Wd)} (hk3 : ∀ (z3 : Int32) (w1 : Wd), k3 z3 w1 = some rr → gG ρ cs G X 32 [(3, .int z3)] [] w1) : ∀ (n : Nat) (x5 : Int32) (w : Wd), L_X11_playOn_2 q1 x2 k3 n x5 w = some rr → gG ρ cs G X 2 [(0, .ref (ρ 75)), (1, .ref (ρ q1)), (2, .int x2), (3, .int x5)] [] w := by
  intro n
  induction n with
  | zero =>
    intro x5 w hD
    cases hD
  | succ n4 ih =>
    intro x5 w6 hD
    unfold L_X11_playOn_2 at hD
    refine g_iload_n h 3 t_X11_playOn_2 rfl ?_
    refine g_iload_n h 2 t_X11_playOn_3 rfl ?_
    refine g_icmp_ge (tgt := 32) h t_X11_playOn_4 (by decide) hD (fun hD => ?_) (fun hD => ?_)
    · refine g_loc (L' := [(3, .int x5)]) h [3] rfl ?_
      exact hk3 x5 _ hD
    · refine g_aload_n h 0 t_X11_playOn_7 rfl ?_
      refine g_getR h 75 9 85 fl_11_61 rfl (by decide) rfl t_X11_playOn_8 ?_
      refine g_aload_n h 1 t_X11_playOn_11 rfl ?_
      refine g_aload_n h 0 t_X11_playOn_12 rfl ?_
      refine g_getR h 75 13 106 fl_11_89 rfl (by decide) rfl t_X11_playOn_13 ?_
      refine g_aload_n h 0 t_X11_playOn_16 rfl ?_
      refine g_getI h 75 18 fl_11_112 rfl (by decide) rfl t_X11_playOn_17 ?_
      refine g_callVI h 85 (As := [.ref (ρ q1), .ref (ρ 106), .int (w6.1 75 18)]) (st := []) my_X4_play mi_X4_play ml_11_256 rfl (by decide) rfl rfl rfl (Nat.le_of_ble_eq_true rfl) (by decide) t_X11_playOn_20 hD (fun _ _ e => S_X4_play hρ hq1 (by decide) e) (fun x8 w7 hD => ?_)
      refine g_if_eq (tgt := 32) h t_X11_playOn_23 (by decide) hD (fun hD => ?_) (fun hD => ?_)
      · refine g_loc (L' := [(3, .int x5)]) h [3] rfl ?_
        exact hk3 x5 _ hD
      · obtain ⟨x9, ex9, hD⟩ := bd_ex hD
        refine g_iinc (v := x9) (L' := [(3, .int x9), (0, .ref (ρ 75)), (1, .ref (ρ q1)), (2, .int x2)]) h hn t_X11_playOn_26 (k := 3) rfl (by rw [ex9]; rfl) (by decide) rfl ?_
        refine g_goto (tgt := 2) h t_X11_playOn_29 (by decide) ?_
        refine g_loc (L' := [(0, .ref (ρ 75)), (1, .ref (ρ q1)), (2, .int x2), (3, .int x9)]) h [1, 2, 3, 0] rfl ?_
        exact ih x9 _ hD
set_option maxRecDepth 20000 in
theorem S_X11_playOn {l0 : Launch} {ρ : Nat → Nat} {cs : Nat → ClassId} {G : va_G} (hρ : injN ρ) {o1 : Nat} (ho1 : isPos o1) {p2 : Int32} {w : Wd} {rr : (Int32 × Wd)} (hD : D_X11_playOn o1 p2 w = some rr) : CtI l0 ρ cs G y_X11_playOn prog_1_method_17_code 4 .int 13 [.ref (ρ 75), .ref (ρ o1), .int p2] w rr.1 rr.2 := by
  refine ctI_of hρ (by decide) (Nat.le_of_ble_eq_true rfl) (fun X hn h hR => ?_)
  unfold D_X11_playOn at hD
  show gG ρ cs G X 0 [(0, .ref (ρ 75)), (1, .ref (ρ o1)), (2, .int p2)] [] w
  refine g_iconst (v := 0) h t_X11_playOn_0 (by decide) ?_
  refine g_istore_n (L' := [(3, .int 0), (0, .ref (ρ 75)), (1, .ref (ρ o1)), (2, .int p2)]) h hn t_X11_playOn_1 rfl (by decide) rfl ?_
  refine g_loc (L' := [(0, .ref (ρ 75)), (1, .ref (ρ o1)), (2, .int p2), (3, .int 0)]) h [1, 2, 3, 0] rfl ?_
  refine Q_X11_playOn_2 hρ hn h hR ho1 ?_ _ _ _ hD
  · intro x10 w11 hD
    unfold J_X11_playOn_x32_1 at hD
    refine g_iload_n h 0 t_X11_playOn_32 rfl ?_
    obtain rfl := Option.some.inj hD
    exact hR _ _ t_X11_playOn_33 rfl
def D_X11_plays (p1 : Int32) : Wd → Option (Int32 × Wd) := fun w =>
  if p1 < 1 then (some ((-1), w)) else (if p1 ≤ 60 then (bc (D_X5_isOver 0 w) fun x2 w1 => if x2 = 0 then (bv (D_X0_push 0 w1) fun w3 => bc (D_X11_playOn 0 p1 w3) fun x5 w4 => if ib 0 2 then (if ib 1 2 then (bv (D_X3_tell_ ((w4.1 2 (0 : Int32).toNatClampNeg).toInt64) ((w4.1 2 (1 : Int32).toNatClampNeg).toInt64) w4) fun w6 => some (x5, w6)) else none) else none) else (some ((-2), w1))) else (some ((-1), w)))
set_option maxRecDepth 20000 in
theorem S_X11_plays {l0 : Launch} {ρ : Nat → Nat} {cs : Nat → ClassId} {G : va_G} (hρ : injN ρ) {p1 : Int32} {w : Wd} {rr : (Int32 × Wd)} (hD : D_X11_plays p1 w = some rr) : CtI l0 ρ cs G y_X11_plays prog_1_method_16_code 3 .int 14 [.ref (ρ 75), .int p1] w rr.1 rr.2 := by
  refine ctI_of hρ (by decide) (Nat.le_of_ble_eq_true rfl) (fun X hn h hR => ?_)
  unfold D_X11_plays at hD
  show gG ρ cs G X 0 [(0, .ref (ρ 75)), (1, .int p1)] [] w
  refine g_iload_n h 1 t_X11_plays_0 rfl ?_
  refine g_iconst (v := 1) h t_X11_plays_1 (by decide) ?_
  refine g_icmp_lt (tgt := 11) h t_X11_plays_2 (by decide) hD (fun hD => ?_) (fun hD => ?_)
  · refine g_iconst (v := (-1)) h t_X11_plays_11 (by decide) ?_
    obtain rfl := Option.some.inj hD
    exact hR _ _ t_X11_plays_12 rfl
  · refine g_iload_n h 1 t_X11_plays_5 rfl ?_
    refine g_bipush (v := 60) h t_X11_plays_6 (by decide) ?_
    refine g_icmp_le (tgt := 13) h t_X11_plays_8 (by decide) hD (fun hD => ?_) (fun hD => ?_)
    · refine g_aload_n h 0 t_X11_plays_13 rfl ?_
      refine g_getR h 75 0 0 fl_11_10 rfl (by decide) rfl t_X11_plays_14 ?_
      refine g_callVI h 0 (As := []) (st := []) my_X5_isOver mi_X5_isOver ml_11_245 rfl (by decide) rfl rfl rfl (Nat.le_of_ble_eq_true rfl) (by decide) t_X11_plays_17 hD (fun _ _ e => S_X5_isOver hρ (by decide) e) (fun x2 w1 hD => ?_)
      refine g_if_eq (tgt := 26) h t_X11_plays_20 (by decide) hD (fun hD => ?_) (fun hD => ?_)
      · refine g_aload_n h 0 t_X11_plays_26 rfl ?_
        refine g_getR h 75 5 78 fl_11_33 rfl (by decide) rfl t_X11_plays_27 ?_
        refine g_aload_n h 0 t_X11_plays_30 rfl ?_
        refine g_getR h 75 0 0 fl_11_10 rfl (by decide) rfl t_X11_plays_31 ?_
        refine g_callVV h 78 (As := [.ref (ρ 0)]) (st := []) my_X0_push mi_X0_push ml_11_221 rfl (by decide) rfl rfl rfl (Nat.le_of_ble_eq_true rfl) (by decide) t_X11_plays_34 hD (fun _ e => S_X0_push hρ (by decide) e) (fun w3 hD => ?_)
        refine g_aload_n h 0 t_X11_plays_37 rfl ?_
        refine g_aload_n h 0 t_X11_plays_38 rfl ?_
        refine g_getR h 75 0 0 fl_11_10 rfl (by decide) rfl t_X11_plays_39 ?_
        refine g_iload_n h 1 t_X11_plays_42 rfl ?_
        refine g_callVI h 75 (As := [.ref (ρ 0), .int p1]) (st := []) my_X11_playOn mi_X11_playOn ml_11_249 rfl (by decide) rfl rfl rfl (Nat.le_of_ble_eq_true rfl) (by decide) t_X11_plays_43 hD (fun _ _ e => S_X11_playOn hρ (by decide) e) (fun x5 w4 hD => ?_)
        refine g_istore_n (L' := [(2, .int x5), (0, .ref (ρ 75)), (1, .int p1)]) h hn t_X11_plays_46 rfl (by decide) rfl ?_
        refine g_aload_n h 1 t_X11_plays_47 rfl ?_
        refine g_getR h 75 7 82 fl_11_47 rfl (by decide) rfl t_X11_plays_48 ?_
        refine g_aload_n h 1 t_X11_plays_51 rfl ?_
        refine g_getR h 75 0 0 fl_11_10 rfl (by decide) rfl t_X11_plays_52 ?_
        refine g_getQ h 0 1 2 2 (by decide) rfl fl_11_155 rfl (by decide) rfl t_X11_plays_55 ?_
        refine g_iconst (v := 0) h t_X11_plays_58 (by decide) ?_
        refine g_iald h 2 rfl (by decide) t_X11_plays_59 hD (fun hD => ?_)
        refine g_i2l h t_X11_plays_60 ?_
        refine g_aload_n h 1 t_X11_plays_61 rfl ?_
        refine g_getR h 75 0 0 fl_11_10 rfl (by decide) rfl t_X11_plays_62 ?_
        refine g_getQ h 0 1 2 2 (by decide) rfl fl_11_155 rfl (by decide) rfl t_X11_plays_65 ?_
        refine g_iconst (v := 1) h t_X11_plays_68 (by decide) ?_
        refine g_iald h 2 rfl (by decide) t_X11_plays_69 hD (fun hD => ?_)
        refine g_i2l h t_X11_plays_70 ?_
        refine g_callVV h 82 (As := [.long ((w4.1 2 (0 : Int32).toNatClampNeg).toInt64), .long ((w4.1 2 (1 : Int32).toNatClampNeg).toInt64)]) (st := []) my_X3_tell_ mi_X3_tell_ ml_11_253 rfl (by decide) rfl rfl rfl (Nat.le_of_ble_eq_true rfl) (by decide) t_X11_plays_71 hD (fun _ e => S_X3_tell_ hρ  e) (fun w6 hD => ?_)
        refine g_iload_n h 0 t_X11_plays_74 rfl ?_
        obtain rfl := Option.some.inj hD
        exact hR _ _ t_X11_plays_75 rfl
      · refine g_bipush (v := (-2)) h t_X11_plays_23 (by decide) ?_
        obtain rfl := Option.some.inj hD
        exact hR _ _ t_X11_plays_25 rfl
    · refine g_iconst (v := (-1)) h t_X11_plays_11 (by decide) ?_
      obtain rfl := Option.some.inj hD
      exact hR _ _ t_X11_plays_12 rfl
def D_X11_passes  : Wd → Option (Int32 × Wd) := fun w =>
  bv (D_X0_push 0 w) fun w1 => bv (D_X5_pass 0 w1) fun w2 => some (w2.1 0 3, w2)
set_option maxRecDepth 20000 in
theorem S_X11_passes {l0 : Launch} {ρ : Nat → Nat} {cs : Nat → ClassId} {G : va_G} (hρ : injN ρ)  {w : Wd} {rr : (Int32 × Wd)} (hD : D_X11_passes w = some rr) : CtI l0 ρ cs G y_X11_passes prog_1_method_18_code 1 .int 2 [.ref (ρ 75)] w rr.1 rr.2 := by
  refine ctI_of hρ (by decide) (Nat.le_of_ble_eq_true rfl) (fun X hn h hR => ?_)
  unfold D_X11_passes at hD
  show gG ρ cs G X 0 [(0, .ref (ρ 75))] [] w
  refine g_aload_n h 0 t_X11_passes_0 rfl ?_
  refine g_getR h 75 5 78 fl_11_33 rfl (by decide) rfl t_X11_passes_1 ?_
  refine g_aload_n h 0 t_X11_passes_4 rfl ?_
  refine g_getR h 75 0 0 fl_11_10 rfl (by decide) rfl t_X11_passes_5 ?_
  refine g_callVV h 78 (As := [.ref (ρ 0)]) (st := []) my_X0_push mi_X0_push ml_11_221 rfl (by decide) rfl rfl rfl (Nat.le_of_ble_eq_true rfl) (by decide) t_X11_passes_8 hD (fun _ e => S_X0_push hρ (by decide) e) (fun w1 hD => ?_)
  refine g_aload_n h 0 t_X11_passes_11 rfl ?_
  refine g_getR h 75 0 0 fl_11_10 rfl (by decide) rfl t_X11_passes_12 ?_
  refine g_callVV h 0 (As := []) (st := []) my_X5_pass mi_X5_pass ml_11_260 rfl (by decide) rfl rfl rfl (Nat.le_of_ble_eq_true rfl) (by decide) t_X11_passes_15 hD (fun _ e => S_X5_pass hρ (by decide) e) (fun w2 hD => ?_)
  refine g_aload_n h 0 t_X11_passes_18 rfl ?_
  refine g_getR h 75 0 0 fl_11_10 rfl (by decide) rfl t_X11_passes_19 ?_
  refine g_getI h 0 3 fl_11_158 rfl (by decide) rfl t_X11_passes_22 ?_
  obtain rfl := Option.some.inj hD
  exact hR _ _ t_X11_passes_25 rfl
def D_X11_adds (p1 : Int32) (p2 : Int32) : Wd → Option (Int32 × Wd) := fun w =>
  bc (D_X5_hasPit 0 p1 w) fun x2 w1 => if x2 = 0 then (some ((-1), w1)) else (if p2 < 1 then (some ((-1), w1)) else (if p2 ≤ 9 then (bc (D_X5_inAll 0 w1) fun x4 w3 => if (x4 + p2) ≤ 200 then (bv (D_X0_push 0 w3) fun w5 => if ib p1 12 then (if ib p1 12 then bd (wI w5 1 p1.toNatClampNeg ((w5.1 1 p1.toNatClampNeg) + p2)) (fun w6 => if ib p1 12 then (some (w6.1 1 p1.toNatClampNeg, w6)) else none) else none) else none) else (some ((-2), w3))) else (some ((-1), w1))))
set_option maxRecDepth 20000 in
theorem S_X11_adds {l0 : Launch} {ρ : Nat → Nat} {cs : Nat → ClassId} {G : va_G} (hρ : injN ρ) {p1 : Int32} {p2 : Int32} {w : Wd} {rr : (Int32 × Wd)} (hD : D_X11_adds p1 p2 w = some rr) : CtI l0 ρ cs G y_X11_adds prog_1_method_19_code 3 .int 3 [.ref (ρ 75), .int p1, .int p2] w rr.1 rr.2 := by
  refine ctI_of hρ (by decide) (Nat.le_of_ble_eq_true rfl) (fun X hn h hR => ?_)
  unfold D_X11_adds at hD
  show gG ρ cs G X 0 [(0, .ref (ρ 75)), (1, .int p1), (2, .int p2)] [] w
  refine g_aload_n h 0 t_X11_adds_0 rfl ?_
  refine g_getR h 75 0 0 fl_11_10 rfl (by decide) rfl t_X11_adds_1 ?_
  refine g_iload_n h 1 t_X11_adds_4 rfl ?_
  refine g_callVI h 0 (As := [.int p1]) (st := []) my_X5_hasPit mi_X5_hasPit ml_11_194 rfl (by decide) rfl rfl rfl (Nat.le_of_ble_eq_true rfl) (by decide) t_X11_adds_5 hD (fun _ _ e => S_X5_hasPit hρ (by decide) e) (fun x2 w1 hD => ?_)
  refine g_if_eq (tgt := 22) h t_X11_adds_8 (by decide) hD (fun hD => ?_) (fun hD => ?_)
  · refine g_iconst (v := (-1)) h t_X11_adds_22 (by decide) ?_
    obtain rfl := Option.some.inj hD
    exact hR _ _ t_X11_adds_23 rfl
  · refine g_iload_n h 2 t_X11_adds_11 rfl ?_
    refine g_iconst (v := 1) h t_X11_adds_12 (by decide) ?_
    refine g_icmp_lt (tgt := 22) h t_X11_adds_13 (by decide) hD (fun hD => ?_) (fun hD => ?_)
    · refine g_iconst (v := (-1)) h t_X11_adds_22 (by decide) ?_
      obtain rfl := Option.some.inj hD
      exact hR _ _ t_X11_adds_23 rfl
    · refine g_iload_n h 2 t_X11_adds_16 rfl ?_
      refine g_bipush (v := 9) h t_X11_adds_17 (by decide) ?_
      refine g_icmp_le (tgt := 24) h t_X11_adds_19 (by decide) hD (fun hD => ?_) (fun hD => ?_)
      · refine g_aload_n h 0 t_X11_adds_24 rfl ?_
        refine g_getR h 75 0 0 fl_11_10 rfl (by decide) rfl t_X11_adds_25 ?_
        refine g_callVI h 0 (As := []) (st := []) my_X5_inAll mi_X5_inAll ml_11_263 rfl (by decide) rfl rfl rfl (Nat.le_of_ble_eq_true rfl) (by decide) t_X11_adds_28 hD (fun _ _ e => S_X5_inAll hρ (by decide) e) (fun x4 w3 hD => ?_)
        refine g_iload_n h 2 t_X11_adds_31 rfl ?_
        refine g_iadd h t_X11_adds_32 ?_
        refine g_sipush (v := 200) h t_X11_adds_33 (by decide) ?_
        refine g_icmp_le (tgt := 42) h t_X11_adds_36 (by decide) hD (fun hD => ?_) (fun hD => ?_)
        · refine g_aload_n h 0 t_X11_adds_42 rfl ?_
          refine g_getR h 75 5 78 fl_11_33 rfl (by decide) rfl t_X11_adds_43 ?_
          refine g_aload_n h 0 t_X11_adds_46 rfl ?_
          refine g_getR h 75 0 0 fl_11_10 rfl (by decide) rfl t_X11_adds_47 ?_
          refine g_callVV h 78 (As := [.ref (ρ 0)]) (st := []) my_X0_push mi_X0_push ml_11_221 rfl (by decide) rfl rfl rfl (Nat.le_of_ble_eq_true rfl) (by decide) t_X11_adds_50 hD (fun _ e => S_X0_push hρ (by decide) e) (fun w5 hD => ?_)
          refine g_aload_n h 0 t_X11_adds_53 rfl ?_
          refine g_getR h 75 0 0 fl_11_10 rfl (by decide) rfl t_X11_adds_54 ?_
          refine g_getQ h 0 0 1 1 (by decide) rfl fl_11_120 rfl (by decide) rfl t_X11_adds_57 ?_
          refine g_iload_n h 1 t_X11_adds_60 rfl ?_
          refine g_dup2 h t_X11_adds_61 rfl rfl ?_
          refine g_iald h 1 rfl (by decide) t_X11_adds_62 hD (fun hD => ?_)
          refine g_iload_n h 2 t_X11_adds_63 rfl ?_
          refine g_iadd h t_X11_adds_64 ?_
          refine g_iast h 1 rfl (by decide) t_X11_adds_65 hD (fun w6 hD => ?_)
          refine g_aload_n h 0 t_X11_adds_66 rfl ?_
          refine g_getR h 75 0 0 fl_11_10 rfl (by decide) rfl t_X11_adds_67 ?_
          refine g_getQ h 0 0 1 1 (by decide) rfl fl_11_120 rfl (by decide) rfl t_X11_adds_70 ?_
          refine g_iload_n h 1 t_X11_adds_73 rfl ?_
          refine g_iald h 1 rfl (by decide) t_X11_adds_74 hD (fun hD => ?_)
          obtain rfl := Option.some.inj hD
          exact hR _ _ t_X11_adds_75 rfl
        · refine g_bipush (v := (-2)) h t_X11_adds_39 (by decide) ?_
          obtain rfl := Option.some.inj hD
          exact hR _ _ t_X11_adds_41 rfl
      · refine g_iconst (v := (-1)) h t_X11_adds_22 (by decide) ?_
        obtain rfl := Option.some.inj hD
        exact hR _ _ t_X11_adds_23 rfl
def D_X11_doAct (p1 : Int32) : Wd → Option (Int32 × Wd) := fun w =>
  if p1 = 47 then (bv (D_X5_pass 0 w) fun w5 => some (1, w5)) else (if p1 = 42 then (bc (D_X4_play 0 106 (w.1 75 18) w) fun x4 w3 => if b01 x4 then some (x4, w3) else none) else (bc (D_X1_make 84 0 (p1 - 48) (w.1 75 18) w) fun x2 w1 => if b01 x2 then some (x2, w1) else none))
set_option maxRecDepth 20000 in
theorem S_X11_doAct {l0 : Launch} {ρ : Nat → Nat} {cs : Nat → ClassId} {G : va_G} (hρ : injN ρ) {p1 : Int32} {w : Wd} {rr : (Int32 × Wd)} (hD : D_X11_doAct p1 w = some rr) : CtI l0 ρ cs G y_X11_doAct prog_1_method_23_code 2 .boolean 13 [.ref (ρ 75), .int p1] w rr.1 rr.2 := by
  refine ctI_of hρ (by decide) (Nat.le_of_ble_eq_true rfl) (fun X hn h hR => ?_)
  unfold D_X11_doAct at hD
  show gG ρ cs G X 0 [(0, .ref (ρ 75)), (1, .int p1)] [] w
  refine g_iload_n h 1 t_X11_doAct_0 rfl ?_
  refine g_bipush (v := 47) h t_X11_doAct_1 (by decide) ?_
  refine g_icmp_ne (tgt := 15) h t_X11_doAct_3 (by decide) hD (fun hD => ?_) (fun hD => ?_)
  · refine g_iload_n h 1 t_X11_doAct_15 rfl ?_
    refine g_bipush (v := 42) h t_X11_doAct_16 (by decide) ?_
    refine g_icmp_ne (tgt := 41) h t_X11_doAct_18 (by decide) hD (fun hD => ?_) (fun hD => ?_)
    · refine g_aload_n h 0 t_X11_doAct_41 rfl ?_
      refine g_getR h 75 8 84 fl_11_54 rfl (by decide) rfl t_X11_doAct_42 ?_
      refine g_aload_n h 0 t_X11_doAct_45 rfl ?_
      refine g_getR h 75 0 0 fl_11_10 rfl (by decide) rfl t_X11_doAct_46 ?_
      refine g_iload_n h 1 t_X11_doAct_49 rfl ?_
      refine g_bipush (v := 48) h t_X11_doAct_50 (by decide) ?_
      refine g_isub h t_X11_doAct_52 ?_
      refine g_aload_n h 0 t_X11_doAct_53 rfl ?_
      refine g_getI h 75 18 fl_11_112 rfl (by decide) rfl t_X11_doAct_54 ?_
      refine g_callVI h 84 (As := [.ref (ρ 0), .int (p1 - 48), .int (w.1 75 18)]) (st := []) my_X1_make mi_X1_make ml_11_225 rfl (by decide) rfl rfl rfl (Nat.le_of_ble_eq_true rfl) (by decide) t_X11_doAct_57 hD (fun _ _ e => S_X1_make hρ (by decide) (by decide) e) (fun x2 w1 hD => ?_)
      obtain ⟨hb, hD⟩ := of_ite hD
      obtain rfl := Option.some.inj hD
      exact hR _ _ t_X11_doAct_60 (b01_n hb)
    · refine g_aload_n h 0 t_X11_doAct_21 rfl ?_
      refine g_getR h 75 9 85 fl_11_61 rfl (by decide) rfl t_X11_doAct_22 ?_
      refine g_aload_n h 0 t_X11_doAct_25 rfl ?_
      refine g_getR h 75 0 0 fl_11_10 rfl (by decide) rfl t_X11_doAct_26 ?_
      refine g_aload_n h 0 t_X11_doAct_29 rfl ?_
      refine g_getR h 75 13 106 fl_11_89 rfl (by decide) rfl t_X11_doAct_30 ?_
      refine g_aload_n h 0 t_X11_doAct_33 rfl ?_
      refine g_getI h 75 18 fl_11_112 rfl (by decide) rfl t_X11_doAct_34 ?_
      refine g_callVI h 85 (As := [.ref (ρ 0), .ref (ρ 106), .int (w.1 75 18)]) (st := []) my_X4_play mi_X4_play ml_11_256 rfl (by decide) rfl rfl rfl (Nat.le_of_ble_eq_true rfl) (by decide) t_X11_doAct_37 hD (fun _ _ e => S_X4_play hρ (by decide) (by decide) e) (fun x4 w3 hD => ?_)
      obtain ⟨hb, hD⟩ := of_ite hD
      obtain rfl := Option.some.inj hD
      exact hR _ _ t_X11_doAct_40 (b01_n hb)
  · refine g_aload_n h 0 t_X11_doAct_6 rfl ?_
    refine g_getR h 75 0 0 fl_11_10 rfl (by decide) rfl t_X11_doAct_7 ?_
    refine g_callVV h 0 (As := []) (st := []) my_X5_pass mi_X5_pass ml_11_260 rfl (by decide) rfl rfl rfl (Nat.le_of_ble_eq_true rfl) (by decide) t_X11_doAct_10 hD (fun _ e => S_X5_pass hρ (by decide) e) (fun w5 hD => ?_)
    refine g_iconst (v := 1) h t_X11_doAct_13 (by decide) ?_
    obtain rfl := Option.some.inj hD
    exact hR _ _ t_X11_doAct_14 (b01_n rfl)
def J_X11_isAct_j12_1 (p0 : Int32) : Wd → Option (Int32 × Wd) := fun w1 =>
  if p0 = 42 then (some (1, w1)) else (if p0 = 47 then (some (1, w1)) else (some (0, w1)))
def D_X11_isAct (p0 : Int32) : Wd → Option (Int32 × Wd) := fun w =>
  bd (J_X11_isAct_j12_1 p0) fun k2 => if p0 < 48 then (k2 w) else (if p0 ≤ 53 then (some (1, w)) else (k2 w))
set_option maxRecDepth 20000 in
theorem S_X11_isAct {l0 : Launch} {ρ : Nat → Nat} {cs : Nat → ClassId} {G : va_G} (hρ : injN ρ) {p0 : Int32} {w : Wd} {rr : (Int32 × Wd)} (hD : D_X11_isAct p0 w = some rr) : CtI l0 ρ cs G y_X11_isAct prog_1_method_22_code 1 .boolean 0 [.int p0] w rr.1 rr.2 := by
  refine ctI_of hρ (by decide) (Nat.le_of_ble_eq_true rfl) (fun X hn h hR => ?_)
  unfold D_X11_isAct at hD
  show gG ρ cs G X 0 [(0, .int p0)] [] w
  refine g_iload_n h 0 t_X11_isAct_0 rfl ?_
  refine g_bipush (v := 48) h t_X11_isAct_1 (by decide) ?_
  refine g_join (P := fun k2 => ∀ (w1 : Wd), k2 w1 = some rr → gG ρ cs G X 12 [(0, .int p0)] [] w1) hD ?_ (fun k2 hk2 hD => ?_)
  · intro w1 hD
    unfold J_X11_isAct_j12_1 at hD
    refine g_iload_n h 0 t_X11_isAct_12 rfl ?_
    refine g_bipush (v := 42) h t_X11_isAct_13 (by decide) ?_
    refine g_icmp_eq (tgt := 24) h t_X11_isAct_15 (by decide) hD (fun hD => ?_) (fun hD => ?_)
    · refine g_iconst (v := 1) h t_X11_isAct_24 (by decide) ?_
      refine g_goto (tgt := 29) h t_X11_isAct_25 (by decide) ?_
      obtain rfl := Option.some.inj hD
      exact hR _ _ t_X11_isAct_29 (b01_n rfl)
    · refine g_iload_n h 0 t_X11_isAct_18 rfl ?_
      refine g_bipush (v := 47) h t_X11_isAct_19 (by decide) ?_
      refine g_icmp_ne (tgt := 28) h t_X11_isAct_21 (by decide) hD (fun hD => ?_) (fun hD => ?_)
      · refine g_iconst (v := 0) h t_X11_isAct_28 (by decide) ?_
        obtain rfl := Option.some.inj hD
        exact hR _ _ t_X11_isAct_29 (b01_n rfl)
      · refine g_iconst (v := 1) h t_X11_isAct_24 (by decide) ?_
        refine g_goto (tgt := 29) h t_X11_isAct_25 (by decide) ?_
        obtain rfl := Option.some.inj hD
        exact hR _ _ t_X11_isAct_29 (b01_n rfl)
  · refine g_icmp_lt (tgt := 12) h t_X11_isAct_3 (by decide) hD (fun hD => ?_) (fun hD => ?_)
    · refine g_loc (L' := [(0, .int p0)]) h [0] rfl ?_
      exact hk2 _ hD
    · refine g_iload_n h 0 t_X11_isAct_6 rfl ?_
      refine g_bipush (v := 53) h t_X11_isAct_7 (by decide) ?_
      refine g_icmp_le (tgt := 24) h t_X11_isAct_9 (by decide) hD (fun hD => ?_) (fun hD => ?_)
      · refine g_iconst (v := 1) h t_X11_isAct_24 (by decide) ?_
        refine g_goto (tgt := 29) h t_X11_isAct_25 (by decide) ?_
        obtain rfl := Option.some.inj hD
        exact hR _ _ t_X11_isAct_29 (b01_n rfl)
      · refine g_loc (L' := [(0, .int p0)]) h [0] rfl ?_
        exact hk2 _ hD
def L_X11_wrongInGame_2 (k1 : Int32 → Wd → Option (Int32 × Wd)) (k2 : Wd → Option (Int32 × Wd)) : Nat → Int32 → Wd → Option (Int32 × Wd)
  | 0, _, _ => none
  | n3 + 1, x4, w5 =>
    if (w5.1 80 1) ≤ x4 then (k2 w5) else (if x4 = 60 then (k1 x4 w5) else (bc (D_X9_at x4 w5) fun x7 w6 => bc (D_X11_isAct x7 w6) fun x9 w8 => if x9 = 0 then (k1 x4 w8) else (bd (x4 + 1) fun x10 => L_X11_wrongInGame_2 k1 k2 n3 x10 w8)))
def J_X11_wrongInGame_x33_1  : Int32 → Wd → Option (Int32 × Wd) := fun x11 w12 =>
  some (x11, w12)
def J_X11_wrongInGame_x41_2  : Wd → Option (Int32 × Wd) := fun w13 =>
  some ((-1), w13)
def D_X11_wrongInGame  : Wd → Option (Int32 × Wd) := fun w =>
  L_X11_wrongInGame_2 J_X11_wrongInGame_x33_1 J_X11_wrongInGame_x41_2 FU 0 w
set_option maxRecDepth 20000 in
theorem Q_X11_wrongInGame_2 {l0 : Launch} {ρ : Nat → Nat} {cs : Nat → ClassId} {G : va_G} {X : Cx} (hρ : injN ρ) (hn : X.2.2.2.2.2.2.2.2.2.2.1 = 2) (h : Okx l0 ρ cs G X prog_1_method_21_code "SowingBoards" 1) {rr : (Int32 × Wd)} (hR : ∀ pc L, decode prog_1_method_21_code pc = .ok (.ireturn, 1) → narrow .int (.int rr.1) = .int rr.1 → gG ρ cs G X pc L [.int rr.1] rr.2)  {k1 : Int32 → Wd → Option (Int32 × Wd)} (hk1 : ∀ (z1 : Int32) (w1 : Wd), k1 z1 w1 = some rr → gG ρ cs G X 33 [(1, .int z1)] [] w1) {k2 : Wd → Option (Int32 × Wd)} (hk2 : ∀ (w1 : Wd), k2 w1 = some rr → gG ρ cs G X 41 [] [] w1) : ∀ (n : Nat) (x4 : Int32) (w : Wd), L_X11_wrongInGame_2 k1 k2 n x4 w = some rr → gG ρ cs G X 2 [(0, .ref (ρ 75)), (1, .int x4)] [] w := by
  intro n
  induction n with
  | zero =>
    intro x4 w hD
    cases hD
  | succ n3 ih =>
    intro x4 w5 hD
    unfold L_X11_wrongInGame_2 at hD
    refine g_iload_n h 1 t_X11_wrongInGame_2 rfl ?_
    refine g_aload_n h 0 t_X11_wrongInGame_3 rfl ?_
    refine g_getR h 75 6 80 fl_11_40 rfl (by decide) rfl t_X11_wrongInGame_4 ?_
    refine g_getI h 80 1 fl_11_130 rfl (by decide) rfl t_X11_wrongInGame_7 ?_
    refine g_icmp_ge (tgt := 41) h t_X11_wrongInGame_10 (by decide) hD (fun hD => ?_) (fun hD => ?_)
    · refine g_loc (L' := []) h [] rfl ?_
      exact hk2 _ hD
    · refine g_iload_n h 1 t_X11_wrongInGame_13 rfl ?_
      refine g_bipush (v := 60) h t_X11_wrongInGame_14 (by decide) ?_
      refine g_icmp_eq (tgt := 33) h t_X11_wrongInGame_16 (by decide) hD (fun hD => ?_) (fun hD => ?_)
      · refine g_loc (L' := [(1, .int x4)]) h [1] rfl ?_
        exact hk1 x4 _ hD
      · refine g_aload_n h 0 t_X11_wrongInGame_19 rfl ?_
        refine g_getR h 75 6 80 fl_11_40 rfl (by decide) rfl t_X11_wrongInGame_20 ?_
        refine g_iload_n h 1 t_X11_wrongInGame_23 rfl ?_
        refine g_callVI h 80 (As := [.int x4]) (st := []) my_X9_at mi_X9_at ml_11_175 rfl (by decide) rfl rfl rfl (Nat.le_of_ble_eq_true rfl) (by decide) t_X11_wrongInGame_24 hD (fun _ _ e => S_X9_at hρ  e) (fun x7 w6 hD => ?_)
        refine g_callSI h (As := [.int x7]) (st := []) my_X11_isAct ms_X11_isAct ml_11_274 rfl rfl (Nat.le_of_ble_eq_true rfl) (by decide) t_X11_wrongInGame_27 hD (fun _ _ e => S_X11_isAct hρ  e) (fun x9 w8 hD => ?_)
        refine g_if_ne (tgt := 35) h t_X11_wrongInGame_30 (by decide) hD (fun hD => ?_) (fun hD => ?_)
        · obtain ⟨x10, ex10, hD⟩ := bd_ex hD
          refine g_iinc (v := x10) (L' := [(1, .int x10), (0, .ref (ρ 75))]) h hn t_X11_wrongInGame_35 (k := 1) rfl (by rw [ex10]; rfl) (by decide) rfl ?_
          refine g_goto (tgt := 2) h t_X11_wrongInGame_38 (by decide) ?_
          refine g_loc (L' := [(0, .ref (ρ 75)), (1, .int x10)]) h [1, 0] rfl ?_
          exact ih x10 _ hD
        · refine g_loc (L' := [(1, .int x4)]) h [1] rfl ?_
          exact hk1 x4 _ hD
set_option maxRecDepth 20000 in
theorem S_X11_wrongInGame {l0 : Launch} {ρ : Nat → Nat} {cs : Nat → ClassId} {G : va_G} (hρ : injN ρ)  {w : Wd} {rr : (Int32 × Wd)} (hD : D_X11_wrongInGame w = some rr) : CtI l0 ρ cs G y_X11_wrongInGame prog_1_method_21_code 2 .int 1 [.ref (ρ 75)] w rr.1 rr.2 := by
  refine ctI_of hρ (by decide) (Nat.le_of_ble_eq_true rfl) (fun X hn h hR => ?_)
  unfold D_X11_wrongInGame at hD
  show gG ρ cs G X 0 [(0, .ref (ρ 75))] [] w
  refine g_iconst (v := 0) h t_X11_wrongInGame_0 (by decide) ?_
  refine g_istore_n (L' := [(1, .int 0), (0, .ref (ρ 75))]) h hn t_X11_wrongInGame_1 rfl (by decide) rfl ?_
  refine g_loc (L' := [(0, .ref (ρ 75)), (1, .int 0)]) h [1, 0] rfl ?_
  refine Q_X11_wrongInGame_2 hρ hn h hR  ?_ ?_ _ _ _ hD
  · intro x11 w12 hD
    unfold J_X11_wrongInGame_x33_1 at hD
    refine g_iload_n h 0 t_X11_wrongInGame_33 rfl ?_
    obtain rfl := Option.some.inj hD
    exact hR _ _ t_X11_wrongInGame_34 rfl
  · intro w13 hD
    unfold J_X11_wrongInGame_x41_2 at hD
    refine g_iconst (v := (-1)) h t_X11_wrongInGame_41 (by decide) ?_
    obtain rfl := Option.some.inj hD
    exact hR _ _ t_X11_wrongInGame_42 rfl
def L_X11_game_34 (k4 : Int32 → Wd → Option (Int32 × Wd)) : Nat → Int32 → Wd → Option (Int32 × Wd)
  | 0, _, _ => none
  | n5 + 1, x6, w7 =>
    if (w7.1 80 1) ≤ x6 then (k4 x6 w7) else (bc (D_X9_at x6 w7) fun x9 w8 => bc (D_X11_doAct x9 w8) fun x11 w10 => if x11 = 0 then (k4 x6 w10) else (bd (x6 + 1) fun x12 => L_X11_game_34 k4 n5 x12 w10))
def J_X11_game_j101_1 (x13 : Int32) : Int64 → Wd → Option (Int32 × Wd) := fun x17 w18 =>
  bv (D_X3_tell_ x17 ((w18.1 0 3).toInt64) w18) fun w20 => bv (D_X9_clear w20) fun w21 => some (x13, w21)
def J_X11_game_j81_2 (x13 : Int32) : Wd → Option (Int32 × Wd) := fun w15 =>
  bd (J_X11_game_j101_1 x13) fun k19 => if (w15.1 80 1) ≤ x13 then (k19 (0 : Int64) w15) else (k19 (1 : Int64) w15)
def J_X11_game_x66_3  : Int32 → Wd → Option (Int32 × Wd) := fun x13 w14 =>
  bd (J_X11_game_j81_2 x13) fun k16 => if x13 ≤ 0 then (k16 w14) else (bv (D_X0_push 3 w14) fun w22 => k16 w22)
def D_X11_game  : Wd → Option (Int32 × Wd) := fun w =>
  bc (D_X11_wrongInGame w) fun x2 w1 => if x2 = (-1) then (bv (D_X5_take 3 0 w1) fun w3 => L_X11_game_34 J_X11_game_x66_3 FU 0 w3) else (bv (D_X9_clear w1) fun w23 => some ((-1) - x2, w23))
set_option maxRecDepth 20000 in
theorem Q_X11_game_34 {l0 : Launch} {ρ : Nat → Nat} {cs : Nat → ClassId} {G : va_G} {X : Cx} (hρ : injN ρ) (hn : X.2.2.2.2.2.2.2.2.2.2.1 = 3) (h : Okx l0 ρ cs G X prog_1_method_20_code "SowingBoards" 14) {rr : (Int32 × Wd)} (hR : ∀ pc L, decode prog_1_method_20_code pc = .ok (.ireturn, 1) → narrow .int (.int rr.1) = .int rr.1 → gG ρ cs G X pc L [.int rr.1] rr.2)  {k4 : Int32 → Wd → Option (Int32 × Wd)} (hk4 : ∀ (z2 : Int32) (w1 : Wd), k4 z2 w1 = some rr → gG ρ cs G X 66 [(0, .ref (ρ 75)), (2, .int z2)] [] w1) : ∀ (n : Nat) (x6 : Int32) (w : Wd), L_X11_game_34 k4 n x6 w = some rr → gG ρ cs G X 34 [(0, .ref (ρ 75)), (2, .int x6)] [] w := by
  intro n
  induction n with
  | zero =>
    intro x6 w hD
    cases hD
  | succ n5 ih =>
    intro x6 w7 hD
    unfold L_X11_game_34 at hD
    refine g_iload_n h 1 t_X11_game_34 rfl ?_
    refine g_aload_n h 0 t_X11_game_35 rfl ?_
    refine g_getR h 75 6 80 fl_11_40 rfl (by decide) rfl t_X11_game_36 ?_
    refine g_getI h 80 1 fl_11_130 rfl (by decide) rfl t_X11_game_39 ?_
    refine g_icmp_ge (tgt := 66) h t_X11_game_42 (by decide) hD (fun hD => ?_) (fun hD => ?_)
    · refine g_loc (L' := [(0, .ref (ρ 75)), (2, .int x6)]) h [0, 1] rfl ?_
      exact hk4 x6 _ hD
    · refine g_aload_n h 0 t_X11_game_45 rfl ?_
      refine g_aload_n h 0 t_X11_game_46 rfl ?_
      refine g_getR h 75 6 80 fl_11_40 rfl (by decide) rfl t_X11_game_47 ?_
      refine g_iload_n h 1 t_X11_game_50 rfl ?_
      refine g_callVI h 80 (As := [.int x6]) (st := [.ref (ρ 75)]) my_X9_at mi_X9_at ml_11_175 rfl (by decide) rfl rfl rfl (Nat.le_of_ble_eq_true rfl) (by decide) t_X11_game_51 hD (fun _ _ e => S_X9_at hρ  e) (fun x9 w8 hD => ?_)
      refine g_callVI h 75 (As := [.int x9]) (st := []) my_X11_doAct mi_X11_doAct ml_11_271 rfl (by decide) rfl rfl rfl (Nat.le_of_ble_eq_true rfl) (by decide) t_X11_game_54 hD (fun _ _ e => S_X11_doAct hρ  e) (fun x11 w10 hD => ?_)
      refine g_if_eq (tgt := 66) h t_X11_game_57 (by decide) hD (fun hD => ?_) (fun hD => ?_)
      · refine g_loc (L' := [(0, .ref (ρ 75)), (2, .int x6)]) h [0, 1] rfl ?_
        exact hk4 x6 _ hD
      · obtain ⟨x12, ex12, hD⟩ := bd_ex hD
        refine g_iinc (v := x12) (L' := [(2, .int x12), (0, .ref (ρ 75))]) h hn t_X11_game_60 (k := 1) rfl (by rw [ex12]; rfl) (by decide) rfl ?_
        refine g_goto (tgt := 34) h t_X11_game_63 (by decide) ?_
        refine g_loc (L' := [(0, .ref (ρ 75)), (2, .int x12)]) h [1, 0] rfl ?_
        exact ih x12 _ hD
set_option maxRecDepth 20000 in
theorem S_X11_game {l0 : Launch} {ρ : Nat → Nat} {cs : Nat → ClassId} {G : va_G} (hρ : injN ρ)  {w : Wd} {rr : (Int32 × Wd)} (hD : D_X11_game w = some rr) : CtI l0 ρ cs G y_X11_game prog_1_method_20_code 3 .int 14 [.ref (ρ 75)] w rr.1 rr.2 := by
  refine ctI_of hρ (by decide) (Nat.le_of_ble_eq_true rfl) (fun X hn h hR => ?_)
  unfold D_X11_game at hD
  show gG ρ cs G X 0 [(0, .ref (ρ 75))] [] w
  refine g_aload_n h 0 t_X11_game_0 rfl ?_
  refine g_callVI h 75 (As := []) (st := []) my_X11_wrongInGame mi_X11_wrongInGame ml_11_266 rfl (by decide) rfl rfl rfl (Nat.le_of_ble_eq_true rfl) (by decide) t_X11_game_1 hD (fun _ _ e => S_X11_wrongInGame hρ  e) (fun x2 w1 hD => ?_)
  refine g_istore_n (L' := [(1, .int x2), (0, .ref (ρ 75))]) h hn t_X11_game_4 rfl (by decide) rfl ?_
  refine g_iload_n h 0 t_X11_game_5 rfl ?_
  refine g_iconst (v := (-1)) h t_X11_game_6 (by decide) ?_
  refine g_icmp_eq (tgt := 21) h t_X11_game_7 (by decide) hD (fun hD => ?_) (fun hD => ?_)
  · refine g_aload_n h 1 t_X11_game_21 rfl ?_
    refine g_getR h 75 1 3 fl_11_16 rfl (by decide) rfl t_X11_game_22 ?_
    refine g_aload_n h 1 t_X11_game_25 rfl ?_
    refine g_getR h 75 0 0 fl_11_10 rfl (by decide) rfl t_X11_game_26 ?_
    refine g_callVV h 3 (As := [.ref (ρ 0)]) (st := []) my_X5_take mi_X5_take ml_11_269 rfl (by decide) rfl rfl rfl (Nat.le_of_ble_eq_true rfl) (by decide) t_X11_game_29 hD (fun _ e => S_X5_take hρ (by decide) (by decide) e) (fun w3 hD => ?_)
    refine g_iconst (v := 0) h t_X11_game_32 (by decide) ?_
    refine g_istore_n (L' := [(2, .int 0), (1, .int x2), (0, .ref (ρ 75))]) h hn t_X11_game_33 rfl (by decide) rfl ?_
    refine g_loc (L' := [(0, .ref (ρ 75)), (2, .int 0)]) h [2, 0] rfl ?_
    refine Q_X11_game_34 hρ hn h hR  ?_ _ _ _ hD
    · intro x13 w14 hD
      unfold J_X11_game_x66_3 at hD
      refine g_iload_n h 1 t_X11_game_66 rfl ?_
      refine g_join (P := fun k16 => ∀ (w15 : Wd), k16 w15 = some rr → gG ρ cs G X 81 [(0, .ref (ρ 75)), (2, .int x13)] [] w15) hD ?_ (fun k16 hk16 hD => ?_)
      · intro w15 hD
        unfold J_X11_game_j81_2 at hD
        refine g_aload_n h 0 t_X11_game_81 rfl ?_
        refine g_getR h 75 7 82 fl_11_47 rfl (by decide) rfl t_X11_game_82 ?_
        refine g_iload_n h 1 t_X11_game_85 rfl ?_
        refine g_aload_n h 0 t_X11_game_86 rfl ?_
        refine g_getR h 75 6 80 fl_11_40 rfl (by decide) rfl t_X11_game_87 ?_
        refine g_getI h 80 1 fl_11_130 rfl (by decide) rfl t_X11_game_90 ?_
        refine g_join (P := fun k19 => ∀ (x17 : Int64) (w18 : Wd), k19 x17 w18 = some rr → gG ρ cs G X 101 [(0, .ref (ρ 75)), (2, .int x13)] [.long x17, .ref (ρ 82)] w18) hD ?_ (fun k19 hk19 hD => ?_)
        · intro x17 w18 hD
          unfold J_X11_game_j101_1 at hD
          refine g_aload_n h 0 t_X11_game_101 rfl ?_
          refine g_getR h 75 0 0 fl_11_10 rfl (by decide) rfl t_X11_game_102 ?_
          refine g_getI h 0 3 fl_11_158 rfl (by decide) rfl t_X11_game_105 ?_
          refine g_i2l h t_X11_game_108 ?_
          refine g_callVV h 82 (As := [.long x17, .long ((w18.1 0 3).toInt64)]) (st := []) my_X3_tell_ mi_X3_tell_ ml_11_253 rfl (by decide) rfl rfl rfl (Nat.le_of_ble_eq_true rfl) (by decide) t_X11_game_109 hD (fun _ e => S_X3_tell_ hρ  e) (fun w20 hD => ?_)
          refine g_aload_n h 0 t_X11_game_112 rfl ?_
          refine g_getR h 75 6 80 fl_11_40 rfl (by decide) rfl t_X11_game_113 ?_
          refine g_callVV h 80 (As := []) (st := []) my_X9_clear mi_X9_clear ml_11_142 rfl (by decide) rfl rfl rfl (Nat.le_of_ble_eq_true rfl) (by decide) t_X11_game_116 hD (fun _ e => S_X9_clear hρ  e) (fun w21 hD => ?_)
          refine g_iload_n h 1 t_X11_game_119 rfl ?_
          obtain rfl := Option.some.inj hD
          exact hR _ _ t_X11_game_120 rfl
        · refine g_icmp_ge (tgt := 100) h t_X11_game_93 (by decide) hD (fun hD => ?_) (fun hD => ?_)
          · refine g_lconst (v := 0) h t_X11_game_100 (by decide) ?_
            refine g_loc (L' := [(0, .ref (ρ 75)), (2, .int x13)]) h [0, 1] rfl ?_
            exact hk19 (0 : Int64) _ hD
          · refine g_lconst (v := 1) h t_X11_game_96 (by decide) ?_
            refine g_goto (tgt := 101) h t_X11_game_97 (by decide) ?_
            refine g_loc (L' := [(0, .ref (ρ 75)), (2, .int x13)]) h [0, 1] rfl ?_
            exact hk19 (1 : Int64) _ hD
      · refine g_if_le (tgt := 81) h t_X11_game_67 (by decide) hD (fun hD => ?_) (fun hD => ?_)
        · refine g_loc (L' := [(0, .ref (ρ 75)), (2, .int x13)]) h [0, 1] rfl ?_
          exact hk16 _ hD
        · refine g_aload_n h 0 t_X11_game_70 rfl ?_
          refine g_getR h 75 5 78 fl_11_33 rfl (by decide) rfl t_X11_game_71 ?_
          refine g_aload_n h 0 t_X11_game_74 rfl ?_
          refine g_getR h 75 1 3 fl_11_16 rfl (by decide) rfl t_X11_game_75 ?_
          refine g_callVV h 78 (As := [.ref (ρ 3)]) (st := []) my_X0_push mi_X0_push ml_11_221 rfl (by decide) rfl rfl rfl (Nat.le_of_ble_eq_true rfl) (by decide) t_X11_game_78 hD (fun _ e => S_X0_push hρ (by decide) e) (fun w22 hD => ?_)
          refine g_loc (L' := [(0, .ref (ρ 75)), (2, .int x13)]) h [0, 1] rfl ?_
          exact hk16 _ hD
  · refine g_aload_n h 1 t_X11_game_10 rfl ?_
    refine g_getR h 75 6 80 fl_11_40 rfl (by decide) rfl t_X11_game_11 ?_
    refine g_callVV h 80 (As := []) (st := []) my_X9_clear mi_X9_clear ml_11_142 rfl (by decide) rfl rfl rfl (Nat.le_of_ble_eq_true rfl) (by decide) t_X11_game_14 hD (fun _ e => S_X9_clear hρ  e) (fun w23 hD => ?_)
    refine g_iconst (v := (-1)) h t_X11_game_17 (by decide) ?_
    refine g_iload_n h 0 t_X11_game_18 rfl ?_
    refine g_isub h t_X11_game_19 ?_
    obtain rfl := Option.some.inj hD
    exact hR _ _ t_X11_game_20 rfl
def D_X11_undo  : Wd → Option (Int32 × Wd) := fun w =>
  bc (D_X0_pop 0 w) fun x2 w1 => if x2 = 0 then (some ((-1), w1)) else (some (w1.1 78 2, w1))
set_option maxRecDepth 20000 in
theorem S_X11_undo {l0 : Launch} {ρ : Nat → Nat} {cs : Nat → ClassId} {G : va_G} (hρ : injN ρ)  {w : Wd} {rr : (Int32 × Wd)} (hD : D_X11_undo w = some rr) : CtI l0 ρ cs G y_X11_undo prog_1_method_24_code 1 .int 2 [.ref (ρ 75)] w rr.1 rr.2 := by
  refine ctI_of hρ (by decide) (Nat.le_of_ble_eq_true rfl) (fun X hn h hR => ?_)
  unfold D_X11_undo at hD
  show gG ρ cs G X 0 [(0, .ref (ρ 75))] [] w
  refine g_aload_n h 0 t_X11_undo_0 rfl ?_
  refine g_getR h 75 5 78 fl_11_33 rfl (by decide) rfl t_X11_undo_1 ?_
  refine g_aload_n h 0 t_X11_undo_4 rfl ?_
  refine g_getR h 75 0 0 fl_11_10 rfl (by decide) rfl t_X11_undo_5 ?_
  refine g_callVI h 78 (As := [.ref (ρ 0)]) (st := []) my_X0_pop mi_X0_pop ml_11_277 rfl (by decide) rfl rfl rfl (Nat.le_of_ble_eq_true rfl) (by decide) t_X11_undo_8 hD (fun _ _ e => S_X0_pop hρ (by decide) e) (fun x2 w1 hD => ?_)
  refine g_if_eq (tgt := 24) h t_X11_undo_11 (by decide) hD (fun hD => ?_) (fun hD => ?_)
  · refine g_iconst (v := (-1)) h t_X11_undo_24 (by decide) ?_
    obtain rfl := Option.some.inj hD
    exact hR _ _ t_X11_undo_25 rfl
  · refine g_aload_n h 0 t_X11_undo_14 rfl ?_
    refine g_getR h 75 5 78 fl_11_33 rfl (by decide) rfl t_X11_undo_15 ?_
    refine g_getI h 78 2 fl_11_281 rfl (by decide) rfl t_X11_undo_18 ?_
    refine g_goto (tgt := 25) h t_X11_undo_21 (by decide) ?_
    obtain rfl := Option.some.inj hD
    exact hR _ _ t_X11_undo_25 rfl
def D_X11_tryMove (p1 : Int32) (p2 : Int32) : Wd → Option (Int32 × Wd) := fun w =>
  bv (D_X5_take 6 0 w) fun w1 => bc (D_X1_make 84 6 p1 p2 w1) fun x3 w2 => if b01 x3 then some (x3, w2) else none
set_option maxRecDepth 20000 in
theorem S_X11_tryMove {l0 : Launch} {ρ : Nat → Nat} {cs : Nat → ClassId} {G : va_G} (hρ : injN ρ) {p1 : Int32} {p2 : Int32} {w : Wd} {rr : (Int32 × Wd)} (hD : D_X11_tryMove p1 p2 w = some rr) : CtI l0 ρ cs G y_X11_tryMove prog_1_method_26_code 3 .boolean 3 [.ref (ρ 75), .int p1, .int p2] w rr.1 rr.2 := by
  refine ctI_of hρ (by decide) (Nat.le_of_ble_eq_true rfl) (fun X hn h hR => ?_)
  unfold D_X11_tryMove at hD
  show gG ρ cs G X 0 [(0, .ref (ρ 75)), (1, .int p1), (2, .int p2)] [] w
  refine g_aload_n h 0 t_X11_tryMove_0 rfl ?_
  refine g_getR h 75 2 6 fl_11_19 rfl (by decide) rfl t_X11_tryMove_1 ?_
  refine g_aload_n h 0 t_X11_tryMove_4 rfl ?_
  refine g_getR h 75 0 0 fl_11_10 rfl (by decide) rfl t_X11_tryMove_5 ?_
  refine g_callVV h 6 (As := [.ref (ρ 0)]) (st := []) my_X5_take mi_X5_take ml_11_269 rfl (by decide) rfl rfl rfl (Nat.le_of_ble_eq_true rfl) (by decide) t_X11_tryMove_8 hD (fun _ e => S_X5_take hρ (by decide) (by decide) e) (fun w1 hD => ?_)
  refine g_aload_n h 0 t_X11_tryMove_11 rfl ?_
  refine g_getR h 75 8 84 fl_11_54 rfl (by decide) rfl t_X11_tryMove_12 ?_
  refine g_aload_n h 0 t_X11_tryMove_15 rfl ?_
  refine g_getR h 75 2 6 fl_11_19 rfl (by decide) rfl t_X11_tryMove_16 ?_
  refine g_iload_n h 1 t_X11_tryMove_19 rfl ?_
  refine g_iload_n h 2 t_X11_tryMove_20 rfl ?_
  refine g_callVI h 84 (As := [.ref (ρ 6), .int p1, .int p2]) (st := []) my_X1_make mi_X1_make ml_11_225 rfl (by decide) rfl rfl rfl (Nat.le_of_ble_eq_true rfl) (by decide) t_X11_tryMove_21 hD (fun _ _ e => S_X1_make hρ (by decide) (by decide) e) (fun x3 w2 hD => ?_)
  obtain ⟨hb, hD⟩ := of_ite hD
  obtain rfl := Option.some.inj hD
  exact hR _ _ t_X11_tryMove_24 (b01_n hb)
def D_X11_would (p1 : Int32) : Wd → Option (Int32 × Wd) := fun w =>
  bc (D_X11_refusal p1 w) fun x2 w1 => if 0 ≤ x2 then (bc (D_X11_tryMove p1 (w1.1 75 18) w1) fun x4 w3 => bv (D_X3_tell__ ((w3.1 84 5).toInt64) ((w3.1 84 6).toInt64) ((w3.1 6 3).toInt64) w3) fun w5 => some (w5.1 84 4, w5)) else (some (x2, w1))
set_option maxRecDepth 20000 in
theorem S_X11_would {l0 : Launch} {ρ : Nat → Nat} {cs : Nat → ClassId} {G : va_G} (hρ : injN ρ) {p1 : Int32} {w : Wd} {rr : (Int32 × Wd)} (hD : D_X11_would p1 w = some rr) : CtI l0 ρ cs G y_X11_would prog_1_method_25_code 3 .int 4 [.ref (ρ 75), .int p1] w rr.1 rr.2 := by
  refine ctI_of hρ (by decide) (Nat.le_of_ble_eq_true rfl) (fun X hn h hR => ?_)
  unfold D_X11_would at hD
  show gG ρ cs G X 0 [(0, .ref (ρ 75)), (1, .int p1)] [] w
  refine g_aload_n h 0 t_X11_would_0 rfl ?_
  refine g_iload_n h 1 t_X11_would_1 rfl ?_
  refine g_callVI h 75 (As := [.int p1]) (st := []) my_X11_refusal mi_X11_refusal ml_11_218 rfl (by decide) rfl rfl rfl (Nat.le_of_ble_eq_true rfl) (by decide) t_X11_would_2 hD (fun _ _ e => S_X11_refusal hρ  e) (fun x2 w1 hD => ?_)
  refine g_istore_n (L' := [(2, .int x2), (0, .ref (ρ 75)), (1, .int p1)]) h hn t_X11_would_5 rfl (by decide) rfl ?_
  refine g_iload_n h 0 t_X11_would_6 rfl ?_
  refine g_if_ge (tgt := 12) h t_X11_would_7 (by decide) hD (fun hD => ?_) (fun hD => ?_)
  · refine g_aload_n h 1 t_X11_would_12 rfl ?_
    refine g_iload_n h 2 t_X11_would_13 rfl ?_
    refine g_aload_n h 1 t_X11_would_14 rfl ?_
    refine g_getI h 75 18 fl_11_112 rfl (by decide) rfl t_X11_would_15 ?_
    refine g_callVI h 75 (As := [.int p1, .int (w1.1 75 18)]) (st := []) my_X11_tryMove mi_X11_tryMove ml_11_284 rfl (by decide) rfl rfl rfl (Nat.le_of_ble_eq_true rfl) (by decide) t_X11_would_18 hD (fun _ _ e => S_X11_tryMove hρ  e) (fun x4 w3 hD => ?_)
    refine g_pop h t_X11_would_21 rfl ?_
    refine g_aload_n h 1 t_X11_would_22 rfl ?_
    refine g_getR h 75 7 82 fl_11_47 rfl (by decide) rfl t_X11_would_23 ?_
    refine g_aload_n h 1 t_X11_would_26 rfl ?_
    refine g_getR h 75 8 84 fl_11_54 rfl (by decide) rfl t_X11_would_27 ?_
    refine g_getI h 84 5 fl_11_229 rfl (by decide) rfl t_X11_would_30 ?_
    refine g_i2l h t_X11_would_33 ?_
    refine g_aload_n h 1 t_X11_would_34 rfl ?_
    refine g_getR h 75 8 84 fl_11_54 rfl (by decide) rfl t_X11_would_35 ?_
    refine g_getI h 84 6 fl_11_232 rfl (by decide) rfl t_X11_would_38 ?_
    refine g_i2l h t_X11_would_41 ?_
    refine g_aload_n h 1 t_X11_would_42 rfl ?_
    refine g_getR h 75 2 6 fl_11_19 rfl (by decide) rfl t_X11_would_43 ?_
    refine g_getI h 6 3 fl_11_158 rfl (by decide) rfl t_X11_would_46 ?_
    refine g_i2l h t_X11_would_49 ?_
    refine g_callVV h 82 (As := [.long ((w3.1 84 5).toInt64), .long ((w3.1 84 6).toInt64), .long ((w3.1 6 3).toInt64)]) (st := []) my_X3_tell__ mi_X3_tell__ ml_11_235 rfl (by decide) rfl rfl rfl (Nat.le_of_ble_eq_true rfl) (by decide) t_X11_would_50 hD (fun _ e => S_X3_tell__ hρ  e) (fun w5 hD => ?_)
    refine g_aload_n h 1 t_X11_would_53 rfl ?_
    refine g_getR h 75 8 84 fl_11_54 rfl (by decide) rfl t_X11_would_54 ?_
    refine g_getI h 84 4 fl_11_239 rfl (by decide) rfl t_X11_would_57 ?_
    obtain rfl := Option.some.inj hD
    exact hR _ _ t_X11_would_60 rfl
  · refine g_iload_n h 0 t_X11_would_10 rfl ?_
    obtain rfl := Option.some.inj hD
    exact hR _ _ t_X11_would_11 rfl
def D_X11_worth (p1 : Int32) : Wd → Option (Int32 × Wd) := fun w =>
  bc (D_X11_refusal p1 w) fun x2 w1 => if 0 ≤ x2 then (bc (D_X11_tryMove p1 (w1.1 75 18) w1) fun x4 w3 => bc (D_X6_judge 106 84 w3) fun x6 w5 => bv (D_X3_tell x6.toInt64 w5) fun w7 => some (0, w7)) else (some (x2, w1))
set_option maxRecDepth 20000 in
theorem S_X11_worth {l0 : Launch} {ρ : Nat → Nat} {cs : Nat → ClassId} {G : va_G} (hρ : injN ρ) {p1 : Int32} {w : Wd} {rr : (Int32 × Wd)} (hD : D_X11_worth p1 w = some rr) : CtI l0 ρ cs G y_X11_worth prog_1_method_27_code 3 .int 11 [.ref (ρ 75), .int p1] w rr.1 rr.2 := by
  refine ctI_of hρ (by decide) (Nat.le_of_ble_eq_true rfl) (fun X hn h hR => ?_)
  unfold D_X11_worth at hD
  show gG ρ cs G X 0 [(0, .ref (ρ 75)), (1, .int p1)] [] w
  refine g_aload_n h 0 t_X11_worth_0 rfl ?_
  refine g_iload_n h 1 t_X11_worth_1 rfl ?_
  refine g_callVI h 75 (As := [.int p1]) (st := []) my_X11_refusal mi_X11_refusal ml_11_218 rfl (by decide) rfl rfl rfl (Nat.le_of_ble_eq_true rfl) (by decide) t_X11_worth_2 hD (fun _ _ e => S_X11_refusal hρ  e) (fun x2 w1 hD => ?_)
  refine g_istore_n (L' := [(2, .int x2), (0, .ref (ρ 75)), (1, .int p1)]) h hn t_X11_worth_5 rfl (by decide) rfl ?_
  refine g_iload_n h 0 t_X11_worth_6 rfl ?_
  refine g_if_ge (tgt := 12) h t_X11_worth_7 (by decide) hD (fun hD => ?_) (fun hD => ?_)
  · refine g_aload_n h 1 t_X11_worth_12 rfl ?_
    refine g_iload_n h 2 t_X11_worth_13 rfl ?_
    refine g_aload_n h 1 t_X11_worth_14 rfl ?_
    refine g_getI h 75 18 fl_11_112 rfl (by decide) rfl t_X11_worth_15 ?_
    refine g_callVI h 75 (As := [.int p1, .int (w1.1 75 18)]) (st := []) my_X11_tryMove mi_X11_tryMove ml_11_284 rfl (by decide) rfl rfl rfl (Nat.le_of_ble_eq_true rfl) (by decide) t_X11_worth_18 hD (fun _ _ e => S_X11_tryMove hρ  e) (fun x4 w3 hD => ?_)
    refine g_pop h t_X11_worth_21 rfl ?_
    refine g_aload_n h 1 t_X11_worth_22 rfl ?_
    refine g_getR h 75 7 82 fl_11_47 rfl (by decide) rfl t_X11_worth_23 ?_
    refine g_aload_n h 1 t_X11_worth_26 rfl ?_
    refine g_getR h 75 13 106 fl_11_89 rfl (by decide) rfl t_X11_worth_27 ?_
    refine g_aload_n h 1 t_X11_worth_30 rfl ?_
    refine g_getR h 75 8 84 fl_11_54 rfl (by decide) rfl t_X11_worth_31 ?_
    refine g_callVI h 106 (As := [.ref (ρ 84)]) (st := [.ref (ρ 82)]) my_X6_judge mi_X6_judge ml_11_288 rfl (by decide) rfl rfl rfl (Nat.le_of_ble_eq_true rfl) (by decide) t_X11_worth_34 hD (fun _ _ e => S_X6_judge hρ (by decide) (by decide) e) (fun x6 w5 hD => ?_)
    refine g_i2l h t_X11_worth_37 ?_
    refine g_callVV h 82 (As := [.long x6.toInt64]) (st := []) my_X3_tell mi_X3_tell ml_11_292 rfl (by decide) rfl rfl rfl (Nat.le_of_ble_eq_true rfl) (by decide) t_X11_worth_38 hD (fun _ e => S_X3_tell hρ  e) (fun w7 hD => ?_)
    refine g_iconst (v := 0) h t_X11_worth_41 (by decide) ?_
    obtain rfl := Option.some.inj hD
    exact hR _ _ t_X11_worth_42 rfl
  · refine g_iload_n h 0 t_X11_worth_10 rfl ?_
    obtain rfl := Option.some.inj hD
    exact hR _ _ t_X11_worth_11 rfl
def D_X11_best  : Wd → Option (Int32 × Wd) := fun w =>
  bc (D_X4_choose 0 106 (w.1 75 18) w) fun x2 w1 => if x2 = (-1) then (some ((-2), w1)) else (bv (D_X3_tell ((w1.1 85 2).toInt64) w1) fun w3 => some (x2, w3))
set_option maxRecDepth 20000 in
theorem S_X11_best {l0 : Launch} {ρ : Nat → Nat} {cs : Nat → ClassId} {G : va_G} (hρ : injN ρ)  {w : Wd} {rr : (Int32 × Wd)} (hD : D_X11_best w = some rr) : CtI l0 ρ cs G y_X11_best prog_1_method_28_code 2 .int 12 [.ref (ρ 75)] w rr.1 rr.2 := by
  refine ctI_of hρ (by decide) (Nat.le_of_ble_eq_true rfl) (fun X hn h hR => ?_)
  unfold D_X11_best at hD
  show gG ρ cs G X 0 [(0, .ref (ρ 75))] [] w
  refine g_aload_n h 0 t_X11_best_0 rfl ?_
  refine g_getR h 75 9 85 fl_11_61 rfl (by decide) rfl t_X11_best_1 ?_
  refine g_aload_n h 0 t_X11_best_4 rfl ?_
  refine g_getR h 75 0 0 fl_11_10 rfl (by decide) rfl t_X11_best_5 ?_
  refine g_aload_n h 0 t_X11_best_8 rfl ?_
  refine g_getR h 75 13 106 fl_11_89 rfl (by decide) rfl t_X11_best_9 ?_
  refine g_aload_n h 0 t_X11_best_12 rfl ?_
  refine g_getI h 75 18 fl_11_112 rfl (by decide) rfl t_X11_best_13 ?_
  refine g_callVI h 85 (As := [.ref (ρ 0), .ref (ρ 106), .int (w.1 75 18)]) (st := []) my_X4_choose mi_X4_choose ml_11_295 rfl (by decide) rfl rfl rfl (Nat.le_of_ble_eq_true rfl) (by decide) t_X11_best_16 hD (fun _ _ e => S_X4_choose hρ (by decide) (by decide) e) (fun x2 w1 hD => ?_)
  refine g_istore_n (L' := [(1, .int x2), (0, .ref (ρ 75))]) h hn t_X11_best_19 rfl (by decide) rfl ?_
  refine g_iload_n h 0 t_X11_best_20 rfl ?_
  refine g_iconst (v := (-1)) h t_X11_best_21 (by decide) ?_
  refine g_icmp_ne (tgt := 28) h t_X11_best_22 (by decide) hD (fun hD => ?_) (fun hD => ?_)
  · refine g_aload_n h 1 t_X11_best_28 rfl ?_
    refine g_getR h 75 7 82 fl_11_47 rfl (by decide) rfl t_X11_best_29 ?_
    refine g_aload_n h 1 t_X11_best_32 rfl ?_
    refine g_getR h 75 9 85 fl_11_61 rfl (by decide) rfl t_X11_best_33 ?_
    refine g_getI h 85 2 fl_11_299 rfl (by decide) rfl t_X11_best_36 ?_
    refine g_i2l h t_X11_best_39 ?_
    refine g_callVV h 82 (As := [.long ((w1.1 85 2).toInt64)]) (st := []) my_X3_tell mi_X3_tell ml_11_292 rfl (by decide) rfl rfl rfl (Nat.le_of_ble_eq_true rfl) (by decide) t_X11_best_40 hD (fun _ e => S_X3_tell hρ  e) (fun w3 hD => ?_)
    refine g_iload_n h 0 t_X11_best_43 rfl ?_
    obtain rfl := Option.some.inj hD
    exact hR _ _ t_X11_best_44 rfl
  · refine g_bipush (v := (-2)) h t_X11_best_25 (by decide) ?_
    obtain rfl := Option.some.inj hD
    exact hR _ _ t_X11_best_27 rfl
def D_X11_most  : Wd → Option (Int32 × Wd) := fun w =>
  bc (D_X4_choose 0 109 (w.1 75 18) w) fun x2 w1 => if x2 = (-1) then (some ((-2), w1)) else (bv (D_X3_tell x2.toInt64 w1) fun w3 => some (w3.1 85 2, w3))
set_option maxRecDepth 20000 in
theorem S_X11_most {l0 : Launch} {ρ : Nat → Nat} {cs : Nat → ClassId} {G : va_G} (hρ : injN ρ)  {w : Wd} {rr : (Int32 × Wd)} (hD : D_X11_most w = some rr) : CtI l0 ρ cs G y_X11_most prog_1_method_29_code 2 .int 12 [.ref (ρ 75)] w rr.1 rr.2 := by
  refine ctI_of hρ (by decide) (Nat.le_of_ble_eq_true rfl) (fun X hn h hR => ?_)
  unfold D_X11_most at hD
  show gG ρ cs G X 0 [(0, .ref (ρ 75))] [] w
  refine g_aload_n h 0 t_X11_most_0 rfl ?_
  refine g_getR h 75 9 85 fl_11_61 rfl (by decide) rfl t_X11_most_1 ?_
  refine g_aload_n h 0 t_X11_most_4 rfl ?_
  refine g_getR h 75 0 0 fl_11_10 rfl (by decide) rfl t_X11_most_5 ?_
  refine g_aload_n h 0 t_X11_most_8 rfl ?_
  refine g_getR h 75 14 109 fl_11_93 rfl (by decide) rfl t_X11_most_9 ?_
  refine g_aload_n h 0 t_X11_most_12 rfl ?_
  refine g_getI h 75 18 fl_11_112 rfl (by decide) rfl t_X11_most_13 ?_
  refine g_callVI h 85 (As := [.ref (ρ 0), .ref (ρ 109), .int (w.1 75 18)]) (st := []) my_X4_choose mi_X4_choose ml_11_295 rfl (by decide) rfl rfl rfl (Nat.le_of_ble_eq_true rfl) (by decide) t_X11_most_16 hD (fun _ _ e => S_X4_choose hρ (by decide) (by decide) e) (fun x2 w1 hD => ?_)
  refine g_istore_n (L' := [(1, .int x2), (0, .ref (ρ 75))]) h hn t_X11_most_19 rfl (by decide) rfl ?_
  refine g_iload_n h 0 t_X11_most_20 rfl ?_
  refine g_iconst (v := (-1)) h t_X11_most_21 (by decide) ?_
  refine g_icmp_ne (tgt := 28) h t_X11_most_22 (by decide) hD (fun hD => ?_) (fun hD => ?_)
  · refine g_aload_n h 1 t_X11_most_28 rfl ?_
    refine g_getR h 75 7 82 fl_11_47 rfl (by decide) rfl t_X11_most_29 ?_
    refine g_iload_n h 0 t_X11_most_32 rfl ?_
    refine g_i2l h t_X11_most_33 ?_
    refine g_callVV h 82 (As := [.long x2.toInt64]) (st := []) my_X3_tell mi_X3_tell ml_11_292 rfl (by decide) rfl rfl rfl (Nat.le_of_ble_eq_true rfl) (by decide) t_X11_most_34 hD (fun _ e => S_X3_tell hρ  e) (fun w3 hD => ?_)
    refine g_aload_n h 1 t_X11_most_37 rfl ?_
    refine g_getR h 75 9 85 fl_11_61 rfl (by decide) rfl t_X11_most_38 ?_
    refine g_getI h 85 2 fl_11_299 rfl (by decide) rfl t_X11_most_41 ?_
    obtain rfl := Option.some.inj hD
    exact hR _ _ t_X11_most_44 rfl
  · refine g_bipush (v := (-2)) h t_X11_most_25 (by decide) ?_
    obtain rfl := Option.some.inj hD
    exact hR _ _ t_X11_most_27 rfl
def J_X11_chain_j105_1 (r35 : Int32 → Int32 → Wd → Option (Int32 × Wd)) (x7 : Int32) : Int32 → Wd → Option (Int32 × Wd) := fun x14 w15 =>
  bd (x7 + 1) fun x17 => r35 x14 x17 w15
def L_X11_chain_35 (k4 : Int32 → Wd → Option (Int32 × Wd)) : Nat → Int32 → Int32 → Wd → Option (Int32 × Wd)
  | 0, _, _, _ => none
  | n5 + 1, x6, x7, w8 =>
    if 1000000 ≤ x7 then (k4 x6 w8) else (bc (D_X10_step w8) fun x10 w9 => if x10 = 0 then (k4 x6 w9) else (bc (D_X10_here w9) fun q12 w11 => if ib (w11.1 0 3) 2 then (if ib (w11.1 0 3) 2 then (bd ((w11.1 (q12 + 2) (w11.1 0 3).toNatClampNeg) - (w11.1 2 (w11.1 0 3).toNatClampNeg)) fun x13 => bd (J_X11_chain_j105_1 (L_X11_chain_35 k4 n5) x7) fun k16 => if x13 ≤ x6 then (k16 x6 w11) else (bv (D_X10_tellPath w11) fun w18 => k16 x13 w18)) else none) else none))
def J_X11_chain_x111_2  : Int32 → Wd → Option (Int32 × Wd) := fun x19 w20 =>
  some (x19, w20)
def D_X11_chain  : Wd → Option (Int32 × Wd) := fun w =>
  bc (D_X5_isOver 0 w) fun x2 w1 => if x2 = 0 then (bv (D_X10_start 0 6 1 (w1.1 75 18) w1) fun w3 => L_X11_chain_35 J_X11_chain_x111_2 FU (-1) 0 w3) else (some ((-2), w1))
set_option maxRecDepth 20000 in
theorem Q_X11_chain_35 {l0 : Launch} {ρ : Nat → Nat} {cs : Nat → ClassId} {G : va_G} {X : Cx} (hρ : injN ρ) (hn : X.2.2.2.2.2.2.2.2.2.2.1 = 4) (h : Okx l0 ρ cs G X prog_1_method_30_code "SowingBoards" 5) {rr : (Int32 × Wd)} (hR : ∀ pc L, decode prog_1_method_30_code pc = .ok (.ireturn, 1) → narrow .int (.int rr.1) = .int rr.1 → gG ρ cs G X pc L [.int rr.1] rr.2)  {k4 : Int32 → Wd → Option (Int32 × Wd)} (hk4 : ∀ (z1 : Int32) (w1 : Wd), k4 z1 w1 = some rr → gG ρ cs G X 111 [(1, .int z1)] [] w1) : ∀ (n : Nat) (x6 : Int32) (x7 : Int32) (w : Wd), L_X11_chain_35 k4 n x6 x7 w = some rr → gG ρ cs G X 35 [(0, .ref (ρ 75)), (1, .int x6), (2, .int x7)] [] w := by
  intro n
  induction n with
  | zero =>
    intro x6 x7 w hD
    cases hD
  | succ n5 ih =>
    intro x6 x7 w8 hD
    unfold L_X11_chain_35 at hD
    refine g_iload_n h 2 t_X11_chain_35 rfl ?_
    refine g_ldcw (v := 1000000) h t_X11_chain_36 cc_11_306 ?_
    refine g_icmp_ge (tgt := 111) h t_X11_chain_39 (by decide) hD (fun hD => ?_) (fun hD => ?_)
    · refine g_loc (L' := [(1, .int x6)]) h [1] rfl ?_
      exact hk4 x6 _ hD
    · refine g_aload_n h 0 t_X11_chain_42 rfl ?_
      refine g_getR h 75 10 87 fl_11_68 rfl (by decide) rfl t_X11_chain_43 ?_
      refine g_callVI h 87 (As := []) (st := []) my_X10_step mi_X10_step ml_11_307 rfl (by decide) rfl rfl rfl (Nat.le_of_ble_eq_true rfl) (by decide) t_X11_chain_46 hD (fun _ _ e => S_X10_step hρ  e) (fun x10 w9 hD => ?_)
      refine g_if_eq (tgt := 111) h t_X11_chain_49 (by decide) hD (fun hD => ?_) (fun hD => ?_)
      · refine g_loc (L' := [(1, .int x6)]) h [1] rfl ?_
        exact hk4 x6 _ hD
      · refine g_aload_n h 0 t_X11_chain_52 rfl ?_
        refine g_getR h 75 10 87 fl_11_68 rfl (by decide) rfl t_X11_chain_53 ?_
        refine g_callVR h 87 (As := []) (st := []) my_X10_here mi_X10_here ml_11_310 rfl (by decide) rfl rfl rfl (Nat.le_of_ble_eq_true rfl) (by decide) t_X11_chain_56 hD (fun _ _ e => S_X10_here hρ  e) (fun q12 w11 eq12 hD => ?_)
        have hq12 : isPos q12 := pos_X10_here eq12
        refine g_getQ h q12 1 (q12 + 2) 2 (by decide) rfl fl_11_155 (isPos_sh hq12) (isPos_lt hq12) rfl t_X11_chain_59 ?_
        refine g_aload_n h 0 t_X11_chain_62 rfl ?_
        refine g_getR h 75 0 0 fl_11_10 rfl (by decide) rfl t_X11_chain_63 ?_
        refine g_getI h 0 3 fl_11_158 rfl (by decide) rfl t_X11_chain_66 ?_
        refine g_iald h (q12 + 2) (isPos_s2 hq12) (isPos_l2 hq12) t_X11_chain_69 hD (fun hD => ?_)
        refine g_aload_n h 0 t_X11_chain_70 rfl ?_
        refine g_getR h 75 0 0 fl_11_10 rfl (by decide) rfl t_X11_chain_71 ?_
        refine g_getQ h 0 1 2 2 (by decide) rfl fl_11_155 rfl (by decide) rfl t_X11_chain_74 ?_
        refine g_aload_n h 0 t_X11_chain_77 rfl ?_
        refine g_getR h 75 0 0 fl_11_10 rfl (by decide) rfl t_X11_chain_78 ?_
        refine g_getI h 0 3 fl_11_158 rfl (by decide) rfl t_X11_chain_81 ?_
        refine g_iald h 2 rfl (by decide) t_X11_chain_84 hD (fun hD => ?_)
        refine g_isub h t_X11_chain_85 ?_
        refine g_bdI hD (fun x13 hD => ?_)
        refine g_istore_n (L' := [(3, .int x13), (0, .ref (ρ 75)), (1, .int x6), (2, .int x7)]) h hn t_X11_chain_86 rfl (by decide) rfl ?_
        refine g_iload_n h 0 t_X11_chain_87 rfl ?_
        refine g_iload_n h 2 t_X11_chain_88 rfl ?_
        refine g_join (P := fun k16 => ∀ (x14 : Int32) (w15 : Wd), k16 x14 w15 = some rr → gG ρ cs G X 105 [(0, .ref (ρ 75)), (1, .int x14), (2, .int x7)] [] w15) hD ?_ (fun k16 hk16 hD => ?_)
        · intro x14 w15 hD
          unfold J_X11_chain_j105_1 at hD
          obtain ⟨x17, ex17, hD⟩ := bd_ex hD
          refine g_iinc (v := x17) (L' := [(2, .int x17), (0, .ref (ρ 75)), (1, .int x14)]) h hn t_X11_chain_105 (k := 2) rfl (by rw [ex17]; rfl) (by decide) rfl ?_
          refine g_goto (tgt := 35) h t_X11_chain_108 (by decide) ?_
          refine g_loc (L' := [(0, .ref (ρ 75)), (1, .int x14), (2, .int x17)]) h [1, 2, 0] rfl ?_
          exact ih x14 x17 _ hD
        · refine g_icmp_le (tgt := 105) h t_X11_chain_89 (by decide) hD (fun hD => ?_) (fun hD => ?_)
          · refine g_loc (L' := [(0, .ref (ρ 75)), (1, .int x6), (2, .int x7)]) h [1, 2, 3] rfl ?_
            exact hk16 x6 _ hD
          · refine g_iload_n h 0 t_X11_chain_92 rfl ?_
            refine g_istore_n (L' := [(1, .int x13), (3, .int x13), (0, .ref (ρ 75)), (2, .int x7)]) h hn t_X11_chain_93 rfl (by decide) rfl ?_
            refine g_aload_n h 2 t_X11_chain_94 rfl ?_
            refine g_getR h 75 10 87 fl_11_68 rfl (by decide) rfl t_X11_chain_95 ?_
            refine g_aload_n h 2 t_X11_chain_98 rfl ?_
            refine g_getR h 75 7 82 fl_11_47 rfl (by decide) rfl t_X11_chain_99 ?_
            refine g_callVV h 87 (As := [.ref (ρ 82)]) (st := []) my_X10_tellPath mi_X10_tellPath ml_11_314 rfl (by decide) rfl rfl rfl (Nat.le_of_ble_eq_true rfl) (by decide) t_X11_chain_102 hD (fun _ e => S_X10_tellPath hρ  e) (fun w18 hD => ?_)
            refine g_loc (L' := [(0, .ref (ρ 75)), (1, .int x13), (2, .int x7)]) h [2, 0, 3] rfl ?_
            exact hk16 x13 _ hD
set_option maxRecDepth 20000 in
theorem S_X11_chain {l0 : Launch} {ρ : Nat → Nat} {cs : Nat → ClassId} {G : va_G} (hρ : injN ρ)  {w : Wd} {rr : (Int32 × Wd)} (hD : D_X11_chain w = some rr) : CtI l0 ρ cs G y_X11_chain prog_1_method_30_code 4 .int 5 [.ref (ρ 75)] w rr.1 rr.2 := by
  refine ctI_of hρ (by decide) (Nat.le_of_ble_eq_true rfl) (fun X hn h hR => ?_)
  unfold D_X11_chain at hD
  show gG ρ cs G X 0 [(0, .ref (ρ 75))] [] w
  refine g_aload_n h 0 t_X11_chain_0 rfl ?_
  refine g_getR h 75 0 0 fl_11_10 rfl (by decide) rfl t_X11_chain_1 ?_
  refine g_callVI h 0 (As := []) (st := []) my_X5_isOver mi_X5_isOver ml_11_245 rfl (by decide) rfl rfl rfl (Nat.le_of_ble_eq_true rfl) (by decide) t_X11_chain_4 hD (fun _ _ e => S_X5_isOver hρ (by decide) e) (fun x2 w1 hD => ?_)
  refine g_if_eq (tgt := 13) h t_X11_chain_7 (by decide) hD (fun hD => ?_) (fun hD => ?_)
  · refine g_iconst (v := (-1)) h t_X11_chain_13 (by decide) ?_
    refine g_istore_n (L' := [(1, .int (-1)), (0, .ref (ρ 75))]) h hn t_X11_chain_14 rfl (by decide) rfl ?_
    refine g_aload_n h 1 t_X11_chain_15 rfl ?_
    refine g_getR h 75 10 87 fl_11_68 rfl (by decide) rfl t_X11_chain_16 ?_
    refine g_aload_n h 1 t_X11_chain_19 rfl ?_
    refine g_getR h 75 0 0 fl_11_10 rfl (by decide) rfl t_X11_chain_20 ?_
    refine g_bipush (v := 6) h t_X11_chain_23 (by decide) ?_
    refine g_iconst (v := 1) h t_X11_chain_25 (by decide) ?_
    refine g_aload_n h 1 t_X11_chain_26 rfl ?_
    refine g_getI h 75 18 fl_11_112 rfl (by decide) rfl t_X11_chain_27 ?_
    refine g_callVV h 87 (As := [.ref (ρ 0), .int 6, .int 1, .int (w1.1 75 18)]) (st := []) my_X10_start mi_X10_start ml_11_302 rfl (by decide) rfl rfl rfl (Nat.le_of_ble_eq_true rfl) (by decide) t_X11_chain_30 hD (fun _ e => S_X10_start hρ (by decide) e) (fun w3 hD => ?_)
    refine g_iconst (v := 0) h t_X11_chain_33 (by decide) ?_
    refine g_istore_n (L' := [(2, .int 0), (1, .int (-1)), (0, .ref (ρ 75))]) h hn t_X11_chain_34 rfl (by decide) rfl ?_
    refine g_loc (L' := [(0, .ref (ρ 75)), (1, .int (-1)), (2, .int 0)]) h [2, 1, 0] rfl ?_
    refine Q_X11_chain_35 hρ hn h hR  ?_ _ _ _ _ hD
    · intro x19 w20 hD
      unfold J_X11_chain_x111_2 at hD
      refine g_iload_n h 0 t_X11_chain_111 rfl ?_
      obtain rfl := Option.some.inj hD
      exact hR _ _ t_X11_chain_112 rfl
  · refine g_bipush (v := (-2)) h t_X11_chain_10 (by decide) ?_
    obtain rfl := Option.some.inj hD
    exact hR _ _ t_X11_chain_12 rfl
def J_X11_longest_j82_1 (r35 : Int32 → Int32 → Wd → Option (Int32 × Wd)) (x7 : Int32) : Int32 → Wd → Option (Int32 × Wd) := fun x11 w12 =>
  bd (x7 + 1) fun x14 => r35 x11 x14 w12
def L_X11_longest_35 (k4 : Int32 → Wd → Option (Int32 × Wd)) : Nat → Int32 → Int32 → Wd → Option (Int32 × Wd)
  | 0, _, _, _ => none
  | n5 + 1, x6, x7, w8 =>
    if 1000000 ≤ x7 then (k4 x6 w8) else (bc (D_X10_step w8) fun x10 w9 => if x10 = 0 then (k4 x6 w9) else (bd (J_X11_longest_j82_1 (L_X11_longest_35 k4 n5) x7) fun k13 => if (w9.1 87 5) ≤ x6 then (k13 x6 w9) else (bd (w9.1 87 5) fun x15 => bv (D_X10_tellPath w9) fun w16 => k13 x15 w16)))
def J_X11_longest_x88_2  : Int32 → Wd → Option (Int32 × Wd) := fun x17 w18 =>
  some (x17, w18)
def D_X11_longest  : Wd → Option (Int32 × Wd) := fun w =>
  bc (D_X5_isOver 0 w) fun x2 w1 => if x2 = 0 then (bv (D_X10_start 0 6 1 (w1.1 75 18) w1) fun w3 => L_X11_longest_35 J_X11_longest_x88_2 FU 0 0 w3) else (some ((-2), w1))
set_option maxRecDepth 20000 in
theorem Q_X11_longest_35 {l0 : Launch} {ρ : Nat → Nat} {cs : Nat → ClassId} {G : va_G} {X : Cx} (hρ : injN ρ) (hn : X.2.2.2.2.2.2.2.2.2.2.1 = 3) (h : Okx l0 ρ cs G X prog_1_method_31_code "SowingBoards" 5) {rr : (Int32 × Wd)} (hR : ∀ pc L, decode prog_1_method_31_code pc = .ok (.ireturn, 1) → narrow .int (.int rr.1) = .int rr.1 → gG ρ cs G X pc L [.int rr.1] rr.2)  {k4 : Int32 → Wd → Option (Int32 × Wd)} (hk4 : ∀ (z1 : Int32) (w1 : Wd), k4 z1 w1 = some rr → gG ρ cs G X 88 [(1, .int z1)] [] w1) : ∀ (n : Nat) (x6 : Int32) (x7 : Int32) (w : Wd), L_X11_longest_35 k4 n x6 x7 w = some rr → gG ρ cs G X 35 [(0, .ref (ρ 75)), (1, .int x6), (2, .int x7)] [] w := by
  intro n
  induction n with
  | zero =>
    intro x6 x7 w hD
    cases hD
  | succ n5 ih =>
    intro x6 x7 w8 hD
    unfold L_X11_longest_35 at hD
    refine g_iload_n h 2 t_X11_longest_35 rfl ?_
    refine g_ldcw (v := 1000000) h t_X11_longest_36 cc_11_306 ?_
    refine g_icmp_ge (tgt := 88) h t_X11_longest_39 (by decide) hD (fun hD => ?_) (fun hD => ?_)
    · refine g_loc (L' := [(1, .int x6)]) h [1] rfl ?_
      exact hk4 x6 _ hD
    · refine g_aload_n h 0 t_X11_longest_42 rfl ?_
      refine g_getR h 75 10 87 fl_11_68 rfl (by decide) rfl t_X11_longest_43 ?_
      refine g_callVI h 87 (As := []) (st := []) my_X10_step mi_X10_step ml_11_307 rfl (by decide) rfl rfl rfl (Nat.le_of_ble_eq_true rfl) (by decide) t_X11_longest_46 hD (fun _ _ e => S_X10_step hρ  e) (fun x10 w9 hD => ?_)
      refine g_if_eq (tgt := 88) h t_X11_longest_49 (by decide) hD (fun hD => ?_) (fun hD => ?_)
      · refine g_loc (L' := [(1, .int x6)]) h [1] rfl ?_
        exact hk4 x6 _ hD
      · refine g_aload_n h 0 t_X11_longest_52 rfl ?_
        refine g_getR h 75 10 87 fl_11_68 rfl (by decide) rfl t_X11_longest_53 ?_
        refine g_getI h 87 5 fl_11_318 rfl (by decide) rfl t_X11_longest_56 ?_
        refine g_iload_n h 1 t_X11_longest_59 rfl ?_
        refine g_join (P := fun k13 => ∀ (x11 : Int32) (w12 : Wd), k13 x11 w12 = some rr → gG ρ cs G X 82 [(0, .ref (ρ 75)), (1, .int x11), (2, .int x7)] [] w12) hD ?_ (fun k13 hk13 hD => ?_)
        · intro x11 w12 hD
          unfold J_X11_longest_j82_1 at hD
          obtain ⟨x14, ex14, hD⟩ := bd_ex hD
          refine g_iinc (v := x14) (L' := [(2, .int x14), (0, .ref (ρ 75)), (1, .int x11)]) h hn t_X11_longest_82 (k := 2) rfl (by rw [ex14]; rfl) (by decide) rfl ?_
          refine g_goto (tgt := 35) h t_X11_longest_85 (by decide) ?_
          refine g_loc (L' := [(0, .ref (ρ 75)), (1, .int x11), (2, .int x14)]) h [1, 2, 0] rfl ?_
          exact ih x11 x14 _ hD
        · refine g_icmp_le (tgt := 82) h t_X11_longest_60 (by decide) hD (fun hD => ?_) (fun hD => ?_)
          · refine g_loc (L' := [(0, .ref (ρ 75)), (1, .int x6), (2, .int x7)]) h [0, 1, 2] rfl ?_
            exact hk13 x6 _ hD
          · refine g_aload_n h 0 t_X11_longest_63 rfl ?_
            refine g_getR h 75 10 87 fl_11_68 rfl (by decide) rfl t_X11_longest_64 ?_
            refine g_getI h 87 5 fl_11_318 rfl (by decide) rfl t_X11_longest_67 ?_
            refine g_bdI hD (fun x15 hD => ?_)
            refine g_istore_n (L' := [(1, .int x15), (0, .ref (ρ 75)), (2, .int x7)]) h hn t_X11_longest_70 rfl (by decide) rfl ?_
            refine g_aload_n h 1 t_X11_longest_71 rfl ?_
            refine g_getR h 75 10 87 fl_11_68 rfl (by decide) rfl t_X11_longest_72 ?_
            refine g_aload_n h 1 t_X11_longest_75 rfl ?_
            refine g_getR h 75 7 82 fl_11_47 rfl (by decide) rfl t_X11_longest_76 ?_
            refine g_callVV h 87 (As := [.ref (ρ 82)]) (st := []) my_X10_tellPath mi_X10_tellPath ml_11_314 rfl (by decide) rfl rfl rfl (Nat.le_of_ble_eq_true rfl) (by decide) t_X11_longest_79 hD (fun _ e => S_X10_tellPath hρ  e) (fun w16 hD => ?_)
            refine g_loc (L' := [(0, .ref (ρ 75)), (1, .int x15), (2, .int x7)]) h [1, 0, 2] rfl ?_
            exact hk13 x15 _ hD
set_option maxRecDepth 20000 in
theorem S_X11_longest {l0 : Launch} {ρ : Nat → Nat} {cs : Nat → ClassId} {G : va_G} (hρ : injN ρ)  {w : Wd} {rr : (Int32 × Wd)} (hD : D_X11_longest w = some rr) : CtI l0 ρ cs G y_X11_longest prog_1_method_31_code 3 .int 5 [.ref (ρ 75)] w rr.1 rr.2 := by
  refine ctI_of hρ (by decide) (Nat.le_of_ble_eq_true rfl) (fun X hn h hR => ?_)
  unfold D_X11_longest at hD
  show gG ρ cs G X 0 [(0, .ref (ρ 75))] [] w
  refine g_aload_n h 0 t_X11_longest_0 rfl ?_
  refine g_getR h 75 0 0 fl_11_10 rfl (by decide) rfl t_X11_longest_1 ?_
  refine g_callVI h 0 (As := []) (st := []) my_X5_isOver mi_X5_isOver ml_11_245 rfl (by decide) rfl rfl rfl (Nat.le_of_ble_eq_true rfl) (by decide) t_X11_longest_4 hD (fun _ _ e => S_X5_isOver hρ (by decide) e) (fun x2 w1 hD => ?_)
  refine g_if_eq (tgt := 13) h t_X11_longest_7 (by decide) hD (fun hD => ?_) (fun hD => ?_)
  · refine g_iconst (v := 0) h t_X11_longest_13 (by decide) ?_
    refine g_istore_n (L' := [(1, .int 0), (0, .ref (ρ 75))]) h hn t_X11_longest_14 rfl (by decide) rfl ?_
    refine g_aload_n h 1 t_X11_longest_15 rfl ?_
    refine g_getR h 75 10 87 fl_11_68 rfl (by decide) rfl t_X11_longest_16 ?_
    refine g_aload_n h 1 t_X11_longest_19 rfl ?_
    refine g_getR h 75 0 0 fl_11_10 rfl (by decide) rfl t_X11_longest_20 ?_
    refine g_bipush (v := 6) h t_X11_longest_23 (by decide) ?_
    refine g_iconst (v := 1) h t_X11_longest_25 (by decide) ?_
    refine g_aload_n h 1 t_X11_longest_26 rfl ?_
    refine g_getI h 75 18 fl_11_112 rfl (by decide) rfl t_X11_longest_27 ?_
    refine g_callVV h 87 (As := [.ref (ρ 0), .int 6, .int 1, .int (w1.1 75 18)]) (st := []) my_X10_start mi_X10_start ml_11_302 rfl (by decide) rfl rfl rfl (Nat.le_of_ble_eq_true rfl) (by decide) t_X11_longest_30 hD (fun _ e => S_X10_start hρ (by decide) e) (fun w3 hD => ?_)
    refine g_iconst (v := 0) h t_X11_longest_33 (by decide) ?_
    refine g_istore_n (L' := [(2, .int 0), (1, .int 0), (0, .ref (ρ 75))]) h hn t_X11_longest_34 rfl (by decide) rfl ?_
    refine g_loc (L' := [(0, .ref (ρ 75)), (1, .int 0), (2, .int 0)]) h [2, 1, 0] rfl ?_
    refine Q_X11_longest_35 hρ hn h hR  ?_ _ _ _ _ hD
    · intro x17 w18 hD
      unfold J_X11_longest_x88_2 at hD
      refine g_iload_n h 0 t_X11_longest_88 rfl ?_
      obtain rfl := Option.some.inj hD
      exact hR _ _ t_X11_longest_89 rfl
  · refine g_bipush (v := (-2)) h t_X11_longest_10 (by decide) ?_
    obtain rfl := Option.some.inj hD
    exact hR _ _ t_X11_longest_12 rfl
def D_X11_threat  : Wd → Option (Int32 × Wd) := fun w =>
  bv (D_X5_take 6 0 w) fun w1 => bv (D_X5_pass 6 w1) fun w2 => bc (D_X4_choose 6 109 (w2.1 75 18) w2) fun x4 w3 => bv (D_X3_clear w3) fun w5 => if x4 = (-1) then (some (w5.1 85 2, w5)) else (bv (D_X3_add x4.toInt64 w5) fun w6 => some (w6.1 85 2, w6))
set_option maxRecDepth 20000 in
theorem S_X11_threat {l0 : Launch} {ρ : Nat → Nat} {cs : Nat → ClassId} {G : va_G} (hρ : injN ρ)  {w : Wd} {rr : (Int32 × Wd)} (hD : D_X11_threat w = some rr) : CtI l0 ρ cs G y_X11_threat prog_1_method_32_code 2 .int 12 [.ref (ρ 75)] w rr.1 rr.2 := by
  refine ctI_of hρ (by decide) (Nat.le_of_ble_eq_true rfl) (fun X hn h hR => ?_)
  unfold D_X11_threat at hD
  show gG ρ cs G X 0 [(0, .ref (ρ 75))] [] w
  refine g_aload_n h 0 t_X11_threat_0 rfl ?_
  refine g_getR h 75 2 6 fl_11_19 rfl (by decide) rfl t_X11_threat_1 ?_
  refine g_aload_n h 0 t_X11_threat_4 rfl ?_
  refine g_getR h 75 0 0 fl_11_10 rfl (by decide) rfl t_X11_threat_5 ?_
  refine g_callVV h 6 (As := [.ref (ρ 0)]) (st := []) my_X5_take mi_X5_take ml_11_269 rfl (by decide) rfl rfl rfl (Nat.le_of_ble_eq_true rfl) (by decide) t_X11_threat_8 hD (fun _ e => S_X5_take hρ (by decide) (by decide) e) (fun w1 hD => ?_)
  refine g_aload_n h 0 t_X11_threat_11 rfl ?_
  refine g_getR h 75 2 6 fl_11_19 rfl (by decide) rfl t_X11_threat_12 ?_
  refine g_callVV h 6 (As := []) (st := []) my_X5_pass mi_X5_pass ml_11_260 rfl (by decide) rfl rfl rfl (Nat.le_of_ble_eq_true rfl) (by decide) t_X11_threat_15 hD (fun _ e => S_X5_pass hρ (by decide) e) (fun w2 hD => ?_)
  refine g_aload_n h 0 t_X11_threat_18 rfl ?_
  refine g_getR h 75 9 85 fl_11_61 rfl (by decide) rfl t_X11_threat_19 ?_
  refine g_aload_n h 0 t_X11_threat_22 rfl ?_
  refine g_getR h 75 2 6 fl_11_19 rfl (by decide) rfl t_X11_threat_23 ?_
  refine g_aload_n h 0 t_X11_threat_26 rfl ?_
  refine g_getR h 75 14 109 fl_11_93 rfl (by decide) rfl t_X11_threat_27 ?_
  refine g_aload_n h 0 t_X11_threat_30 rfl ?_
  refine g_getI h 75 18 fl_11_112 rfl (by decide) rfl t_X11_threat_31 ?_
  refine g_callVI h 85 (As := [.ref (ρ 6), .ref (ρ 109), .int (w2.1 75 18)]) (st := []) my_X4_choose mi_X4_choose ml_11_295 rfl (by decide) rfl rfl rfl (Nat.le_of_ble_eq_true rfl) (by decide) t_X11_threat_34 hD (fun _ _ e => S_X4_choose hρ (by decide) (by decide) e) (fun x4 w3 hD => ?_)
  refine g_istore_n (L' := [(1, .int x4), (0, .ref (ρ 75))]) h hn t_X11_threat_37 rfl (by decide) rfl ?_
  refine g_aload_n h 1 t_X11_threat_38 rfl ?_
  refine g_getR h 75 7 82 fl_11_47 rfl (by decide) rfl t_X11_threat_39 ?_
  refine g_callVV h 82 (As := []) (st := []) my_X3_clear mi_X3_clear ml_11_321 rfl (by decide) rfl rfl rfl (Nat.le_of_ble_eq_true rfl) (by decide) t_X11_threat_42 hD (fun _ e => S_X3_clear hρ  e) (fun w5 hD => ?_)
  refine g_iload_n h 0 t_X11_threat_45 rfl ?_
  refine g_iconst (v := (-1)) h t_X11_threat_46 (by decide) ?_
  refine g_icmp_eq (tgt := 59) h t_X11_threat_47 (by decide) hD (fun hD => ?_) (fun hD => ?_)
  · refine g_aload_n h 1 t_X11_threat_59 rfl ?_
    refine g_getR h 75 9 85 fl_11_61 rfl (by decide) rfl t_X11_threat_60 ?_
    refine g_getI h 85 2 fl_11_299 rfl (by decide) rfl t_X11_threat_63 ?_
    obtain rfl := Option.some.inj hD
    exact hR _ _ t_X11_threat_66 rfl
  · refine g_aload_n h 1 t_X11_threat_50 rfl ?_
    refine g_getR h 75 7 82 fl_11_47 rfl (by decide) rfl t_X11_threat_51 ?_
    refine g_iload_n h 0 t_X11_threat_54 rfl ?_
    refine g_i2l h t_X11_threat_55 ?_
    refine g_callVV h 82 (As := [.long x4.toInt64]) (st := []) my_X3_add mi_X3_add ml_11_322 rfl (by decide) rfl rfl rfl (Nat.le_of_ble_eq_true rfl) (by decide) t_X11_threat_56 hD (fun _ e => S_X3_add hρ  e) (fun w6 hD => ?_)
    refine g_aload_n h 1 t_X11_threat_59 rfl ?_
    refine g_getR h 75 9 85 fl_11_61 rfl (by decide) rfl t_X11_threat_60 ?_
    refine g_getI h 85 2 fl_11_299 rfl (by decide) rfl t_X11_threat_63 ?_
    obtain rfl := Option.some.inj hD
    exact hR _ _ t_X11_threat_66 rfl
