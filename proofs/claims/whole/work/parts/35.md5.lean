def y_X12_keep : MethodName := ⟨"SowingBoardsModel", "keep", "(I)Z"⟩
theorem t_X12_keep_0 : decode prog_14_method_105_code 0 = .ok (.aload_n 0, 1) := by decide +kernel
theorem t_X12_keep_1 : decode prog_14_method_105_code 1 = .ok (.iconst 0, 1) := by decide +kernel
theorem t_X12_keep_2 : decode prog_14_method_105_code 2 = .ok (.putfield 109, 3) := by decide +kernel
theorem t_X12_keep_5 : decode prog_14_method_105_code 5 = .ok (.iload_n 1, 1) := by decide +kernel
theorem t_X12_keep_6 : decode prog_14_method_105_code 6 = .ok (.iconst 0, 1) := by decide +kernel
theorem t_X12_keep_7 : decode prog_14_method_105_code 7 = .ok (.iconst 1, 1) := by decide +kernel
theorem t_X12_keep_8 : decode prog_14_method_105_code 8 = .ok (.invokestatic 118, 3) := by decide +kernel
theorem t_X12_keep_11 : decode prog_14_method_105_code 11 = .ok (.ifCond .ne 5, 3) := by decide +kernel
theorem t_X12_keep_14 : decode prog_14_method_105_code 14 = .ok (.iconst 0, 1) := by decide +kernel
theorem t_X12_keep_15 : decode prog_14_method_105_code 15 = .ok (.ireturn, 1) := by decide +kernel
theorem t_X12_keep_16 : decode prog_14_method_105_code 16 = .ok (.aload_n 0, 1) := by decide +kernel
theorem t_X12_keep_17 : decode prog_14_method_105_code 17 = .ok (.getfield 103, 3) := by decide +kernel
theorem t_X12_keep_20 : decode prog_14_method_105_code 20 = .ok (.iload_n 1, 1) := by decide +kernel
theorem t_X12_keep_21 : decode prog_14_method_105_code 21 = .ok (.iconst 1, 1) := by decide +kernel
theorem t_X12_keep_22 : decode prog_14_method_105_code 22 = .ok (.bastore, 1) := by decide +kernel
theorem t_X12_keep_23 : decode prog_14_method_105_code 23 = .ok (.aload_n 0, 1) := by decide +kernel
theorem t_X12_keep_24 : decode prog_14_method_105_code 24 = .ok (.getfield 106, 3) := by decide +kernel
theorem t_X12_keep_27 : decode prog_14_method_105_code 27 = .ok (.iload_n 1, 1) := by decide +kernel
theorem t_X12_keep_28 : decode prog_14_method_105_code 28 = .ok (.aload_n 0, 1) := by decide +kernel
theorem t_X12_keep_29 : decode prog_14_method_105_code 29 = .ok (.getfield 170, 3) := by decide +kernel
theorem t_X12_keep_32 : decode prog_14_method_105_code 32 = .ok (.iastore, 1) := by decide +kernel
theorem t_X12_keep_33 : decode prog_14_method_105_code 33 = .ok (.aload_n 0, 1) := by decide +kernel
theorem t_X12_keep_34 : decode prog_14_method_105_code 34 = .ok (.getfield 9, 3) := by decide +kernel
theorem t_X12_keep_37 : decode prog_14_method_105_code 37 = .ok (.aload_n 0, 1) := by decide +kernel
theorem t_X12_keep_38 : decode prog_14_method_105_code 38 = .ok (.getfield 100, 3) := by decide +kernel
theorem t_X12_keep_41 : decode prog_14_method_105_code 41 = .ok (.bipush 16, 2) := by decide +kernel
theorem t_X12_keep_43 : decode prog_14_method_105_code 43 = .ok (.iload_n 1, 1) := by decide +kernel
theorem t_X12_keep_44 : decode prog_14_method_105_code 44 = .ok (.imul, 1) := by decide +kernel
theorem t_X12_keep_45 : decode prog_14_method_105_code 45 = .ok (.invokestatic 256, 3) := by decide +kernel
theorem t_X12_keep_48 : decode prog_14_method_105_code 48 = .ok (.iconst 1, 1) := by decide +kernel
theorem t_X12_keep_49 : decode prog_14_method_105_code 49 = .ok (.ireturn, 1) := by decide +kernel
def y_X12_again : MethodName := ⟨"SowingBoardsModel", "again", "(I)Z"⟩
theorem t_X12_again_0 : decode prog_14_method_106_code 0 = .ok (.aload_n 0, 1) := by decide +kernel
theorem t_X12_again_1 : decode prog_14_method_106_code 1 = .ok (.iconst 0, 1) := by decide +kernel
theorem t_X12_again_2 : decode prog_14_method_106_code 2 = .ok (.putfield 109, 3) := by decide +kernel
theorem t_X12_again_5 : decode prog_14_method_106_code 5 = .ok (.iload_n 1, 1) := by decide +kernel
theorem t_X12_again_6 : decode prog_14_method_106_code 6 = .ok (.iconst 0, 1) := by decide +kernel
theorem t_X12_again_7 : decode prog_14_method_106_code 7 = .ok (.iconst 1, 1) := by decide +kernel
theorem t_X12_again_8 : decode prog_14_method_106_code 8 = .ok (.invokestatic 118, 3) := by decide +kernel
theorem t_X12_again_11 : decode prog_14_method_106_code 11 = .ok (.ifCond .eq 25, 3) := by decide +kernel
theorem t_X12_again_14 : decode prog_14_method_106_code 14 = .ok (.aload_n 0, 1) := by decide +kernel
theorem t_X12_again_15 : decode prog_14_method_106_code 15 = .ok (.getfield 103, 3) := by decide +kernel
theorem t_X12_again_18 : decode prog_14_method_106_code 18 = .ok (.iload_n 1, 1) := by decide +kernel
theorem t_X12_again_19 : decode prog_14_method_106_code 19 = .ok (.baload, 1) := by decide +kernel
theorem t_X12_again_20 : decode prog_14_method_106_code 20 = .ok (.ifCond .eq 16, 3) := by decide +kernel
theorem t_X12_again_23 : decode prog_14_method_106_code 23 = .ok (.aload_n 0, 1) := by decide +kernel
theorem t_X12_again_24 : decode prog_14_method_106_code 24 = .ok (.getfield 106, 3) := by decide +kernel
theorem t_X12_again_27 : decode prog_14_method_106_code 27 = .ok (.iload_n 1, 1) := by decide +kernel
theorem t_X12_again_28 : decode prog_14_method_106_code 28 = .ok (.iaload, 1) := by decide +kernel
theorem t_X12_again_29 : decode prog_14_method_106_code 29 = .ok (.aload_n 0, 1) := by decide +kernel
theorem t_X12_again_30 : decode prog_14_method_106_code 30 = .ok (.getfield 170, 3) := by decide +kernel
theorem t_X12_again_33 : decode prog_14_method_106_code 33 = .ok (.if_icmp .eq 5, 3) := by decide +kernel
theorem t_X12_again_36 : decode prog_14_method_106_code 36 = .ok (.iconst 0, 1) := by decide +kernel
theorem t_X12_again_37 : decode prog_14_method_106_code 37 = .ok (.ireturn, 1) := by decide +kernel
theorem t_X12_again_38 : decode prog_14_method_106_code 38 = .ok (.iconst 0, 1) := by decide +kernel
theorem t_X12_again_39 : decode prog_14_method_106_code 39 = .ok (.istore_n 2, 1) := by decide +kernel
theorem t_X12_again_40 : decode prog_14_method_106_code 40 = .ok (.iload_n 2, 1) := by decide +kernel
theorem t_X12_again_41 : decode prog_14_method_106_code 41 = .ok (.bipush 16, 2) := by decide +kernel
theorem t_X12_again_43 : decode prog_14_method_106_code 43 = .ok (.if_icmp .ge 26, 3) := by decide +kernel
theorem t_X12_again_46 : decode prog_14_method_106_code 46 = .ok (.aload_n 0, 1) := by decide +kernel
theorem t_X12_again_47 : decode prog_14_method_106_code 47 = .ok (.getfield 9, 3) := by decide +kernel
theorem t_X12_again_50 : decode prog_14_method_106_code 50 = .ok (.iload_n 2, 1) := by decide +kernel
theorem t_X12_again_51 : decode prog_14_method_106_code 51 = .ok (.aload_n 0, 1) := by decide +kernel
theorem t_X12_again_52 : decode prog_14_method_106_code 52 = .ok (.getfield 100, 3) := by decide +kernel
theorem t_X12_again_55 : decode prog_14_method_106_code 55 = .ok (.bipush 16, 2) := by decide +kernel
theorem t_X12_again_57 : decode prog_14_method_106_code 57 = .ok (.iload_n 1, 1) := by decide +kernel
theorem t_X12_again_58 : decode prog_14_method_106_code 58 = .ok (.imul, 1) := by decide +kernel
theorem t_X12_again_59 : decode prog_14_method_106_code 59 = .ok (.iload_n 2, 1) := by decide +kernel
theorem t_X12_again_60 : decode prog_14_method_106_code 60 = .ok (.iadd, 1) := by decide +kernel
theorem t_X12_again_61 : decode prog_14_method_106_code 61 = .ok (.iaload, 1) := by decide +kernel
theorem t_X12_again_62 : decode prog_14_method_106_code 62 = .ok (.iastore, 1) := by decide +kernel
theorem t_X12_again_63 : decode prog_14_method_106_code 63 = .ok (.iinc 2 1, 3) := by decide +kernel
theorem t_X12_again_66 : decode prog_14_method_106_code 66 = .ok (.goto (-26), 3) := by decide +kernel
theorem t_X12_again_69 : decode prog_14_method_106_code 69 = .ok (.aload_n 0, 1) := by decide +kernel
theorem t_X12_again_70 : decode prog_14_method_106_code 70 = .ok (.iconst 0, 1) := by decide +kernel
theorem t_X12_again_71 : decode prog_14_method_106_code 71 = .ok (.putfield 167, 3) := by decide +kernel
theorem t_X12_again_74 : decode prog_14_method_106_code 74 = .ok (.iconst 1, 1) := by decide +kernel
theorem t_X12_again_75 : decode prog_14_method_106_code 75 = .ok (.ireturn, 1) := by decide +kernel
def y_X12_count : MethodName := ⟨"SowingBoardsModel", "count", "(I)I"⟩
theorem t_X12_count_0 : decode prog_14_method_107_code 0 = .ok (.aload_n 0, 1) := by decide +kernel
theorem t_X12_count_1 : decode prog_14_method_107_code 1 = .ok (.iconst 0, 1) := by decide +kernel
theorem t_X12_count_2 : decode prog_14_method_107_code 2 = .ok (.putfield 109, 3) := by decide +kernel
theorem t_X12_count_5 : decode prog_14_method_107_code 5 = .ok (.iload_n 1, 1) := by decide +kernel
theorem t_X12_count_6 : decode prog_14_method_107_code 6 = .ok (.tableswitch 140 0 10 #[58, 63, 71, 79, 93, 110, 115, 120, 125, 130, 135], 58) := by decide +kernel
theorem t_X12_count_64 : decode prog_14_method_107_code 64 = .ok (.aload_n 0, 1) := by decide +kernel
theorem t_X12_count_65 : decode prog_14_method_107_code 65 = .ok (.getfield 13, 3) := by decide +kernel
theorem t_X12_count_68 : decode prog_14_method_107_code 68 = .ok (.ireturn, 1) := by decide +kernel
theorem t_X12_count_69 : decode prog_14_method_107_code 69 = .ok (.aload_n 0, 1) := by decide +kernel
theorem t_X12_count_70 : decode prog_14_method_107_code 70 = .ok (.getfield 9, 3) := by decide +kernel
theorem t_X12_count_73 : decode prog_14_method_107_code 73 = .ok (.bipush 14, 2) := by decide +kernel
theorem t_X12_count_75 : decode prog_14_method_107_code 75 = .ok (.iaload, 1) := by decide +kernel
theorem t_X12_count_76 : decode prog_14_method_107_code 76 = .ok (.ireturn, 1) := by decide +kernel
theorem t_X12_count_77 : decode prog_14_method_107_code 77 = .ok (.aload_n 0, 1) := by decide +kernel
theorem t_X12_count_78 : decode prog_14_method_107_code 78 = .ok (.getfield 9, 3) := by decide +kernel
theorem t_X12_count_81 : decode prog_14_method_107_code 81 = .ok (.bipush 15, 2) := by decide +kernel
theorem t_X12_count_83 : decode prog_14_method_107_code 83 = .ok (.iaload, 1) := by decide +kernel
theorem t_X12_count_84 : decode prog_14_method_107_code 84 = .ok (.ireturn, 1) := by decide +kernel
theorem t_X12_count_85 : decode prog_14_method_107_code 85 = .ok (.aload_n 0, 1) := by decide +kernel
theorem t_X12_count_86 : decode prog_14_method_107_code 86 = .ok (.aload_n 0, 1) := by decide +kernel
theorem t_X12_count_87 : decode prog_14_method_107_code 87 = .ok (.getfield 9, 3) := by decide +kernel
theorem t_X12_count_90 : decode prog_14_method_107_code 90 = .ok (.iconst 0, 1) := by decide +kernel
theorem t_X12_count_91 : decode prog_14_method_107_code 91 = .ok (.aload_n 0, 1) := by decide +kernel
theorem t_X12_count_92 : decode prog_14_method_107_code 92 = .ok (.invokevirtual 214, 3) := by decide +kernel
theorem t_X12_count_95 : decode prog_14_method_107_code 95 = .ok (.invokevirtual 229, 3) := by decide +kernel
theorem t_X12_count_98 : decode prog_14_method_107_code 98 = .ok (.ireturn, 1) := by decide +kernel
theorem t_X12_count_99 : decode prog_14_method_107_code 99 = .ok (.aload_n 0, 1) := by decide +kernel
theorem t_X12_count_100 : decode prog_14_method_107_code 100 = .ok (.aload_n 0, 1) := by decide +kernel
theorem t_X12_count_101 : decode prog_14_method_107_code 101 = .ok (.getfield 9, 3) := by decide +kernel
theorem t_X12_count_104 : decode prog_14_method_107_code 104 = .ok (.invokevirtual 282, 3) := by decide +kernel
theorem t_X12_count_107 : decode prog_14_method_107_code 107 = .ok (.ifCond .eq 7, 3) := by decide +kernel
theorem t_X12_count_110 : decode prog_14_method_107_code 110 = .ok (.iconst 1, 1) := by decide +kernel
theorem t_X12_count_111 : decode prog_14_method_107_code 111 = .ok (.goto 4, 3) := by decide +kernel
theorem t_X12_count_114 : decode prog_14_method_107_code 114 = .ok (.iconst 0, 1) := by decide +kernel
theorem t_X12_count_115 : decode prog_14_method_107_code 115 = .ok (.ireturn, 1) := by decide +kernel
theorem t_X12_count_116 : decode prog_14_method_107_code 116 = .ok (.aload_n 0, 1) := by decide +kernel
theorem t_X12_count_117 : decode prog_14_method_107_code 117 = .ok (.getfield 17, 3) := by decide +kernel
theorem t_X12_count_120 : decode prog_14_method_107_code 120 = .ok (.ireturn, 1) := by decide +kernel
theorem t_X12_count_121 : decode prog_14_method_107_code 121 = .ok (.aload_n 0, 1) := by decide +kernel
theorem t_X12_count_122 : decode prog_14_method_107_code 122 = .ok (.getfield 354, 3) := by decide +kernel
theorem t_X12_count_125 : decode prog_14_method_107_code 125 = .ok (.ireturn, 1) := by decide +kernel
theorem t_X12_count_126 : decode prog_14_method_107_code 126 = .ok (.aload_n 0, 1) := by decide +kernel
theorem t_X12_count_127 : decode prog_14_method_107_code 127 = .ok (.getfield 366, 3) := by decide +kernel
theorem t_X12_count_130 : decode prog_14_method_107_code 130 = .ok (.ireturn, 1) := by decide +kernel
theorem t_X12_count_131 : decode prog_14_method_107_code 131 = .ok (.aload_n 0, 1) := by decide +kernel
theorem t_X12_count_132 : decode prog_14_method_107_code 132 = .ok (.getfield 167, 3) := by decide +kernel
theorem t_X12_count_135 : decode prog_14_method_107_code 135 = .ok (.ireturn, 1) := by decide +kernel
theorem t_X12_count_136 : decode prog_14_method_107_code 136 = .ok (.aload_n 0, 1) := by decide +kernel
theorem t_X12_count_137 : decode prog_14_method_107_code 137 = .ok (.getfield 112, 3) := by decide +kernel
theorem t_X12_count_140 : decode prog_14_method_107_code 140 = .ok (.ireturn, 1) := by decide +kernel
theorem t_X12_count_141 : decode prog_14_method_107_code 141 = .ok (.aload_n 0, 1) := by decide +kernel
theorem t_X12_count_142 : decode prog_14_method_107_code 142 = .ok (.getfield 115, 3) := by decide +kernel
theorem t_X12_count_145 : decode prog_14_method_107_code 145 = .ok (.ireturn, 1) := by decide +kernel
theorem t_X12_count_146 : decode prog_14_method_107_code 146 = .ok (.iconst (-1), 1) := by decide +kernel
theorem t_X12_count_147 : decode prog_14_method_107_code 147 = .ok (.ireturn, 1) := by decide +kernel
def y_X12_row : MethodName := ⟨"SowingBoardsModel", "row", "(I)J"⟩
theorem t_X12_row_0 : decode prog_14_method_108_code 0 = .ok (.aload_n 0, 1) := by decide +kernel
theorem t_X12_row_1 : decode prog_14_method_108_code 1 = .ok (.iconst 0, 1) := by decide +kernel
theorem t_X12_row_2 : decode prog_14_method_108_code 2 = .ok (.putfield 109, 3) := by decide +kernel
theorem t_X12_row_5 : decode prog_14_method_108_code 5 = .ok (.iload_n 1, 1) := by decide +kernel
theorem t_X12_row_6 : decode prog_14_method_108_code 6 = .ok (.iconst 0, 1) := by decide +kernel
theorem t_X12_row_7 : decode prog_14_method_108_code 7 = .ok (.aload_n 0, 1) := by decide +kernel
theorem t_X12_row_8 : decode prog_14_method_108_code 8 = .ok (.getfield 112, 3) := by decide +kernel
theorem t_X12_row_11 : decode prog_14_method_108_code 11 = .ok (.iconst 1, 1) := by decide +kernel
theorem t_X12_row_12 : decode prog_14_method_108_code 12 = .ok (.isub, 1) := by decide +kernel
theorem t_X12_row_13 : decode prog_14_method_108_code 13 = .ok (.invokestatic 118, 3) := by decide +kernel
theorem t_X12_row_16 : decode prog_14_method_108_code 16 = .ok (.ifCond .eq 12, 3) := by decide +kernel
theorem t_X12_row_19 : decode prog_14_method_108_code 19 = .ok (.aload_n 0, 1) := by decide +kernel
theorem t_X12_row_20 : decode prog_14_method_108_code 20 = .ok (.getfield 24, 3) := by decide +kernel
theorem t_X12_row_23 : decode prog_14_method_108_code 23 = .ok (.iload_n 1, 1) := by decide +kernel
theorem t_X12_row_24 : decode prog_14_method_108_code 24 = .ok (.laload, 1) := by decide +kernel
theorem t_X12_row_25 : decode prog_14_method_108_code 25 = .ok (.goto 8, 3) := by decide +kernel
theorem t_X12_row_28 : decode prog_14_method_108_code 28 = .ok (.aload_n 0, 1) := by decide +kernel
theorem t_X12_row_29 : decode prog_14_method_108_code 29 = .ok (.invokevirtual 217, 3) := by decide +kernel
theorem t_X12_row_32 : decode prog_14_method_108_code 32 = .ok (.i2l, 1) := by decide +kernel
theorem t_X12_row_33 : decode prog_14_method_108_code 33 = .ok (.lreturn, 1) := by decide +kernel
theorem fl_12_100 : FLk "SowingBoardsModel" 100 12 52 := ⟨_, rfl, by decide, Or.inl (vtb_at 1390 (by decide +kernel) rfl)⟩
theorem fl_12_103 : FLk "SowingBoardsModel" 103 12 53 := ⟨_, rfl, by decide, Or.inl (vtb_at 1391 (by decide +kernel) rfl)⟩
theorem fl_12_106 : FLk "SowingBoardsModel" 106 12 54 := ⟨_, rfl, by decide, Or.inl (vtb_at 1392 (by decide +kernel) rfl)⟩
def D_X12_keep (p1 : Int32) : Wd → Option (Int32 × Wd) := fun w =>
  bd (wI w 119 7 0) fun w1 => bc (D_X12_in p1 0 1 w1) fun x3 w2 => if x3 = 0 then (some (0, w2)) else (if ib p1 2 then bd (wI w2 159 p1.toNatClampNeg (vp_nar .boolean 1)) (fun w4 => if ib p1 2 then bd (wI w4 160 p1.toNatClampNeg (w4.1 119 51)) (fun w5 => bv (D_X12_lay 120 158 (16 * p1) w5) fun w6 => some (1, w6)) else none) else none)
set_option maxRecDepth 20000 in
theorem S_X12_keep {l0 : Launch} {ρ : Nat → Nat} {cs : Nat → ClassId} {G : va_G} (hρ : injN ρ) {p1 : Int32} {w : Wd} {rr : (Int32 × Wd)} (hD : D_X12_keep p1 w = some rr) : CtI l0 ρ cs G y_X12_keep prog_14_method_105_code 2 .boolean 1 [.ref (ρ 119), .int p1] w rr.1 rr.2 := by
  refine ctI_of hρ (by decide) (Nat.le_of_ble_eq_true rfl) (fun X hn h hR => ?_)
  unfold D_X12_keep at hD
  show gG ρ cs G X 0 [(0, .ref (ρ 119)), (1, .int p1)] [] w
  refine g_aload_n h 0 t_X12_keep_0 rfl ?_
  refine g_iconst (v := 0) h t_X12_keep_1 (by decide) ?_
  refine g_putI h 119 7 fl_12_109 fp_12_7 rfl (by decide) rfl t_X12_keep_2 hD (fun w1 hD => ?_)
  refine g_iload_n h 1 t_X12_keep_5 rfl ?_
  refine g_iconst (v := 0) h t_X12_keep_6 (by decide) ?_
  refine g_iconst (v := 1) h t_X12_keep_7 (by decide) ?_
  refine g_callSI h (As := [.int p1, .int 0, .int 1]) (st := []) my_X12_in ms_X12_in ml_12_118 rfl rfl (Nat.le_of_ble_eq_true rfl) (by decide) t_X12_keep_8 hD (fun _ _ e => S_X12_in hρ  e) (fun x3 w2 hD => ?_)
  refine g_if_ne (tgt := 16) h t_X12_keep_11 (by decide) hD (fun hD => ?_) (fun hD => ?_)
  · refine g_aload_n h 0 t_X12_keep_16 rfl ?_
    refine g_getR h 119 53 159 fl_12_103 rfl (by decide) rfl t_X12_keep_17 ?_
    refine g_iload_n h 1 t_X12_keep_20 rfl ?_
    refine g_iconst (v := 1) h t_X12_keep_21 (by decide) ?_
    refine g_zast h 159 rfl (by decide) t_X12_keep_22 hD (fun w4 hD => ?_)
    refine g_aload_n h 0 t_X12_keep_23 rfl ?_
    refine g_getR h 119 54 160 fl_12_106 rfl (by decide) rfl t_X12_keep_24 ?_
    refine g_iload_n h 1 t_X12_keep_27 rfl ?_
    refine g_aload_n h 0 t_X12_keep_28 rfl ?_
    refine g_getI h 119 51 fl_12_170 rfl (by decide) rfl t_X12_keep_29 ?_
    refine g_iast h 160 rfl (by decide) t_X12_keep_32 hD (fun w5 hD => ?_)
    refine g_aload_n h 0 t_X12_keep_33 rfl ?_
    refine g_getR h 119 0 120 fl_12_9 rfl (by decide) rfl t_X12_keep_34 ?_
    refine g_aload_n h 0 t_X12_keep_37 rfl ?_
    refine g_getR h 119 52 158 fl_12_100 rfl (by decide) rfl t_X12_keep_38 ?_
    refine g_bipush (v := 16) h t_X12_keep_41 (by decide) ?_
    refine g_iload_n h 1 t_X12_keep_43 rfl ?_
    refine g_imul h t_X12_keep_44 ?_
    refine g_callSV h (As := [.ref (ρ 120), .ref (ρ 158), .int (16 * p1)]) (st := []) my_X12_lay ms_X12_lay ml_12_256 rfl rfl (Nat.le_of_ble_eq_true rfl) (by decide) t_X12_keep_45 hD (fun _ e => S_X12_lay hρ (by decide) (by decide) e) (fun w6 hD => ?_)
    refine g_iconst (v := 1) h t_X12_keep_48 (by decide) ?_
    obtain rfl := Option.some.inj hD
    exact hR _ _ t_X12_keep_49 (b01_n rfl)
  · refine g_iconst (v := 0) h t_X12_keep_14 (by decide) ?_
    obtain rfl := Option.some.inj hD
    exact hR _ _ t_X12_keep_15 (b01_n rfl)
def L_X12_again_40 (x4 : Int32) (k5 : Wd → Option (Int32 × Wd)) : Nat → Int32 → Wd → Option (Int32 × Wd)
  | 0, _, _ => none
  | n6 + 1, x7, w8 =>
    if 16 ≤ x7 then (k5 w8) else (if ib ((16 * x4) + x7) 32 then (if ib x7 16 then bd (wI w8 120 x7.toNatClampNeg (w8.1 158 ((16 * x4) + x7).toNatClampNeg)) (fun w9 => bd (x7 + 1) fun x10 => L_X12_again_40 x4 k5 n6 x10 w9) else none) else none)
def J_X12_again_x69_1  : Wd → Option (Int32 × Wd) := fun w11 =>
  bd (wI w11 119 23 0) fun w12 => some (1, w12)
def D_X12_again (p1 : Int32) : Wd → Option (Int32 × Wd) := fun w =>
  bd (wI w 119 7 0) fun w1 => bc (D_X12_in p1 0 1 w1) fun x3 w2 => if x3 = 0 then (some (0, w2)) else (if ib p1 2 then (if (w2.1 159 p1.toNatClampNeg) = 0 then (some (0, w2)) else (if ib p1 2 then (if (w2.1 160 p1.toNatClampNeg) = (w2.1 119 51) then (L_X12_again_40 p1 J_X12_again_x69_1 FU 0 w2) else (some (0, w2))) else none)) else none)
set_option maxRecDepth 20000 in
theorem Q_X12_again_40 {l0 : Launch} {ρ : Nat → Nat} {cs : Nat → ClassId} {G : va_G} {X : Cx} (hρ : injN ρ) (hn : X.2.2.2.2.2.2.2.2.2.2.1 = 3) (h : Okx l0 ρ cs G X prog_14_method_106_code "SowingBoardsModel" 1) {rr : (Int32 × Wd)} (hR : ∀ pc L, decode prog_14_method_106_code pc = .ok (.ireturn, 1) → narrow .boolean (.int rr.1) = .int rr.1 → gG ρ cs G X pc L [.int rr.1] rr.2) {x4 : Int32} {k5 : Wd → Option (Int32 × Wd)} (hk5 : ∀ (w1 : Wd), k5 w1 = some rr → gG ρ cs G X 69 [(0, .ref (ρ 119))] [] w1) : ∀ (n : Nat) (x7 : Int32) (w : Wd), L_X12_again_40 x4 k5 n x7 w = some rr → gG ρ cs G X 40 [(0, .ref (ρ 119)), (1, .int x4), (2, .int x7)] [] w := by
  intro n
  induction n with
  | zero =>
    intro x7 w hD
    cases hD
  | succ n6 ih =>
    intro x7 w8 hD
    unfold L_X12_again_40 at hD
    refine g_iload_n h 2 t_X12_again_40 rfl ?_
    refine g_bipush (v := 16) h t_X12_again_41 (by decide) ?_
    refine g_icmp_ge (tgt := 69) h t_X12_again_43 (by decide) hD (fun hD => ?_) (fun hD => ?_)
    · refine g_loc (L' := [(0, .ref (ρ 119))]) h [0] rfl ?_
      exact hk5 _ hD
    · refine g_aload_n h 0 t_X12_again_46 rfl ?_
      refine g_getR h 119 0 120 fl_12_9 rfl (by decide) rfl t_X12_again_47 ?_
      refine g_iload_n h 2 t_X12_again_50 rfl ?_
      refine g_aload_n h 0 t_X12_again_51 rfl ?_
      refine g_getR h 119 52 158 fl_12_100 rfl (by decide) rfl t_X12_again_52 ?_
      refine g_bipush (v := 16) h t_X12_again_55 (by decide) ?_
      refine g_iload_n h 1 t_X12_again_57 rfl ?_
      refine g_imul h t_X12_again_58 ?_
      refine g_iload_n h 2 t_X12_again_59 rfl ?_
      refine g_iadd h t_X12_again_60 ?_
      refine g_iald h 158 rfl (by decide) t_X12_again_61 hD (fun hD => ?_)
      refine g_iast h 120 rfl (by decide) t_X12_again_62 hD (fun w9 hD => ?_)
      obtain ⟨x10, ex10, hD⟩ := bd_ex hD
      refine g_iinc (v := x10) (L' := [(2, .int x10), (0, .ref (ρ 119)), (1, .int x4)]) h hn t_X12_again_63 (k := 2) rfl (by rw [ex10]; rfl) (by decide) rfl ?_
      refine g_goto (tgt := 40) h t_X12_again_66 (by decide) ?_
      refine g_loc (L' := [(0, .ref (ρ 119)), (1, .int x4), (2, .int x10)]) h [1, 2, 0] rfl ?_
      exact ih x10 _ hD
set_option maxRecDepth 20000 in
theorem S_X12_again {l0 : Launch} {ρ : Nat → Nat} {cs : Nat → ClassId} {G : va_G} (hρ : injN ρ) {p1 : Int32} {w : Wd} {rr : (Int32 × Wd)} (hD : D_X12_again p1 w = some rr) : CtI l0 ρ cs G y_X12_again prog_14_method_106_code 3 .boolean 1 [.ref (ρ 119), .int p1] w rr.1 rr.2 := by
  refine ctI_of hρ (by decide) (Nat.le_of_ble_eq_true rfl) (fun X hn h hR => ?_)
  unfold D_X12_again at hD
  show gG ρ cs G X 0 [(0, .ref (ρ 119)), (1, .int p1)] [] w
  refine g_aload_n h 0 t_X12_again_0 rfl ?_
  refine g_iconst (v := 0) h t_X12_again_1 (by decide) ?_
  refine g_putI h 119 7 fl_12_109 fp_12_7 rfl (by decide) rfl t_X12_again_2 hD (fun w1 hD => ?_)
  refine g_iload_n h 1 t_X12_again_5 rfl ?_
  refine g_iconst (v := 0) h t_X12_again_6 (by decide) ?_
  refine g_iconst (v := 1) h t_X12_again_7 (by decide) ?_
  refine g_callSI h (As := [.int p1, .int 0, .int 1]) (st := []) my_X12_in ms_X12_in ml_12_118 rfl rfl (Nat.le_of_ble_eq_true rfl) (by decide) t_X12_again_8 hD (fun _ _ e => S_X12_in hρ  e) (fun x3 w2 hD => ?_)
  refine g_if_eq (tgt := 36) h t_X12_again_11 (by decide) hD (fun hD => ?_) (fun hD => ?_)
  · refine g_iconst (v := 0) h t_X12_again_36 (by decide) ?_
    obtain rfl := Option.some.inj hD
    exact hR _ _ t_X12_again_37 (b01_n rfl)
  · refine g_aload_n h 0 t_X12_again_14 rfl ?_
    refine g_getR h 119 53 159 fl_12_103 rfl (by decide) rfl t_X12_again_15 ?_
    refine g_iload_n h 1 t_X12_again_18 rfl ?_
    refine g_zald h 159 rfl (by decide) t_X12_again_19 hD (fun hD => ?_)
    refine g_if_eq (tgt := 36) h t_X12_again_20 (by decide) hD (fun hD => ?_) (fun hD => ?_)
    · refine g_iconst (v := 0) h t_X12_again_36 (by decide) ?_
      obtain rfl := Option.some.inj hD
      exact hR _ _ t_X12_again_37 (b01_n rfl)
    · refine g_aload_n h 0 t_X12_again_23 rfl ?_
      refine g_getR h 119 54 160 fl_12_106 rfl (by decide) rfl t_X12_again_24 ?_
      refine g_iload_n h 1 t_X12_again_27 rfl ?_
      refine g_iald h 160 rfl (by decide) t_X12_again_28 hD (fun hD => ?_)
      refine g_aload_n h 0 t_X12_again_29 rfl ?_
      refine g_getI h 119 51 fl_12_170 rfl (by decide) rfl t_X12_again_30 ?_
      refine g_icmp_eq (tgt := 38) h t_X12_again_33 (by decide) hD (fun hD => ?_) (fun hD => ?_)
      · refine g_iconst (v := 0) h t_X12_again_38 (by decide) ?_
        refine g_istore_n (L' := [(2, .int 0), (0, .ref (ρ 119)), (1, .int p1)]) h hn t_X12_again_39 rfl (by decide) rfl ?_
        refine g_loc (L' := [(0, .ref (ρ 119)), (1, .int p1), (2, .int 0)]) h [1, 2, 0] rfl ?_
        refine Q_X12_again_40 hρ hn h hR  ?_ _ _ _ hD
        · intro w11 hD
          unfold J_X12_again_x69_1 at hD
          refine g_aload_n h 0 t_X12_again_69 rfl ?_
          refine g_iconst (v := 0) h t_X12_again_70 (by decide) ?_
          refine g_putI h 119 23 fl_12_167 fp_12_23 rfl (by decide) rfl t_X12_again_71 hD (fun w12 hD => ?_)
          refine g_iconst (v := 1) h t_X12_again_74 (by decide) ?_
          obtain rfl := Option.some.inj hD
          exact hR _ _ t_X12_again_75 (b01_n rfl)
      · refine g_iconst (v := 0) h t_X12_again_36 (by decide) ?_
        obtain rfl := Option.some.inj hD
        exact hR _ _ t_X12_again_37 (b01_n rfl)
def D_X12_count (p1 : Int32) : Wd → Option (Int32 × Wd) := fun w =>
  bd (wI w 119 7 0) fun w1 => if p1 = 0 then (some (w1.1 119 1, w1)) else (if p1 = 1 then (if ib 14 16 then (some (w1.1 120 (14 : Int32).toNatClampNeg, w1)) else none) else (if p1 = 2 then (if ib 15 16 then (some (w1.1 120 (15 : Int32).toNatClampNeg, w1)) else none) else (if p1 = 3 then (bc (D_X12_pits w1) fun x3 w2 => bc (D_X12_seeds 120 0 x3 w2) fun x5 w4 => some (x5, w4)) else (if p1 = 4 then (bc (D_X12_isOver 120 w1) fun x7 w6 => if x7 = 0 then (some (0, w6)) else (some (1, w6))) else (if p1 = 5 then (some (w1.1 119 2, w1)) else (if p1 = 6 then (some (w1.1 119 43, w1)) else (if p1 = 7 then (some (w1.1 119 46, w1)) else (if p1 = 8 then (some (w1.1 119 23, w1)) else (if p1 = 9 then (some (w1.1 119 6, w1)) else (if p1 = 10 then (some (w1.1 119 4, w1)) else (some ((-1), w1))))))))))))
set_option maxRecDepth 20000 in
theorem S_X12_count {l0 : Launch} {ρ : Nat → Nat} {cs : Nat → ClassId} {G : va_G} (hρ : injN ρ) {p1 : Int32} {w : Wd} {rr : (Int32 × Wd)} (hD : D_X12_count p1 w = some rr) : CtI l0 ρ cs G y_X12_count prog_14_method_107_code 2 .int 2 [.ref (ρ 119), .int p1] w rr.1 rr.2 := by
  refine ctI_of hρ (by decide) (Nat.le_of_ble_eq_true rfl) (fun X hn h hR => ?_)
  unfold D_X12_count at hD
  show gG ρ cs G X 0 [(0, .ref (ρ 119)), (1, .int p1)] [] w
  refine g_aload_n h 0 t_X12_count_0 rfl ?_
  refine g_iconst (v := 0) h t_X12_count_1 (by decide) ?_
  refine g_putI h 119 7 fl_12_109 fp_12_7 rfl (by decide) rfl t_X12_count_2 hD (fun w1 hD => ?_)
  refine g_iload_n h 1 t_X12_count_5 rfl ?_
  refine g_cas hD (fun hc0 hD => ?_) (fun hc0 hD => ?_)
  · refine g_tswI (off := 58) (tgt := 64) h t_X12_count_6 (by rw [hc0]; decide) (by rw [hc0]; decide) (by rw [hc0]; rfl) (by decide) ?_
    refine g_aload_n h 0 t_X12_count_64 rfl ?_
    refine g_getI h 119 1 fl_12_13 rfl (by decide) rfl t_X12_count_65 ?_
    obtain rfl := Option.some.inj hD
    exact hR _ _ t_X12_count_68 rfl
  · refine g_cas hD (fun hc1 hD => ?_) (fun hc1 hD => ?_)
    · refine g_tswI (off := 63) (tgt := 69) h t_X12_count_6 (by rw [hc1]; decide) (by rw [hc1]; decide) (by rw [hc1]; rfl) (by decide) ?_
      refine g_aload_n h 0 t_X12_count_69 rfl ?_
      refine g_getR h 119 0 120 fl_12_9 rfl (by decide) rfl t_X12_count_70 ?_
      refine g_bipush (v := 14) h t_X12_count_73 (by decide) ?_
      refine g_iald h 120 rfl (by decide) t_X12_count_75 hD (fun hD => ?_)
      obtain rfl := Option.some.inj hD
      exact hR _ _ t_X12_count_76 rfl
    · refine g_cas hD (fun hc2 hD => ?_) (fun hc2 hD => ?_)
      · refine g_tswI (off := 71) (tgt := 77) h t_X12_count_6 (by rw [hc2]; decide) (by rw [hc2]; decide) (by rw [hc2]; rfl) (by decide) ?_
        refine g_aload_n h 0 t_X12_count_77 rfl ?_
        refine g_getR h 119 0 120 fl_12_9 rfl (by decide) rfl t_X12_count_78 ?_
        refine g_bipush (v := 15) h t_X12_count_81 (by decide) ?_
        refine g_iald h 120 rfl (by decide) t_X12_count_83 hD (fun hD => ?_)
        obtain rfl := Option.some.inj hD
        exact hR _ _ t_X12_count_84 rfl
      · refine g_cas hD (fun hc3 hD => ?_) (fun hc3 hD => ?_)
        · refine g_tswI (off := 79) (tgt := 85) h t_X12_count_6 (by rw [hc3]; decide) (by rw [hc3]; decide) (by rw [hc3]; rfl) (by decide) ?_
          refine g_aload_n h 0 t_X12_count_85 rfl ?_
          refine g_aload_n h 0 t_X12_count_86 rfl ?_
          refine g_getR h 119 0 120 fl_12_9 rfl (by decide) rfl t_X12_count_87 ?_
          refine g_iconst (v := 0) h t_X12_count_90 (by decide) ?_
          refine g_aload_n h 0 t_X12_count_91 rfl ?_
          refine g_callVI h 119 (As := []) (st := [.int 0, .ref (ρ 120), .ref (ρ 119)]) my_X12_pits mi_X12_pits ml_12_214 rfl (by decide) rfl rfl rfl (Nat.le_of_ble_eq_true rfl) (by decide) t_X12_count_92 hD (fun _ _ e => S_X12_pits hρ  e) (fun x3 w2 hD => ?_)
          refine g_callVI h 119 (As := [.ref (ρ 120), .int 0, .int x3]) (st := []) my_X12_seeds mi_X12_seeds ml_12_229 rfl (by decide) rfl rfl rfl (Nat.le_of_ble_eq_true rfl) (by decide) t_X12_count_95 hD (fun _ _ e => S_X12_seeds hρ (by decide) e) (fun x5 w4 hD => ?_)
          obtain rfl := Option.some.inj hD
          exact hR _ _ t_X12_count_98 rfl
        · refine g_cas hD (fun hc4 hD => ?_) (fun hc4 hD => ?_)
          · refine g_tswI (off := 93) (tgt := 99) h t_X12_count_6 (by rw [hc4]; decide) (by rw [hc4]; decide) (by rw [hc4]; rfl) (by decide) ?_
            refine g_aload_n h 0 t_X12_count_99 rfl ?_
            refine g_aload_n h 0 t_X12_count_100 rfl ?_
            refine g_getR h 119 0 120 fl_12_9 rfl (by decide) rfl t_X12_count_101 ?_
            refine g_callVI h 119 (As := [.ref (ρ 120)]) (st := []) my_X12_isOver mi_X12_isOver ml_12_282 rfl (by decide) rfl rfl rfl (Nat.le_of_ble_eq_true rfl) (by decide) t_X12_count_104 hD (fun _ _ e => S_X12_isOver hρ (by decide) e) (fun x7 w6 hD => ?_)
            refine g_if_eq (tgt := 114) h t_X12_count_107 (by decide) hD (fun hD => ?_) (fun hD => ?_)
            · refine g_iconst (v := 0) h t_X12_count_114 (by decide) ?_
              obtain rfl := Option.some.inj hD
              exact hR _ _ t_X12_count_115 rfl
            · refine g_iconst (v := 1) h t_X12_count_110 (by decide) ?_
              refine g_goto (tgt := 115) h t_X12_count_111 (by decide) ?_
              obtain rfl := Option.some.inj hD
              exact hR _ _ t_X12_count_115 rfl
          · refine g_cas hD (fun hc5 hD => ?_) (fun hc5 hD => ?_)
            · refine g_tswI (off := 110) (tgt := 116) h t_X12_count_6 (by rw [hc5]; decide) (by rw [hc5]; decide) (by rw [hc5]; rfl) (by decide) ?_
              refine g_aload_n h 0 t_X12_count_116 rfl ?_
              refine g_getI h 119 2 fl_12_17 rfl (by decide) rfl t_X12_count_117 ?_
              obtain rfl := Option.some.inj hD
              exact hR _ _ t_X12_count_120 rfl
            · refine g_cas hD (fun hc6 hD => ?_) (fun hc6 hD => ?_)
              · refine g_tswI (off := 115) (tgt := 121) h t_X12_count_6 (by rw [hc6]; decide) (by rw [hc6]; decide) (by rw [hc6]; rfl) (by decide) ?_
                refine g_aload_n h 0 t_X12_count_121 rfl ?_
                refine g_getI h 119 43 fl_12_354 rfl (by decide) rfl t_X12_count_122 ?_
                obtain rfl := Option.some.inj hD
                exact hR _ _ t_X12_count_125 rfl
              · refine g_cas hD (fun hc7 hD => ?_) (fun hc7 hD => ?_)
                · refine g_tswI (off := 120) (tgt := 126) h t_X12_count_6 (by rw [hc7]; decide) (by rw [hc7]; decide) (by rw [hc7]; rfl) (by decide) ?_
                  refine g_aload_n h 0 t_X12_count_126 rfl ?_
                  refine g_getI h 119 46 fl_12_366 rfl (by decide) rfl t_X12_count_127 ?_
                  obtain rfl := Option.some.inj hD
                  exact hR _ _ t_X12_count_130 rfl
                · refine g_cas hD (fun hc8 hD => ?_) (fun hc8 hD => ?_)
                  · refine g_tswI (off := 125) (tgt := 131) h t_X12_count_6 (by rw [hc8]; decide) (by rw [hc8]; decide) (by rw [hc8]; rfl) (by decide) ?_
                    refine g_aload_n h 0 t_X12_count_131 rfl ?_
                    refine g_getI h 119 23 fl_12_167 rfl (by decide) rfl t_X12_count_132 ?_
                    obtain rfl := Option.some.inj hD
                    exact hR _ _ t_X12_count_135 rfl
                  · refine g_cas hD (fun hc9 hD => ?_) (fun hc9 hD => ?_)
                    · refine g_tswI (off := 130) (tgt := 136) h t_X12_count_6 (by rw [hc9]; decide) (by rw [hc9]; decide) (by rw [hc9]; rfl) (by decide) ?_
                      refine g_aload_n h 0 t_X12_count_136 rfl ?_
                      refine g_getI h 119 6 fl_12_112 rfl (by decide) rfl t_X12_count_137 ?_
                      obtain rfl := Option.some.inj hD
                      exact hR _ _ t_X12_count_140 rfl
                    · refine g_cas hD (fun hc10 hD => ?_) (fun hc10 hD => ?_)
                      · refine g_tswI (off := 135) (tgt := 141) h t_X12_count_6 (by rw [hc10]; decide) (by rw [hc10]; decide) (by rw [hc10]; rfl) (by decide) ?_
                        refine g_aload_n h 0 t_X12_count_141 rfl ?_
                        refine g_getI h 119 4 fl_12_115 rfl (by decide) rfl t_X12_count_142 ?_
                        obtain rfl := Option.some.inj hD
                        exact hR _ _ t_X12_count_145 rfl
                      · refine g_tswO (tgt := 146) h t_X12_count_6 (by have n0 := lv_neT hc0 (a := 0) (by decide); have n1 := lv_neT hc1 (a := 1) (by decide); have n2 := lv_neT hc2 (a := 2) (by decide); have n3 := lv_neT hc3 (a := 3) (by decide); have n4 := lv_neT hc4 (a := 4) (by decide); have n5 := lv_neT hc5 (a := 5) (by decide); have n6 := lv_neT hc6 (a := 6) (by decide); have n7 := lv_neT hc7 (a := 7) (by decide); have n8 := lv_neT hc8 (a := 8) (by decide); have n9 := lv_neT hc9 (a := 9) (by decide); have n10 := lv_neT hc10 (a := 10) (by decide); omega) (by decide) ?_
                        refine g_iconst (v := (-1)) h t_X12_count_146 (by decide) ?_
                        obtain rfl := Option.some.inj hD
                        exact hR _ _ t_X12_count_147 rfl
def D_X12_row (p1 : Int32) : Wd → Option (Int64 × Wd) := fun w =>
  bd (wI w 119 7 0) fun w1 => bc (D_X12_in p1 0 ((w1.1 119 6) - 1) w1) fun x3 w2 => if x3 = 0 then (bc (D_X12_lost w2) fun x5 w4 => some (x5.toInt64, w4)) else (if ib p1 24 then (some (w2.2.1 122 p1.toNatClampNeg, w2)) else none)
set_option maxRecDepth 20000 in
theorem S_X12_row {l0 : Launch} {ρ : Nat → Nat} {cs : Nat → ClassId} {G : va_G} (hρ : injN ρ) {p1 : Int32} {w : Wd} {rr : (Int64 × Wd)} (hD : D_X12_row p1 w = some rr) : CtJ l0 ρ cs G y_X12_row prog_14_method_108_code 2 1 [.ref (ρ 119), .int p1] w rr.1 rr.2 := by
  refine ctJ_of hρ (by decide) (Nat.le_of_ble_eq_true rfl) (fun X hn h hR => ?_)
  unfold D_X12_row at hD
  show gG ρ cs G X 0 [(0, .ref (ρ 119)), (1, .int p1)] [] w
  refine g_aload_n h 0 t_X12_row_0 rfl ?_
  refine g_iconst (v := 0) h t_X12_row_1 (by decide) ?_
  refine g_putI h 119 7 fl_12_109 fp_12_7 rfl (by decide) rfl t_X12_row_2 hD (fun w1 hD => ?_)
  refine g_iload_n h 1 t_X12_row_5 rfl ?_
  refine g_iconst (v := 0) h t_X12_row_6 (by decide) ?_
  refine g_aload_n h 0 t_X12_row_7 rfl ?_
  refine g_getI h 119 6 fl_12_112 rfl (by decide) rfl t_X12_row_8 ?_
  refine g_iconst (v := 1) h t_X12_row_11 (by decide) ?_
  refine g_isub h t_X12_row_12 ?_
  refine g_callSI h (As := [.int p1, .int 0, .int ((w1.1 119 6) - 1)]) (st := []) my_X12_in ms_X12_in ml_12_118 rfl rfl (Nat.le_of_ble_eq_true rfl) (by decide) t_X12_row_13 hD (fun _ _ e => S_X12_in hρ  e) (fun x3 w2 hD => ?_)
  refine g_if_eq (tgt := 28) h t_X12_row_16 (by decide) hD (fun hD => ?_) (fun hD => ?_)
  · refine g_aload_n h 0 t_X12_row_28 rfl ?_
    refine g_callVI h 119 (As := []) (st := []) my_X12_lost mi_X12_lost ml_12_217 rfl (by decide) rfl rfl rfl (Nat.le_of_ble_eq_true rfl) (by decide) t_X12_row_29 hD (fun _ _ e => S_X12_lost hρ  e) (fun x5 w4 hD => ?_)
    refine g_i2l h t_X12_row_32 ?_
    obtain rfl := Option.some.inj hD
    exact hR _ _ t_X12_row_33
  · refine g_aload_n h 0 t_X12_row_19 rfl ?_
    refine g_getR h 119 5 122 fl_12_24 rfl (by decide) rfl t_X12_row_20 ?_
    refine g_iload_n h 1 t_X12_row_23 rfl ?_
    refine g_lald h 122 rfl (by decide) t_X12_row_24 hD (fun hD => ?_)
    refine g_goto (tgt := 33) h t_X12_row_25 (by decide) ?_
    obtain rfl := Option.some.inj hD
    exact hR _ _ t_X12_row_33
