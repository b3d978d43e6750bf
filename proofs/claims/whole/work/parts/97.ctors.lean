/-! the small constructors -/
theorem dfl_0 : ∀ j, j < 3 → defaultValue (vty (kF0 j).2.2.1) = vp_V (dfl 0) j := by decide +kernel
theorem dfl_1 : ∀ j, j < 10 → defaultValue (vty (kF1 j).2.2.1) = vp_V (dfl 1) j := by decide +kernel
theorem dfl_2 : ∀ j, j < 4 → defaultValue (vty (kF2 j).2.2.1) = vp_V (dfl 2) j := by decide +kernel
theorem dfl_3 : ∀ j, j < 2 → defaultValue (vty (kF3 j).2.2.1) = vp_V (dfl 3) j := by decide +kernel
theorem dfl_4 : ∀ j, j < 3 → defaultValue (vty (kF4 j).2.2.1) = vp_V (dfl 4) j := by decide +kernel
theorem dfl_5 : ∀ j, j < 5 → defaultValue (vty (kF5 j).2.2.1) = vp_V (dfl 5) j := by decide +kernel
theorem dfl_6 : ∀ j, j < 3 → defaultValue (vty (kF6 j).2.2.1) = vp_V (dfl 6) j := by decide +kernel
theorem dfl_7 : ∀ j, j < 7 → defaultValue (vty (kF7 j).2.2.1) = vp_V (dfl 7) j := by decide +kernel
theorem dfl_8 : ∀ j, j < 2 → defaultValue (vty (kF8 j).2.2.1) = vp_V (dfl 8) j := by decide +kernel
theorem dfl_9 : ∀ j, j < 2 → defaultValue (vty (kF9 j).2.2.1) = vp_V (dfl 9) j := by decide +kernel
theorem dfl_10 : ∀ j, j < 9 → defaultValue (vty (kF10 j).2.2.1) = vp_V (dfl 10) j := by decide +kernel
theorem dfl_11 : ∀ j, j < 19 → defaultValue (vty (kF11 j).2.2.1) = vp_V (dfl 11) j := by decide +kernel
theorem dfl_12 : ∀ j, j < 55 → defaultValue (vty (kF12 j).2.2.1) = vp_V (dfl 12) j := by decide +kernel
def y_X5_init : MethodName := ⟨"SowingBoards$Position", "<init>", "()V"⟩
theorem t_X5_init_0 : decode prog_7_method_1_code 0 = .ok (.aload_n 0, 1) := by decide +kernel
theorem t_X5_init_1 : decode prog_7_method_1_code 1 = .ok (.invokespecial 3, 3) := by decide +kernel
theorem t_X5_init_4 : decode prog_7_method_1_code 4 = .ok (.aload_n 0, 1) := by decide +kernel
theorem t_X5_init_5 : decode prog_7_method_1_code 5 = .ok (.bipush 12, 2) := by decide +kernel
theorem t_X5_init_7 : decode prog_7_method_1_code 7 = .ok (.newarray .int, 2) := by decide +kernel
theorem t_X5_init_9 : decode prog_7_method_1_code 9 = .ok (.putfield 9, 3) := by decide +kernel
theorem t_X5_init_12 : decode prog_7_method_1_code 12 = .ok (.aload_n 0, 1) := by decide +kernel
theorem t_X5_init_13 : decode prog_7_method_1_code 13 = .ok (.iconst 2, 1) := by decide +kernel
theorem t_X5_init_14 : decode prog_7_method_1_code 14 = .ok (.newarray .int, 2) := by decide +kernel
theorem t_X5_init_16 : decode prog_7_method_1_code 16 = .ok (.putfield 15, 3) := by decide +kernel
theorem t_X5_init_19 : decode prog_7_method_1_code 19 = .ok (.aload_n 0, 1) := by decide +kernel
theorem t_X5_init_20 : decode prog_7_method_1_code 20 = .ok (.iconst 3, 1) := by decide +kernel
theorem t_X5_init_21 : decode prog_7_method_1_code 21 = .ok (.putfield 18, 3) := by decide +kernel
theorem t_X5_init_24 : decode prog_7_method_1_code 24 = .ok (.return_, 1) := by decide +kernel
theorem my_X5_init : MY y_X5_init prog_7_method_1_code 1 none 0 := ⟨vtb_at 178 (by decide +kernel) rfl, vtb_at 140 (by decide +kernel) rfl, ⟨by decide, by decide, by decide +kernel⟩, by decide⟩
abbrev res_X5_init (cs : Nat → ClassId) (a : Nat) (w1 : va_W) : Prop := ∃ q1 q2, w1 = [(a, .inr (5, [.ref q1, .ref q2, .int 3, .int 0, .int 0])), (q2, .inl (cs 0, 2, .inl (fun _ => 0))), (q1, .inl (cs 0, 12, .inl (fun _ => 0)))]
set_option maxRecDepth 20000 in
set_option maxHeartbeats 20000000 in
theorem c_X5_init {l0 : Launch} {cs : Nat → ClassId} {G : va_G} : CtN l0 cs G y_X5_init prog_7_method_1_code 1 5 [] 0 2 14 (res_X5_init cs) := by
  refine ctN_of (by decide) rfl (fun _ => (Nat.le_of_ble_eq_true rfl)) (fun X a hn h fin => ?_)
  show nG G X 0 0 0 [(0, .ref a)] [] [(a, .inr (5, dfl 5))]
  refine n_aload h 0 t_X5_init_0 rfl ?_
  refine n_objInit h (vtb_at 179 (by decide +kernel) rfl) (vtb_at 172 (by decide +kernel) rfl) (vtb_at 173 (by decide +kernel) rfl) (Nat.zero_le _) t_X5_init_1 ?_
  refine n_aload h 0 t_X5_init_4 rfl ?_
  refine n_bipush (v := 12) h t_X5_init_5 (by decide) ?_
  refine n_newa (kc := 0) (ks := 0) h 0 (ty := .int) (N' := 12) (a0 := (12, .inl (fun _ => 0))) rfl rfl (fun _ _ z => z) (vtb_at 213 (by decide +kernel) rfl) (fun _ => rfl) (by decide) rfl (Nat.le_of_ble_eq_true rfl) (Nat.le_of_ble_eq_true rfl) (Nat.le_of_ble_eq_true rfl) t_X5_init_7 (fun q1 => ?_)
  refine n_putF (ty := (.array .int)) (fs' := [.ref q1, .null, .int 0, .int 0, .int 0]) h 0 (ci := 5) rfl (by decide) (vtb_at 180 (by decide +kernel) rfl) rfl rfl (by decide) (by decide) (by decide +kernel) rfl rfl (Nat.le_of_ble_eq_true rfl) rfl t_X5_init_9 ?_
  refine n_aload h 0 t_X5_init_12 rfl ?_
  refine n_iconst (v := 2) h t_X5_init_13 (by decide) ?_
  refine n_newa (kc := 1) (ks := 12) h 0 (ty := .int) (N' := 2) (a0 := (2, .inl (fun _ => 0))) rfl rfl (fun _ _ z => z) (vtb_at 213 (by decide +kernel) rfl) (fun _ => rfl) (by decide) rfl (Nat.le_of_ble_eq_true rfl) (Nat.le_of_ble_eq_true rfl) (Nat.le_of_ble_eq_true rfl) t_X5_init_14 (fun q2 => ?_)
  refine n_putF (ty := (.array .int)) (fs' := [.ref q1, .ref q2, .int 0, .int 0, .int 0]) h 1 (ci := 5) rfl (by decide) (vtb_at 184 (by decide +kernel) rfl) rfl rfl (by decide) (by decide) (by decide +kernel) rfl rfl (Nat.le_of_ble_eq_true rfl) rfl t_X5_init_16 ?_
  refine n_aload h 0 t_X5_init_19 rfl ?_
  refine n_iconst (v := 3) h t_X5_init_20 (by decide) ?_
  refine n_putN (ty := .int) (fs' := [.ref q1, .ref q2, .int 3, .int 0, .int 0]) h 2 (ci := 5) rfl (by decide) (vtb_at 189 (by decide +kernel) rfl) rfl (by decide +kernel) rfl rfl (Nat.le_of_ble_eq_true rfl) rfl t_X5_init_21 ?_
  exact fin _ 2 14 _ _ t_X5_init_24 (Nat.le_of_ble_eq_true rfl) (Nat.le_of_ble_eq_true rfl) ⟨q1, q2, rfl⟩
def y_X1_init : MethodName := ⟨"SowingBoards$Move", "<init>", "()V"⟩
theorem t_X1_init_0 : decode prog_3_method_1_code 0 = .ok (.aload_n 0, 1) := by decide +kernel
theorem t_X1_init_1 : decode prog_3_method_1_code 1 = .ok (.invokespecial 3, 3) := by decide +kernel
theorem t_X1_init_4 : decode prog_3_method_1_code 4 = .ok (.return_, 1) := by decide +kernel
theorem my_X1_init : MY y_X1_init prog_3_method_1_code 1 none 0 := ⟨vtb_at 270 (by decide +kernel) rfl, vtb_at 144 (by decide +kernel) rfl, ⟨by decide, by decide, by decide +kernel⟩, by decide⟩
abbrev res_X1_init (cs : Nat → ClassId) (a : Nat) (w1 : va_W) : Prop := w1 = [(a, .inr (1, [.int 0, .int 0, .int 0, .int 0, .int 0, .int 0, .int 0, .int 0, .int 0, .int 0]))]
set_option maxRecDepth 20000 in
set_option maxHeartbeats 20000000 in
theorem c_X1_init {l0 : Launch} {cs : Nat → ClassId} {G : va_G} : CtN l0 cs G y_X1_init prog_3_method_1_code 1 1 [] 0 0 0 (res_X1_init cs) := by
  refine ctN_of (by decide) rfl (fun _ => (Nat.le_of_ble_eq_true rfl)) (fun X a hn h fin => ?_)
  show nG G X 0 0 0 [(0, .ref a)] [] [(a, .inr (1, dfl 1))]
  refine n_aload h 0 t_X1_init_0 rfl ?_
  refine n_objInit h (vtb_at 271 (by decide +kernel) rfl) (vtb_at 172 (by decide +kernel) rfl) (vtb_at 173 (by decide +kernel) rfl) (Nat.zero_le _) t_X1_init_1 ?_
  exact fin _ 0 0 _ _ t_X1_init_4 (Nat.le_of_ble_eq_true rfl) (Nat.le_of_ble_eq_true rfl) rfl
def y_X3_init : MethodName := ⟨"SowingBoards$Numbers", "<init>", "()V"⟩
theorem t_X3_init_0 : decode prog_5_method_1_code 0 = .ok (.aload_n 0, 1) := by decide +kernel
theorem t_X3_init_1 : decode prog_5_method_1_code 1 = .ok (.invokespecial 3, 3) := by decide +kernel
theorem t_X3_init_4 : decode prog_5_method_1_code 4 = .ok (.aload_n 0, 1) := by decide +kernel
theorem t_X3_init_5 : decode prog_5_method_1_code 5 = .ok (.bipush 20, 2) := by decide +kernel
theorem t_X3_init_7 : decode prog_5_method_1_code 7 = .ok (.newarray .long, 2) := by decide +kernel
theorem t_X3_init_9 : decode prog_5_method_1_code 9 = .ok (.putfield 9, 3) := by decide +kernel
theorem t_X3_init_12 : decode prog_5_method_1_code 12 = .ok (.return_, 1) := by decide +kernel
theorem my_X3_init : MY y_X3_init prog_5_method_1_code 1 none 0 := ⟨vtb_at 254 (by decide +kernel) rfl, vtb_at 143 (by decide +kernel) rfl, ⟨by decide, by decide, by decide +kernel⟩, by decide⟩
abbrev res_X3_init (cs : Nat → ClassId) (a : Nat) (w1 : va_W) : Prop := ∃ q1, w1 = [(a, .inr (3, [.ref q1, .int 0])), (q1, .inl (cs 3, 20, .inr (.inl (fun _ => 0))))]
set_option maxRecDepth 20000 in
set_option maxHeartbeats 20000000 in
theorem c_X3_init {l0 : Launch} {cs : Nat → ClassId} {G : va_G} : CtN l0 cs G y_X3_init prog_5_method_1_code 1 3 [] 0 1 20 (res_X3_init cs) := by
  refine ctN_of (by decide) rfl (fun _ => (Nat.le_of_ble_eq_true rfl)) (fun X a hn h fin => ?_)
  show nG G X 0 0 0 [(0, .ref a)] [] [(a, .inr (3, dfl 3))]
  refine n_aload h 0 t_X3_init_0 rfl ?_
  refine n_objInit h (vtb_at 255 (by decide +kernel) rfl) (vtb_at 172 (by decide +kernel) rfl) (vtb_at 173 (by decide +kernel) rfl) (Nat.zero_le _) t_X3_init_1 ?_
  refine n_aload h 0 t_X3_init_4 rfl ?_
  refine n_bipush (v := 20) h t_X3_init_5 (by decide) ?_
  refine n_newa (kc := 0) (ks := 0) h 3 (ty := .long) (N' := 20) (a0 := (20, .inr (.inl (fun _ => 0)))) rfl rfl (fun _ _ z => z) (vtb_at 265 (by decide +kernel) rfl) (fun _ => rfl) (by decide) rfl (Nat.le_of_ble_eq_true rfl) (Nat.le_of_ble_eq_true rfl) (Nat.le_of_ble_eq_true rfl) t_X3_init_7 (fun q1 => ?_)
  refine n_putF (ty := (.array .long)) (fs' := [.ref q1, .int 0]) h 0 (ci := 3) rfl (by decide) (vtb_at 256 (by decide +kernel) rfl) rfl rfl (by decide) (by decide) (by decide +kernel) rfl rfl (Nat.le_of_ble_eq_true rfl) rfl t_X3_init_9 ?_
  exact fin _ 1 20 _ _ t_X3_init_12 (Nat.le_of_ble_eq_true rfl) (Nat.le_of_ble_eq_true rfl) ⟨q1, rfl⟩
def y_X6_init : MethodName := ⟨"SowingBoards$Rule", "<init>", "()V"⟩
theorem t_X6_init_0 : decode prog_8_method_1_code 0 = .ok (.aload_n 0, 1) := by decide +kernel
theorem t_X6_init_1 : decode prog_8_method_1_code 1 = .ok (.invokespecial 1, 3) := by decide +kernel
theorem t_X6_init_4 : decode prog_8_method_1_code 4 = .ok (.aload_n 0, 1) := by decide +kernel
theorem t_X6_init_5 : decode prog_8_method_1_code 5 = .ok (.bipush 40, 2) := by decide +kernel
theorem t_X6_init_7 : decode prog_8_method_1_code 7 = .ok (.newarray .int, 2) := by decide +kernel
theorem t_X6_init_9 : decode prog_8_method_1_code 9 = .ok (.putfield 9, 3) := by decide +kernel
theorem t_X6_init_12 : decode prog_8_method_1_code 12 = .ok (.aload_n 0, 1) := by decide +kernel
theorem t_X6_init_13 : decode prog_8_method_1_code 13 = .ok (.bipush 40, 2) := by decide +kernel
theorem t_X6_init_15 : decode prog_8_method_1_code 15 = .ok (.newarray .int, 2) := by decide +kernel
theorem t_X6_init_17 : decode prog_8_method_1_code 17 = .ok (.putfield 13, 3) := by decide +kernel
theorem t_X6_init_20 : decode prog_8_method_1_code 20 = .ok (.return_, 1) := by decide +kernel
theorem my_X6_init : MY y_X6_init prog_8_method_1_code 1 none 0 := ⟨vtb_at 400 (by decide +kernel) rfl, vtb_at 149 (by decide +kernel) rfl, ⟨by decide, by decide, by decide +kernel⟩, by decide⟩
abbrev res_X6_init (cs : Nat → ClassId) (a : Nat) (w1 : va_W) : Prop := ∃ q1 q2, w1 = [(a, .inr (6, [.ref q1, .ref q2, .int 0])), (q2, .inl (cs 0, 40, .inl (fun _ => 0))), (q1, .inl (cs 0, 40, .inl (fun _ => 0)))]
set_option maxRecDepth 20000 in
set_option maxHeartbeats 20000000 in
theorem c_X6_init {l0 : Launch} {cs : Nat → ClassId} {G : va_G} : CtN l0 cs G y_X6_init prog_8_method_1_code 1 6 [] 0 2 80 (res_X6_init cs) := by
  refine ctN_of (by decide) rfl (fun _ => (Nat.le_of_ble_eq_true rfl)) (fun X a hn h fin => ?_)
  show nG G X 0 0 0 [(0, .ref a)] [] [(a, .inr (6, dfl 6))]
  refine n_aload h 0 t_X6_init_0 rfl ?_
  refine n_objInit h (vtb_at 401 (by decide +kernel) rfl) (vtb_at 172 (by decide +kernel) rfl) (vtb_at 173 (by decide +kernel) rfl) (Nat.zero_le _) t_X6_init_1 ?_
  refine n_aload h 0 t_X6_init_4 rfl ?_
  refine n_bipush (v := 40) h t_X6_init_5 (by decide) ?_
  refine n_newa (kc := 0) (ks := 0) h 0 (ty := .int) (N' := 40) (a0 := (40, .inl (fun _ => 0))) rfl rfl (fun _ _ z => z) (vtb_at 213 (by decide +kernel) rfl) (fun _ => rfl) (by decide) rfl (Nat.le_of_ble_eq_true rfl) (Nat.le_of_ble_eq_true rfl) (Nat.le_of_ble_eq_true rfl) t_X6_init_7 (fun q1 => ?_)
  refine n_putF (ty := (.array .int)) (fs' := [.ref q1, .null, .int 0]) h 0 (ci := 6) rfl (by decide) (vtb_at 402 (by decide +kernel) rfl) rfl rfl (by decide) (by decide) (by decide +kernel) rfl rfl (Nat.le_of_ble_eq_true rfl) rfl t_X6_init_9 ?_
  refine n_aload h 0 t_X6_init_12 rfl ?_
  refine n_bipush (v := 40) h t_X6_init_13 (by decide) ?_
  refine n_newa (kc := 1) (ks := 40) h 0 (ty := .int) (N' := 40) (a0 := (40, .inl (fun _ => 0))) rfl rfl (fun _ _ z => z) (vtb_at 213 (by decide +kernel) rfl) (fun _ => rfl) (by decide) rfl (Nat.le_of_ble_eq_true rfl) (Nat.le_of_ble_eq_true rfl) (Nat.le_of_ble_eq_true rfl) t_X6_init_15 (fun q2 => ?_)
  refine n_putF (ty := (.array .int)) (fs' := [.ref q1, .ref q2, .int 0]) h 1 (ci := 6) rfl (by decide) (vtb_at 403 (by decide +kernel) rfl) rfl rfl (by decide) (by decide) (by decide +kernel) rfl rfl (Nat.le_of_ble_eq_true rfl) rfl t_X6_init_17 ?_
  exact fin _ 2 80 _ _ t_X6_init_20 (Nat.le_of_ble_eq_true rfl) (Nat.le_of_ble_eq_true rfl) ⟨q1, q2, rfl⟩
def y_X8_init : MethodName := ⟨"SowingBoards$Shelf", "<init>", "()V"⟩
theorem t_X8_init_0 : decode prog_10_method_1_code 0 = .ok (.aload_n 0, 1) := by decide +kernel
theorem t_X8_init_1 : decode prog_10_method_1_code 1 = .ok (.invokespecial 3, 3) := by decide +kernel
theorem t_X8_init_4 : decode prog_10_method_1_code 4 = .ok (.aload_n 0, 1) := by decide +kernel
theorem t_X8_init_5 : decode prog_10_method_1_code 5 = .ok (.sipush 3240, 3) := by decide +kernel
theorem t_X8_init_8 : decode prog_10_method_1_code 8 = .ok (.newarray .int, 2) := by decide +kernel
theorem t_X8_init_10 : decode prog_10_method_1_code 10 = .ok (.putfield 11, 3) := by decide +kernel
theorem t_X8_init_13 : decode prog_10_method_1_code 13 = .ok (.return_, 1) := by decide +kernel
theorem my_X8_init : MY y_X8_init prog_10_method_1_code 1 none 0 := ⟨vtb_at 380 (by decide +kernel) rfl, vtb_at 147 (by decide +kernel) rfl, ⟨by decide, by decide, by decide +kernel⟩, by decide⟩
abbrev res_X8_init (cs : Nat → ClassId) (a : Nat) (w1 : va_W) : Prop := ∃ q1, w1 = [(a, .inr (8, [.ref q1, .int 0])), (q1, .inl (cs 0, 3240, .inl (fun _ => 0)))]
set_option maxRecDepth 20000 in
set_option maxHeartbeats 20000000 in
theorem c_X8_init {l0 : Launch} {cs : Nat → ClassId} {G : va_G} : CtN l0 cs G y_X8_init prog_10_method_1_code 1 8 [] 0 1 3240 (res_X8_init cs) := by
  refine ctN_of (by decide) rfl (fun _ => (Nat.le_of_ble_eq_true rfl)) (fun X a hn h fin => ?_)
  show nG G X 0 0 0 [(0, .ref a)] [] [(a, .inr (8, dfl 8))]
  refine n_aload h 0 t_X8_init_0 rfl ?_
  refine n_objInit h (vtb_at 381 (by decide +kernel) rfl) (vtb_at 172 (by decide +kernel) rfl) (vtb_at 173 (by decide +kernel) rfl) (Nat.zero_le _) t_X8_init_1 ?_
  refine n_aload h 0 t_X8_init_4 rfl ?_
  refine n_sipush (v := 3240) h t_X8_init_5 (by decide) ?_
  refine n_newa (kc := 0) (ks := 0) h 0 (ty := .int) (N' := 3240) (a0 := (3240, .inl (fun _ => 0))) rfl rfl (fun _ _ z => z) (vtb_at 213 (by decide +kernel) rfl) (fun _ => rfl) (by decide) rfl (Nat.le_of_ble_eq_true rfl) (Nat.le_of_ble_eq_true rfl) (Nat.le_of_ble_eq_true rfl) t_X8_init_8 (fun q1 => ?_)
  refine n_putF (ty := (.array .int)) (fs' := [.ref q1, .int 0]) h 0 (ci := 8) rfl (by decide) (vtb_at 382 (by decide +kernel) rfl) rfl rfl (by decide) (by decide) (by decide +kernel) rfl rfl (Nat.le_of_ble_eq_true rfl) rfl t_X8_init_10 ?_
  exact fin _ 1 3240 _ _ t_X8_init_13 (Nat.le_of_ble_eq_true rfl) (Nat.le_of_ble_eq_true rfl) ⟨q1, rfl⟩
def y_X9_init : MethodName := ⟨"SowingBoards$Signs", "<init>", "()V"⟩
theorem t_X9_init_0 : decode prog_11_method_1_code 0 = .ok (.aload_n 0, 1) := by decide +kernel
theorem t_X9_init_1 : decode prog_11_method_1_code 1 = .ok (.invokespecial 1, 3) := by decide +kernel
theorem t_X9_init_4 : decode prog_11_method_1_code 4 = .ok (.aload_n 0, 1) := by decide +kernel
theorem t_X9_init_5 : decode prog_11_method_1_code 5 = .ok (.bipush 80, 2) := by decide +kernel
theorem t_X9_init_7 : decode prog_11_method_1_code 7 = .ok (.newarray .int, 2) := by decide +kernel
theorem t_X9_init_9 : decode prog_11_method_1_code 9 = .ok (.putfield 9, 3) := by decide +kernel
theorem t_X9_init_12 : decode prog_11_method_1_code 12 = .ok (.return_, 1) := by decide +kernel
theorem my_X9_init : MY y_X9_init prog_11_method_1_code 1 none 0 := ⟨vtb_at 239 (by decide +kernel) rfl, vtb_at 142 (by decide +kernel) rfl, ⟨by decide, by decide, by decide +kernel⟩, by decide⟩
abbrev res_X9_init (cs : Nat → ClassId) (a : Nat) (w1 : va_W) : Prop := ∃ q1, w1 = [(a, .inr (9, [.ref q1, .int 0])), (q1, .inl (cs 0, 80, .inl (fun _ => 0)))]
set_option maxRecDepth 20000 in
set_option maxHeartbeats 20000000 in
theorem c_X9_init {l0 : Launch} {cs : Nat → ClassId} {G : va_G} : CtN l0 cs G y_X9_init prog_11_method_1_code 1 9 [] 0 1 80 (res_X9_init cs) := by
  refine ctN_of (by decide) rfl (fun _ => (Nat.le_of_ble_eq_true rfl)) (fun X a hn h fin => ?_)
  show nG G X 0 0 0 [(0, .ref a)] [] [(a, .inr (9, dfl 9))]
  refine n_aload h 0 t_X9_init_0 rfl ?_
  refine n_objInit h (vtb_at 240 (by decide +kernel) rfl) (vtb_at 172 (by decide +kernel) rfl) (vtb_at 173 (by decide +kernel) rfl) (Nat.zero_le _) t_X9_init_1 ?_
  refine n_aload h 0 t_X9_init_4 rfl ?_
  refine n_bipush (v := 80) h t_X9_init_5 (by decide) ?_
  refine n_newa (kc := 0) (ks := 0) h 0 (ty := .int) (N' := 80) (a0 := (80, .inl (fun _ => 0))) rfl rfl (fun _ _ z => z) (vtb_at 213 (by decide +kernel) rfl) (fun _ => rfl) (by decide) rfl (Nat.le_of_ble_eq_true rfl) (Nat.le_of_ble_eq_true rfl) (Nat.le_of_ble_eq_true rfl) t_X9_init_7 (fun q1 => ?_)
  refine n_putF (ty := (.array .int)) (fs' := [.ref q1, .int 0]) h 0 (ci := 9) rfl (by decide) (vtb_at 241 (by decide +kernel) rfl) rfl rfl (by decide) (by decide) (by decide +kernel) rfl rfl (Nat.le_of_ble_eq_true rfl) rfl t_X9_init_9 ?_
  exact fin _ 1 80 _ _ t_X9_init_12 (Nat.le_of_ble_eq_true rfl) (Nat.le_of_ble_eq_true rfl) ⟨q1, rfl⟩
def y_X2_init : MethodName := ⟨"SowingBoards$Notes", "<init>", "(I)V"⟩
theorem t_X2_init_0 : decode prog_4_method_1_code 0 = .ok (.aload_n 0, 1) := by decide +kernel
theorem t_X2_init_1 : decode prog_4_method_1_code 1 = .ok (.invokespecial 3, 3) := by decide +kernel
theorem t_X2_init_4 : decode prog_4_method_1_code 4 = .ok (.aload_n 0, 1) := by decide +kernel
theorem t_X2_init_5 : decode prog_4_method_1_code 5 = .ok (.bipush 12, 2) := by decide +kernel
theorem t_X2_init_7 : decode prog_4_method_1_code 7 = .ok (.newarray .int, 2) := by decide +kernel
theorem t_X2_init_9 : decode prog_4_method_1_code 9 = .ok (.putfield 9, 3) := by decide +kernel
theorem t_X2_init_12 : decode prog_4_method_1_code 12 = .ok (.aload_n 0, 1) := by decide +kernel
theorem t_X2_init_13 : decode prog_4_method_1_code 13 = .ok (.bipush 12, 2) := by decide +kernel
theorem t_X2_init_15 : decode prog_4_method_1_code 15 = .ok (.newarray .int, 2) := by decide +kernel
theorem t_X2_init_17 : decode prog_4_method_1_code 17 = .ok (.putfield 15, 3) := by decide +kernel
theorem t_X2_init_20 : decode prog_4_method_1_code 20 = .ok (.aload_n 0, 1) := by decide +kernel
theorem t_X2_init_21 : decode prog_4_method_1_code 21 = .ok (.iload_n 1, 1) := by decide +kernel
theorem t_X2_init_22 : decode prog_4_method_1_code 22 = .ok (.bipush 12, 2) := by decide +kernel
theorem t_X2_init_24 : decode prog_4_method_1_code 24 = .ok (.invokestatic 18, 3) := by decide +kernel
theorem t_X2_init_27 : decode prog_4_method_1_code 27 = .ok (.putfield 24, 3) := by decide +kernel
theorem t_X2_init_30 : decode prog_4_method_1_code 30 = .ok (.return_, 1) := by decide +kernel
theorem my_X2_init : MY y_X2_init prog_4_method_1_code 2 none 1 := ⟨vtb_at 442 (by decide +kernel) rfl, vtb_at 150 (by decide +kernel) rfl, ⟨by decide, by decide, by decide +kernel⟩, by decide⟩
abbrev res_X2_init (cs : Nat → ClassId) (v : Int32) (a : Nat) (w1 : va_W) : Prop := ∃ q1 q2, w1 = [(a, .inr (2, [.ref q1, .ref q2, .int v, .int 0])), (q2, .inl (cs 0, 12, .inl (fun _ => 0))), (q1, .inl (cs 0, 12, .inl (fun _ => 0)))]
set_option maxRecDepth 20000 in
set_option maxHeartbeats 20000000 in
theorem c_X2_init {l0 : Launch} {cs : Nat → ClassId} {G : va_G} {x v : Int32} (hv : (if 12 < x then 12 else x) = v) : CtN l0 cs G y_X2_init prog_4_method_1_code 2 2 [.int x] 0 2 24 (res_X2_init cs v) := by
  refine ctN_of (by decide) rfl (fun _ => (Nat.le_of_ble_eq_true rfl)) (fun X a hn h fin => ?_)
  show nG G X 0 0 0 [(0, .ref a), (1, .int x)] [] [(a, .inr (2, dfl 2))]
  refine n_aload h 0 t_X2_init_0 rfl ?_
  refine n_objInit h (vtb_at 443 (by decide +kernel) rfl) (vtb_at 172 (by decide +kernel) rfl) (vtb_at 173 (by decide +kernel) rfl) (Nat.zero_le _) t_X2_init_1 ?_
  refine n_aload h 0 t_X2_init_4 rfl ?_
  refine n_bipush (v := 12) h t_X2_init_5 (by decide) ?_
  refine n_newa (kc := 0) (ks := 0) h 0 (ty := .int) (N' := 12) (a0 := (12, .inl (fun _ => 0))) rfl rfl (fun _ _ z => z) (vtb_at 213 (by decide +kernel) rfl) (fun _ => rfl) (by decide) rfl (Nat.le_of_ble_eq_true rfl) (Nat.le_of_ble_eq_true rfl) (Nat.le_of_ble_eq_true rfl) t_X2_init_7 (fun q1 => ?_)
  refine n_putF (ty := (.array .int)) (fs' := [.ref q1, .null, .int 0, .int 0]) h 0 (ci := 2) rfl (by decide) (vtb_at 447 (by decide +kernel) rfl) rfl rfl (by decide) (by decide) (by decide +kernel) rfl rfl (Nat.le_of_ble_eq_true rfl) rfl t_X2_init_9 ?_
  refine n_aload h 0 t_X2_init_12 rfl ?_
  refine n_bipush (v := 12) h t_X2_init_13 (by decide) ?_
  refine n_newa (kc := 1) (ks := 12) h 0 (ty := .int) (N' := 12) (a0 := (12, .inl (fun _ => 0))) rfl rfl (fun _ _ z => z) (vtb_at 213 (by decide +kernel) rfl) (fun _ => rfl) (by decide) rfl (Nat.le_of_ble_eq_true rfl) (Nat.le_of_ble_eq_true rfl) (Nat.le_of_ble_eq_true rfl) t_X2_init_15 (fun q2 => ?_)
  refine n_putF (ty := (.array .int)) (fs' := [.ref q1, .ref q2, .int 0, .int 0]) h 1 (ci := 2) rfl (by decide) (vtb_at 449 (by decide +kernel) rfl) rfl rfl (by decide) (by decide) (by decide +kernel) rfl rfl (Nat.le_of_ble_eq_true rfl) rfl t_X2_init_17 ?_
  refine n_aload h 0 t_X2_init_20 rfl ?_
  refine n_iload h 1 t_X2_init_21 rfl ?_
  refine n_bipush (v := 12) h t_X2_init_22 (by decide) ?_
  refine n_min (v := v) h (vtb_at 444 (by decide +kernel) rfl) (vtb_at 445 (by decide +kernel) rfl) (vtb_at 151 (by decide +kernel) rfl) (vtb_at 446 (by decide +kernel) rfl) (Nat.le_of_ble_eq_true rfl) (Nat.le_of_ble_eq_true rfl) (Nat.le_of_ble_eq_true rfl) t_X2_init_24 hv ?_
  refine n_putF (ty := .int) (fs' := [.ref q1, .ref q2, .int v, .int 0]) h 2 (ci := 2) rfl (by decide) (vtb_at 451 (by decide +kernel) rfl) rfl rfl (by decide) (by decide) (by decide +kernel) rfl rfl (Nat.le_of_ble_eq_true rfl) rfl t_X2_init_27 ?_
  exact fin _ 2 24 _ _ t_X2_init_30 (Nat.le_of_ble_eq_true rfl) (Nat.le_of_ble_eq_true rfl) ⟨q1, q2, rfl⟩
def y_X7_init : MethodName := ⟨"SowingBoards$RuleReader", "<init>", "()V"⟩
theorem t_X7_init_0 : decode prog_9_method_1_code 0 = .ok (.aload_n 0, 1) := by decide +kernel
theorem t_X7_init_1 : decode prog_9_method_1_code 1 = .ok (.invokespecial 3, 3) := by decide +kernel
theorem t_X7_init_4 : decode prog_9_method_1_code 4 = .ok (.aload_n 0, 1) := by decide +kernel
theorem t_X7_init_5 : decode prog_9_method_1_code 5 = .ok (.bipush 40, 2) := by decide +kernel
theorem t_X7_init_7 : decode prog_9_method_1_code 7 = .ok (.newarray .int, 2) := by decide +kernel
theorem t_X7_init_9 : decode prog_9_method_1_code 9 = .ok (.putfield 11, 3) := by decide +kernel
theorem t_X7_init_12 : decode prog_9_method_1_code 12 = .ok (.aload_n 0, 1) := by decide +kernel
theorem t_X7_init_13 : decode prog_9_method_1_code 13 = .ok (.iconst 5, 1) := by decide +kernel
theorem t_X7_init_14 : decode prog_9_method_1_code 14 = .ok (.newarray .boolean, 2) := by decide +kernel
theorem t_X7_init_16 : decode prog_9_method_1_code 16 = .ok (.putfield 17, 3) := by decide +kernel
theorem t_X7_init_19 : decode prog_9_method_1_code 19 = .ok (.aload_n 0, 1) := by decide +kernel
theorem t_X7_init_20 : decode prog_9_method_1_code 20 = .ok (.new 9, 3) := by decide +kernel
theorem t_X7_init_23 : decode prog_9_method_1_code 23 = .ok (.dup, 1) := by decide +kernel
theorem t_X7_init_24 : decode prog_9_method_1_code 24 = .ok (.invokespecial 21, 3) := by decide +kernel
theorem t_X7_init_27 : decode prog_9_method_1_code 27 = .ok (.putfield 22, 3) := by decide +kernel
theorem t_X7_init_30 : decode prog_9_method_1_code 30 = .ok (.return_, 1) := by decide +kernel
theorem my_X7_init : MY y_X7_init prog_9_method_1_code 1 none 0 := ⟨vtb_at 394 (by decide +kernel) rfl, vtb_at 148 (by decide +kernel) rfl, ⟨by decide, by decide, by decide +kernel⟩, by decide⟩
abbrev res_X7_init (cs : Nat → ClassId) (a : Nat) (w1 : va_W) : Prop := ∃ q1 q2 q3 q4 q5, w1 = [(a, .inr (7, [.ref q1, .ref q2, .ref q3, .int 0, .int 0, .int 0, .int 0])), (q3, .inr (6, [.ref q4, .ref q5, .int 0])), (q5, .inl (cs 0, 40, .inl (fun _ => 0))), (q4, .inl (cs 0, 40, .inl (fun _ => 0))), (q2, .inl (cs 2, 5, .inl (fun _ => 0))), (q1, .inl (cs 0, 40, .inl (fun _ => 0)))]
set_option maxRecDepth 20000 in
set_option maxHeartbeats 20000000 in
theorem c_X7_init {l0 : Launch} {cs : Nat → ClassId} {G : va_G} : CtN l0 cs G y_X7_init prog_9_method_1_code 1 7 [] 1 5 128 (res_X7_init cs) := by
  refine ctN_of (by decide) rfl (fun _ => (Nat.le_of_ble_eq_true rfl)) (fun X a hn h fin => ?_)
  show nG G X 0 0 0 [(0, .ref a)] [] [(a, .inr (7, dfl 7))]
  refine n_aload h 0 t_X7_init_0 rfl ?_
  refine n_objInit h (vtb_at 395 (by decide +kernel) rfl) (vtb_at 172 (by decide +kernel) rfl) (vtb_at 173 (by decide +kernel) rfl) (Nat.zero_le _) t_X7_init_1 ?_
  refine n_aload h 0 t_X7_init_4 rfl ?_
  refine n_bipush (v := 40) h t_X7_init_5 (by decide) ?_
  refine n_newa (kc := 0) (ks := 0) h 0 (ty := .int) (N' := 40) (a0 := (40, .inl (fun _ => 0))) rfl rfl (fun _ _ z => z) (vtb_at 213 (by decide +kernel) rfl) (fun _ => rfl) (by decide) rfl (Nat.le_of_ble_eq_true rfl) (Nat.le_of_ble_eq_true rfl) (Nat.le_of_ble_eq_true rfl) t_X7_init_7 (fun q1 => ?_)
  refine n_putF (ty := (.array .int)) (fs' := [.ref q1, .null, .null, .int 0, .int 0, .int 0, .int 0]) h 0 (ci := 7) rfl (by decide) (vtb_at 413 (by decide +kernel) rfl) rfl rfl (by decide) (by decide) (by decide +kernel) rfl rfl (Nat.le_of_ble_eq_true rfl) rfl t_X7_init_9 ?_
  refine n_aload h 0 t_X7_init_12 rfl ?_
  refine n_iconst (v := 5) h t_X7_init_13 (by decide) ?_
  refine n_newa (kc := 1) (ks := 40) h 2 (ty := .boolean) (N' := 5) (a0 := (5, .inl (fun _ => 0))) rfl rfl (fun _ _ z => z) (vtb_at 234 (by decide +kernel) rfl) (fun _ => rfl) (by decide) rfl (Nat.le_of_ble_eq_true rfl) (Nat.le_of_ble_eq_true rfl) (Nat.le_of_ble_eq_true rfl) t_X7_init_14 (fun q2 => ?_)
  refine n_putF (ty := (.array .boolean)) (fs' := [.ref q1, .ref q2, .null, .int 0, .int 0, .int 0, .int 0]) h 1 (ci := 7) rfl (by decide) (vtb_at 414 (by decide +kernel) rfl) rfl rfl (by decide) (by decide) (by decide +kernel) rfl rfl (Nat.le_of_ble_eq_true rfl) rfl t_X7_init_16 ?_
  refine n_aload h 0 t_X7_init_19 rfl ?_
  refine n_new (kc := 2) (ks := 45) (ci := 6) h rfl (vtb_at 396 (by decide +kernel) rfl) (vtb_at 397 (by decide +kernel) rfl) (vtb_at 149 (by decide +kernel) rfl) dfl_6 (Nat.le_of_ble_eq_true rfl) (Nat.le_of_ble_eq_true rfl) t_X7_init_20 (fun q3 => ?_)
  refine n_dup h t_X7_init_23 ?_
  refine n_call (kc := 3) (ks := 48) (As := []) (st := [.ref q3, .ref a]) (tl := [(q2, .inl (cs 2, 5, .inl (fun _ => 0))), (q1, .inl (cs 0, 40, .inl (fun _ => 0)))]) h (c_X6_init) (Or.inr ⟨"SowingBoards", (vnl_at 398 (by decide +kernel) rfl)⟩) my_X6_init (vtb_at 399 (by decide +kernel) rfl) rfl rfl rfl (Nat.le_of_ble_eq_true rfl) (by decide) (Nat.le_of_ble_eq_true rfl) (Nat.le_of_ble_eq_true rfl) t_X7_init_24 (fun v3 hv3 => ?_)
  obtain ⟨q4, q5, rfl⟩ := hv3
  show nG G X _ _ _ _ _ [(a, .inr (7, [.ref q1, .ref q2, .null, .int 0, .int 0, .int 0, .int 0])), (q3, .inr (6, [.ref q4, .ref q5, .int 0])), (q5, .inl (cs 0, 40, .inl (fun _ => 0))), (q4, .inl (cs 0, 40, .inl (fun _ => 0))), (q2, .inl (cs 2, 5, .inl (fun _ => 0))), (q1, .inl (cs 0, 40, .inl (fun _ => 0)))]
  refine n_putF (ty := (.object "SowingBoards$Rule")) (fs' := [.ref q1, .ref q2, .ref q3, .int 0, .int 0, .int 0, .int 0]) h 2 (ci := 7) rfl (by decide) (vtb_at 415 (by decide +kernel) rfl) rfl rfl (by decide) (by decide) (by decide +kernel) rfl rfl (Nat.le_of_ble_eq_true rfl) rfl t_X7_init_27 ?_
  exact fin _ 5 128 _ _ t_X7_init_30 (Nat.le_of_ble_eq_true rfl) (Nat.le_of_ble_eq_true rfl) ⟨q1, q2, q3, q4, q5, rfl⟩
def y_X4_init : MethodName := ⟨"SowingBoards$Player", "<init>", "()V"⟩
theorem t_X4_init_0 : decode prog_6_method_1_code 0 = .ok (.aload_n 0, 1) := by decide +kernel
theorem t_X4_init_1 : decode prog_6_method_1_code 1 = .ok (.invokespecial 3, 3) := by decide +kernel
theorem t_X4_init_4 : decode prog_6_method_1_code 4 = .ok (.aload_n 0, 1) := by decide +kernel
theorem t_X4_init_5 : decode prog_6_method_1_code 5 = .ok (.new 9, 3) := by decide +kernel
theorem t_X4_init_8 : decode prog_6_method_1_code 8 = .ok (.dup, 1) := by decide +kernel
theorem t_X4_init_9 : decode prog_6_method_1_code 9 = .ok (.invokespecial 11, 3) := by decide +kernel
theorem t_X4_init_12 : decode prog_6_method_1_code 12 = .ok (.putfield 12, 3) := by decide +kernel
theorem t_X4_init_15 : decode prog_6_method_1_code 15 = .ok (.aload_n 0, 1) := by decide +kernel
theorem t_X4_init_16 : decode prog_6_method_1_code 16 = .ok (.new 18, 3) := by decide +kernel
theorem t_X4_init_19 : decode prog_6_method_1_code 19 = .ok (.dup, 1) := by decide +kernel
theorem t_X4_init_20 : decode prog_6_method_1_code 20 = .ok (.invokespecial 20, 3) := by decide +kernel
theorem t_X4_init_23 : decode prog_6_method_1_code 23 = .ok (.putfield 21, 3) := by decide +kernel
theorem t_X4_init_26 : decode prog_6_method_1_code 26 = .ok (.return_, 1) := by decide +kernel
theorem my_X4_init : MY y_X4_init prog_6_method_1_code 1 none 0 := ⟨vtb_at 318 (by decide +kernel) rfl, vtb_at 145 (by decide +kernel) rfl, ⟨by decide, by decide, by decide +kernel⟩, by decide⟩
abbrev res_X4_init (cs : Nat → ClassId) (a : Nat) (w1 : va_W) : Prop := ∃ q1 q2 q3 q4, w1 = [(a, .inr (4, [.ref q1, .ref q4, .int 0])), (q4, .inr (1, [.int 0, .int 0, .int 0, .int 0, .int 0, .int 0, .int 0, .int 0, .int 0, .int 0])), (q1, .inr (5, [.ref q2, .ref q3, .int 3, .int 0, .int 0])), (q3, .inl (cs 0, 2, .inl (fun _ => 0))), (q2, .inl (cs 0, 12, .inl (fun _ => 0)))]
set_option maxRecDepth 20000 in
set_option maxHeartbeats 20000000 in
theorem c_X4_init {l0 : Launch} {cs : Nat → ClassId} {G : va_G} : CtN l0 cs G y_X4_init prog_6_method_1_code 1 4 [] 1 4 29 (res_X4_init cs) := by
  refine ctN_of (by decide) rfl (fun _ => (Nat.le_of_ble_eq_true rfl)) (fun X a hn h fin => ?_)
  show nG G X 0 0 0 [(0, .ref a)] [] [(a, .inr (4, dfl 4))]
  refine n_aload h 0 t_X4_init_0 rfl ?_
  refine n_objInit h (vtb_at 319 (by decide +kernel) rfl) (vtb_at 172 (by decide +kernel) rfl) (vtb_at 173 (by decide +kernel) rfl) (Nat.zero_le _) t_X4_init_1 ?_
  refine n_aload h 0 t_X4_init_4 rfl ?_
  refine n_new (kc := 0) (ks := 0) (ci := 5) h rfl (vtb_at 320 (by decide +kernel) rfl) (vtb_at 175 (by decide +kernel) rfl) (vtb_at 140 (by decide +kernel) rfl) dfl_5 (Nat.le_of_ble_eq_true rfl) (Nat.le_of_ble_eq_true rfl) t_X4_init_5 (fun q1 => ?_)
  refine n_dup h t_X4_init_8 ?_
  refine n_call (kc := 1) (ks := 5) (As := []) (st := [.ref q1, .ref a]) (tl := []) h (c_X5_init) (Or.inr ⟨"SowingBoards", (vnl_at 321 (by decide +kernel) rfl)⟩) my_X5_init (vtb_at 177 (by decide +kernel) rfl) rfl rfl rfl (Nat.le_of_ble_eq_true rfl) (by decide) (Nat.le_of_ble_eq_true rfl) (Nat.le_of_ble_eq_true rfl) t_X4_init_9 (fun v1 hv1 => ?_)
  obtain ⟨q2, q3, rfl⟩ := hv1
  show nG G X _ _ _ _ _ [(a, .inr (4, [.null, .null, .int 0])), (q1, .inr (5, [.ref q2, .ref q3, .int 3, .int 0, .int 0])), (q3, .inl (cs 0, 2, .inl (fun _ => 0))), (q2, .inl (cs 0, 12, .inl (fun _ => 0)))]
  refine n_putF (ty := (.object "SowingBoards$Position")) (fs' := [.ref q1, .null, .int 0]) h 0 (ci := 4) rfl (by decide) (vtb_at 324 (by decide +kernel) rfl) rfl rfl (by decide) (by decide) (by decide +kernel) rfl rfl (Nat.le_of_ble_eq_true rfl) rfl t_X4_init_12 ?_
  refine n_aload h 0 t_X4_init_15 rfl ?_
  refine n_new (kc := 3) (ks := 19) (ci := 1) h rfl (vtb_at 322 (by decide +kernel) rfl) (vtb_at 267 (by decide +kernel) rfl) (vtb_at 144 (by decide +kernel) rfl) dfl_1 (Nat.le_of_ble_eq_true rfl) (Nat.le_of_ble_eq_true rfl) t_X4_init_16 (fun q4 => ?_)
  refine n_dup h t_X4_init_19 ?_
  refine n_call (kc := 4) (ks := 29) (As := []) (st := [.ref q4, .ref a]) (tl := [(q1, .inr (5, [.ref q2, .ref q3, .int 3, .int 0, .int 0])), (q3, .inl (cs 0, 2, .inl (fun _ => 0))), (q2, .inl (cs 0, 12, .inl (fun _ => 0)))]) h (c_X1_init) (Or.inr ⟨"SowingBoards", (vnl_at 323 (by decide +kernel) rfl)⟩) my_X1_init (vtb_at 269 (by decide +kernel) rfl) rfl rfl rfl (Nat.le_of_ble_eq_true rfl) (by decide) (Nat.le_of_ble_eq_true rfl) (Nat.le_of_ble_eq_true rfl) t_X4_init_20 (fun v4 hv4 => ?_)
  subst hv4
  show nG G X _ _ _ _ _ [(a, .inr (4, [.ref q1, .null, .int 0])), (q4, .inr (1, [.int 0, .int 0, .int 0, .int 0, .int 0, .int 0, .int 0, .int 0, .int 0, .int 0])), (q1, .inr (5, [.ref q2, .ref q3, .int 3, .int 0, .int 0])), (q3, .inl (cs 0, 2, .inl (fun _ => 0))), (q2, .inl (cs 0, 12, .inl (fun _ => 0)))]
  refine n_putF (ty := (.object "SowingBoards$Move")) (fs' := [.ref q1, .ref q4, .int 0]) h 1 (ci := 4) rfl (by decide) (vtb_at 325 (by decide +kernel) rfl) rfl rfl (by decide) (by decide) (by decide +kernel) rfl rfl (Nat.le_of_ble_eq_true rfl) rfl t_X4_init_23 ?_
  exact fin _ 4 29 _ _ t_X4_init_26 (Nat.le_of_ble_eq_true rfl) (Nat.le_of_ble_eq_true rfl) ⟨q1, q2, q3, q4, rfl⟩
