/-! the law's own methods pit, store and row: they call, and catch -/
theorem x_ofWH {l : Launch} {y : MethodName} {ws ws' : List Cond} {rm : Room} {Pc : Array Value → State → Prop} {Qc : Array Value → State → Outcome → State → Prop} {mc ms : Nat} {free : Addr → Prop} {cc : ByteArray} {maxL : Nat} {ret : Option FieldType} {hh : List (Nat × Nat × Nat × Nat)}
    (hy : plainName y.cls = true) (hw : ws = Cond.codeWith y cc maxL ret hh :: ws')
    (body : ∀ p e s m args below meth c s₁, BodyLoose p l y (headSpec ws rm) cc maxL ret e s m args below meth c s₁ → c.maxLocals = maxL → Pc args s →
      W p l e (headSpec ws rm).room s m args below meth c s.heap [] 0 0 (MQ below Qc args s mc ms free) (entryFrame m args maxL)) : Met l y ws rm Pc Qc mc ms free := by
  refine MetFree.of_bodyS (code := cc) (maxLocals := maxL) (ret := ret) hy ?_ ?_
  · intro args s m h hn
    obtain ⟨m9, meth, c, hn9, h1, h2, h3, h4, -, h5, h6, -⟩ := Cond.codeWith_spec (atoms_spec (ws := ws) h _ (by rw [hw]; exact List.mem_cons_self))
    cases hn.symm.trans hn9
    exact ⟨meth, c, h1, h2, h3, h4, h5, h6⟩
  · intro p e s m args below meth c s₁ B hml hP _
    have hh0 : s₁.heap = s.heap := by rw [B.state]; rfl
    obtain ⟨t, a1, o, b1, b2, b3⟩ := body p e s m args below meth c s₁ B hml hP s₁ hh0 (Stand.of_body B)
    exact ⟨t, o, a1, b1, b2, ⟨b3.1, b3.2⟩⟩
abbrev wsL (y : MethodName) (cc : ByteArray) (hh : List (Nat × Nat × Nat × Nat)) : List Cond := Cond.codeWith y cc 4 (some .int) hh :: vtb
def CtL (l : Launch) (ρ : Nat → Nat) (cs : Nat → ClassId) (G : va_G) (a : Nat → Nat) (y : MethodName) (cc : ByteArray) (hh : List (Nat × Nat × Nat × Nat)) (av : List Value) (w : Wd) (r : Int32) (w' : Wd) : Prop :=
  Met l y (wsL y cc hh) (rmx 2) (va_Pc av (WldT ρ cs G a w)) (va_Qi (fun (r' : Int32) (_ : Unit) => r' = r) (fun _ t => Wld ρ cs G w' t) (A0 ρ)) 1 6 (A0 ρ)
theorem xlk : Cond.classLink "SowingBoardsLaw" 13 xNS ∈ vtb := vtb_at 1245 (by decide +kernel) rfl
def y_L_pit : MethodName := ⟨"SowingBoardsLaw", "pit", "(LSowingBoards;I[J)I"⟩
theorem t_L_pit_0 : decode method_3_code 0 = .ok (.aload_n 2, 1) := by decide +kernel
theorem t_L_pit_1 : decode method_3_code 1 = .ok (.iconst 0, 1) := by decide +kernel
theorem t_L_pit_2 : decode method_3_code 2 = .ok (.aload_n 0, 1) := by decide +kernel
theorem t_L_pit_3 : decode method_3_code 3 = .ok (.iload_n 1, 1) := by decide +kernel
theorem t_L_pit_4 : decode method_3_code 4 = .ok (.invokevirtual 7, 3) := by decide +kernel
theorem t_L_pit_7 : decode method_3_code 7 = .ok (.i2l, 1) := by decide +kernel
theorem t_L_pit_8 : decode method_3_code 8 = .ok (.lastore, 1) := by decide +kernel
theorem t_L_pit_9 : decode method_3_code 9 = .ok (.goto 6, 3) := by decide +kernel
theorem t_L_pit_12 : decode method_3_code 12 = .ok (.astore_n 3, 1) := by decide +kernel
theorem t_L_pit_13 : decode method_3_code 13 = .ok (.iconst 1, 1) := by decide +kernel
theorem t_L_pit_14 : decode method_3_code 14 = .ok (.ireturn, 1) := by decide +kernel
theorem t_L_pit_15 : decode method_3_code 15 = .ok (.iconst 0, 1) := by decide +kernel
theorem t_L_pit_16 : decode method_3_code 16 = .ok (.ireturn, 1) := by decide +kernel
theorem my_X11_pit : MY y_X11_pit prog_1_method_10_code 2 (some .int) 1 := ⟨vtb_at 1249 (by decide +kernel) rfl, vtb_at 139 (by decide +kernel) rfl, ⟨by decide, by decide, by decide +kernel⟩, by decide⟩
theorem mi_X11_pit : MI y_X11_pit := ⟨vtb_at 1247 (by decide +kernel) rfl, vtb_at 1248 (by decide +kernel) rfl⟩
theorem ml_L_7 : Cond.methodLink "SowingBoardsLaw" 7 y_X11_pit ∈ vtb := vtb_at 1246 (by decide +kernel) rfl
set_option maxRecDepth 20000 in
theorem cL_pit {l0 : Launch} {ρ : Nat → Nat} {cs : Nat → ClassId} {G : va_G} {a : Nat → Nat} (hρ : injN ρ) {p1 : Int32} {w : Wd} (h1 : xokP p1 w) : CtL l0 ρ cs G a y_L_pit method_3_code [(0, 9, 12, 13)] [.ref (ρ 75), .int p1, .ref (ρ 161)] w 0 (wJ w 161 0 ((w.1 1 p1.toNatClampNeg).toInt64)) := by
  refine x_ofWH (cc := method_3_code) (maxL := 4) (ret := some .int) (by decide) rfl ?_
  intro p e s m args below meth c s₁ B hml hv
  obtain ⟨rfl, ⟨hP, hK, hO⟩, hT⟩ := hv
  have hx := B.exec
  have hb := B.bytes
  have hr := B.returns
  have hts := atoms_spec (ws := wsL y_L_pit method_3_code [(0, 9, 12, 13)]) B.pre
  have hown : s.vm.findClass "SowingBoardsLaw" = some m.cls := findClass_of_methodNamed B.named
  have hlocks := B.notSynchronized
  have hl := lv_entry [.ref (ρ 75), .int p1, .ref (ρ 161)] (n := 4) (Nat.le_of_ble_eq_true rfl)
  rw [lg_entry_eq]
  generalize (lg_sl [.ref (ρ 75), .int p1, .ref (ρ 161)] ++ List.replicate (4 - (lg_sl [.ref (ρ 75), .int p1, .ref (ρ 161)]).length) Slot.unset).toArray = ls at hl ⊢
  have hts' : ∀ w ∈ vtb, w.before (List.toArray [.ref (ρ 75), .int p1, .ref (ρ 161)]) s = true := fun w hw => hts w (List.mem_cons_of_mem _ hw)
  obtain ⟨X, hX⟩ : ∃ X : Cx, X = (p, l0, e, (headSpec (wsL y_L_pit method_3_code [(0, 9, 12, 13)]) (rmx 2)).room, s, m, List.toArray [.ref (ρ 75), .int p1, .ref (ρ 161)], below, meth, c, 4, 0, 0, MQ below (va_Qi (fun (r' : Int32) (_ : Unit) => r' = 0) (fun _ t => Wld ρ cs G (wJ w 161 0 ((w.1 1 p1.toNatClampNeg).toInt64)) t) (A0 ρ)) (List.toArray [.ref (ρ 75), .int p1, .ref (ρ 161)]) s 1 6 (A0 ρ)) := ⟨_, rfl⟩
  have h : Okx l0 ρ cs G X method_3_code "SowingBoardsLaw" 2 := by
    rw [hX]
    exact ⟨rfl, hx, hb, hml, hown, hts', hK, hρ, ⟨Nat.le_of_ble_eq_true rfl, Nat.le_of_ble_eq_true rfl, Nat.zero_le _, Nat.zero_le _⟩, hO⟩
  have last : gG ρ cs G X 16 [(0, .ref (ρ 75)), (1, .int p1), (2, .ref (ρ 161))] [.int 0] (wJ w 161 0 ((w.1 1 p1.toNatClampNeg).toInt64)) := by
    rw [hX]
    intro H locs ls hP hS hl
    refine W.widen (k := 1) (n := 6) (Nat.zero_le _) (Nat.zero_le _) ?_
    exact W.zret hx hb hr rfl (fun t ht hW => ⟨⟨(0 : Int32), (), rfl, rfl, ⟨by rw [ht]; exact hP, va_K.moved hW.alike hK, by rw [ht]; exact (hO.kept hS.2.1).warm hW⟩⟩, hS.F ht⟩) (fun q hq => hS.2.2 q hq) t_L_pit_16
  have key : gG ρ cs G X 0 [(0, .ref (ρ 75)), (1, .int p1), (2, .ref (ρ 161))] [] w := by
    refine g_aload_n h 2 t_L_pit_0 rfl ?_
    refine g_iconst (v := 0) h t_L_pit_1 (by decide) ?_
    refine g_aload_n h 0 t_L_pit_2 rfl ?_
    refine g_iload_n h 1 t_L_pit_3 rfl ?_
    refine g_callVI (d' := 1) h 75 (As := [.int p1]) (st := [.int 0, .ref (ρ 161)]) (o := some (w.1 1 p1.toNatClampNeg, w)) (K := fun x w1 => some (x, w1)) (rr := (w.1 1 p1.toNatClampNeg, w)) my_X11_pit mi_X11_pit (Or.inl ml_L_7) rfl (by decide) rfl rfl rfl (Nat.le_of_ble_eq_true rfl) (by decide) t_L_pit_4 rfl (fun r w1 e => ?_) (fun x w1 hD => ?_)
    · cases e
      exact c_pit hρ h1
    cases hD
    refine g_i2l h t_L_pit_7 ?_
    refine g_last (α := Wd) (K := fun w' => some w') (rr := (wJ w 161 0 ((w.1 1 p1.toNatClampNeg).toInt64))) h 161 rfl (by decide) t_L_pit_8 (if_pos (by decide)) (fun w' e => ?_)
    cases e
    refine g_goto (tgt := 15) h t_L_pit_9 (by decide) ?_
    refine g_iconst (v := 0) h t_L_pit_15 (by decide) ?_
    exact last
  rw [hX] at key
  exact key s.heap [] ls hP va_S.rf hl
set_option maxRecDepth 20000 in
theorem xL_pit {l0 : Launch} {ρ : Nat → Nat} {cs : Nat → ClassId} {G : va_G} {a : Nat → Nat} (hρ : injN ρ) {p1 : Int32} {w : Wd} (hfl : l0.stackTraces = false) (h1 : xnoP p1 w) : CtL l0 ρ cs G a y_L_pit method_3_code [(0, 9, 12, 13)] [.ref (ρ 75), .int p1, .ref (ρ 161)] w 1 w := by
  refine x_ofWH (cc := method_3_code) (maxL := 4) (ret := some .int) (by decide) rfl ?_
  intro p e s m args below meth c s₁ B hml hv
  obtain ⟨rfl, ⟨hP, hK, hO⟩, hT⟩ := hv
  have hx := B.exec
  have hb := B.bytes
  have hr := B.returns
  have hts := atoms_spec (ws := wsL y_L_pit method_3_code [(0, 9, 12, 13)]) B.pre
  have hown : s.vm.findClass "SowingBoardsLaw" = some m.cls := findClass_of_methodNamed B.named
  have hlocks := B.notSynchronized
  have hl := lv_entry [.ref (ρ 75), .int p1, .ref (ρ 161)] (n := 4) (Nat.le_of_ble_eq_true rfl)
  rw [lg_entry_eq]
  generalize (lg_sl [.ref (ρ 75), .int p1, .ref (ρ 161)] ++ List.replicate (4 - (lg_sl [.ref (ρ 75), .int p1, .ref (ρ 161)]).length) Slot.unset).toArray = ls at hl ⊢
  have hts' : ∀ w ∈ vtb, w.before (List.toArray [.ref (ρ 75), .int p1, .ref (ρ 161)]) s = true := fun w hw => hts w (List.mem_cons_of_mem _ hw)
  obtain ⟨X, hX⟩ : ∃ X : Cx, X = (p, l0, e, (headSpec (wsL y_L_pit method_3_code [(0, 9, 12, 13)]) (rmx 2)).room, s, m, List.toArray [.ref (ρ 75), .int p1, .ref (ρ 161)], below, meth, c, 4, 0, 0, MQ below (va_Qi (fun (r' : Int32) (_ : Unit) => r' = 1) (fun _ t => Wld ρ cs G w t) (A0 ρ)) (List.toArray [.ref (ρ 75), .int p1, .ref (ρ 161)]) s 1 6 (A0 ρ)) := ⟨_, rfl⟩
  have h : Okx l0 ρ cs G X method_3_code "SowingBoardsLaw" 2 := by
    rw [hX]
    exact ⟨rfl, hx, hb, hml, hown, hts', hK, hρ, ⟨Nat.le_of_ble_eq_true rfl, Nat.le_of_ble_eq_true rfl, Nat.zero_le _, Nat.zero_le _⟩, hO⟩
  have htab : c.exceptionTable.toList = tableOf [(0, 9, 12, 13)] := vx_table (x := y_L_pit) B (hts _ List.mem_cons_self)
  have key : gG ρ cs G X 0 [(0, .ref (ρ 75)), (1, .int p1), (2, .ref (ρ 161))] [] w := by
    refine g_aload_n h 2 t_L_pit_0 rfl ?_
    refine g_iconst (v := 0) h t_L_pit_1 (by decide) ?_
    refine g_aload_n h 0 t_L_pit_2 rfl ?_
    refine g_iload_n h 1 t_L_pit_3 rfl ?_
    rw [hX]
    intro H locs ls hP hS hl
    have hrec := va_recv hK hP (ci := 11) rfl (cells_get (ρ := ρ) (cs := cs) (w := w) (i := 75) (by decide) (cel_ob rfl))
    have hp : PreV s H "SowingBoards" (ρ 75) (va_Pc [.ref (ρ 75), .int p1] (WldT ρ cs G a w)) [.int p1] := ⟨wldT_blind, hrec, fun U hU hW => ⟨rfl, ⟨by rw [hU]; exact hP, va_K.moved hW.alike hK, by rw [hU]; exact (hO.kept hS.2.1).warm hW⟩, by rw [hU]; exact (hT.kept hS.2.1).warm hW⟩⟩
    refine vx_calli (vx_runV (As := [.int p1]) (rest := [.int 0, .ref (ρ 161)]) ⟨hx, hb, hml, hown, hts'⟩ (x_pit (a := a) hρ hfl h1) ⟨callB_of 1 hts' (good_vtb my_X11_pit.1) rfl rfl rfl (hts' _ my_X11_pit.2.1) (hts' _ ml_L_7) my_X11_pit.2.2.1 ⟨Nat.le_of_ble_eq_true rfl, Nat.le_of_ble_eq_true rfl⟩, hts' _ mi_X11_pit.1, hts' _ mi_X11_pit.2⟩ hp rfl rfl hl.1 rfl (lv_room (Nat.le_of_ble_eq_true rfl)) t_L_pit_4 ⟨Nat.le_refl _, Nat.le_refl _⟩) hS (fun q _ z => z) (fun q z => z) (fun q _ z => z) (fun E ce q9 u t H1 locs1 ht hvm _ hB hz hk hS3 hc9 hv9 hcl => ?_) (fun r u t H1 locs1 ht hvm hw => hw.elim)
    obtain ⟨rfl, hP1⟩ := hB
    rw [ht] at hP1
    refine vx_catch (own := "SowingBoardsLaw") (name := xNS) hown [] { startPc := 0, endPc := 9, handlerPc := 12, catchType := 13 } [] (by rw [htab]; rfl) (fun z hz => nomatch hz) (by decide) (by decide) (hts' _ xlk) (va_tabs (xN_ot _ (by decide +kernel)) rfl (hT.2.2.2.2.2 (.castable xNS xNS) (by decide +kernel))) hc9 hv9 hcl ?_
    refine lv_astore_n (i := 3) hx hb t_L_pit_12 rfl hl (by decide) rfl (fun ls hl => ?_)
    refine lv_iconst (v := 1) hx hb t_L_pit_13 (by decide) ?_
    exact W.zret hx hb hr rfl (fun t ht hW => ⟨⟨(1 : Int32), (), rfl, rfl, ⟨by rw [ht]; exact hP1, va_K.moved hW.alike hK, by rw [ht]; exact (hO.kept hS3.2.1).warm hW⟩⟩, hS3.F ht⟩) (fun q hq => hS3.2.2 q hq) t_L_pit_14
  rw [hX] at key
  exact key s.heap [] ls hP va_S.rf hl
def y_L_store : MethodName := ⟨"SowingBoardsLaw", "store", "(LSowingBoards;I[J)I"⟩
theorem t_L_store_0 : decode method_4_code 0 = .ok (.aload_n 2, 1) := by decide +kernel
theorem t_L_store_1 : decode method_4_code 1 = .ok (.iconst 0, 1) := by decide +kernel
theorem t_L_store_2 : decode method_4_code 2 = .ok (.aload_n 0, 1) := by decide +kernel
theorem t_L_store_3 : decode method_4_code 3 = .ok (.iload_n 1, 1) := by decide +kernel
theorem t_L_store_4 : decode method_4_code 4 = .ok (.invokevirtual 15, 3) := by decide +kernel
theorem t_L_store_7 : decode method_4_code 7 = .ok (.i2l, 1) := by decide +kernel
theorem t_L_store_8 : decode method_4_code 8 = .ok (.lastore, 1) := by decide +kernel
theorem t_L_store_9 : decode method_4_code 9 = .ok (.goto 6, 3) := by decide +kernel
theorem t_L_store_12 : decode method_4_code 12 = .ok (.astore_n 3, 1) := by decide +kernel
theorem t_L_store_13 : decode method_4_code 13 = .ok (.iconst 1, 1) := by decide +kernel
theorem t_L_store_14 : decode method_4_code 14 = .ok (.ireturn, 1) := by decide +kernel
theorem t_L_store_15 : decode method_4_code 15 = .ok (.iconst 0, 1) := by decide +kernel
theorem t_L_store_16 : decode method_4_code 16 = .ok (.ireturn, 1) := by decide +kernel
theorem my_X11_store : MY y_X11_store prog_1_method_11_code 2 (some .int) 1 := ⟨vtb_at 1321 (by decide +kernel) rfl, vtb_at 139 (by decide +kernel) rfl, ⟨by decide, by decide, by decide +kernel⟩, by decide⟩
theorem mi_X11_store : MI y_X11_store := ⟨vtb_at 1319 (by decide +kernel) rfl, vtb_at 1320 (by decide +kernel) rfl⟩
theorem ml_L_15 : Cond.methodLink "SowingBoardsLaw" 15 y_X11_store ∈ vtb := vtb_at 1318 (by decide +kernel) rfl
set_option maxRecDepth 20000 in
theorem cL_store {l0 : Launch} {ρ : Nat → Nat} {cs : Nat → ClassId} {G : va_G} {a : Nat → Nat} (hρ : injN ρ) {p1 : Int32} {w : Wd} (h1 : xokT p1) : CtL l0 ρ cs G a y_L_store method_4_code [(0, 9, 12, 13)] [.ref (ρ 75), .int p1, .ref (ρ 161)] w 0 (wJ w 161 0 ((w.1 2 p1.toNatClampNeg).toInt64)) := by
  refine x_ofWH (cc := method_4_code) (maxL := 4) (ret := some .int) (by decide) rfl ?_
  intro p e s m args below meth c s₁ B hml hv
  obtain ⟨rfl, ⟨hP, hK, hO⟩, hT⟩ := hv
  have hx := B.exec
  have hb := B.bytes
  have hr := B.returns
  have hts := atoms_spec (ws := wsL y_L_store method_4_code [(0, 9, 12, 13)]) B.pre
  have hown : s.vm.findClass "SowingBoardsLaw" = some m.cls := findClass_of_methodNamed B.named
  have hlocks := B.notSynchronized
  have hl := lv_entry [.ref (ρ 75), .int p1, .ref (ρ 161)] (n := 4) (Nat.le_of_ble_eq_true rfl)
  rw [lg_entry_eq]
  generalize (lg_sl [.ref (ρ 75), .int p1, .ref (ρ 161)] ++ List.replicate (4 - (lg_sl [.ref (ρ 75), .int p1, .ref (ρ 161)]).length) Slot.unset).toArray = ls at hl ⊢
  have hts' : ∀ w ∈ vtb, w.before (List.toArray [.ref (ρ 75), .int p1, .ref (ρ 161)]) s = true := fun w hw => hts w (List.mem_cons_of_mem _ hw)
  obtain ⟨X, hX⟩ : ∃ X : Cx, X = (p, l0, e, (headSpec (wsL y_L_store method_4_code [(0, 9, 12, 13)]) (rmx 2)).room, s, m, List.toArray [.ref (ρ 75), .int p1, .ref (ρ 161)], below, meth, c, 4, 0, 0, MQ below (va_Qi (fun (r' : Int32) (_ : Unit) => r' = 0) (fun _ t => Wld ρ cs G (wJ w 161 0 ((w.1 2 p1.toNatClampNeg).toInt64)) t) (A0 ρ)) (List.toArray [.ref (ρ 75), .int p1, .ref (ρ 161)]) s 1 6 (A0 ρ)) := ⟨_, rfl⟩
  have h : Okx l0 ρ cs G X method_4_code "SowingBoardsLaw" 2 := by
    rw [hX]
    exact ⟨rfl, hx, hb, hml, hown, hts', hK, hρ, ⟨Nat.le_of_ble_eq_true rfl, Nat.le_of_ble_eq_true rfl, Nat.zero_le _, Nat.zero_le _⟩, hO⟩
  have last : gG ρ cs G X 16 [(0, .ref (ρ 75)), (1, .int p1), (2, .ref (ρ 161))] [.int 0] (wJ w 161 0 ((w.1 2 p1.toNatClampNeg).toInt64)) := by
    rw [hX]
    intro H locs ls hP hS hl
    refine W.widen (k := 1) (n := 6) (Nat.zero_le _) (Nat.zero_le _) ?_
    exact W.zret hx hb hr rfl (fun t ht hW => ⟨⟨(0 : Int32), (), rfl, rfl, ⟨by rw [ht]; exact hP, va_K.moved hW.alike hK, by rw [ht]; exact (hO.kept hS.2.1).warm hW⟩⟩, hS.F ht⟩) (fun q hq => hS.2.2 q hq) t_L_store_16
  have key : gG ρ cs G X 0 [(0, .ref (ρ 75)), (1, .int p1), (2, .ref (ρ 161))] [] w := by
    refine g_aload_n h 2 t_L_store_0 rfl ?_
    refine g_iconst (v := 0) h t_L_store_1 (by decide) ?_
    refine g_aload_n h 0 t_L_store_2 rfl ?_
    refine g_iload_n h 1 t_L_store_3 rfl ?_
    refine g_callVI (d' := 1) h 75 (As := [.int p1]) (st := [.int 0, .ref (ρ 161)]) (o := some (w.1 2 p1.toNatClampNeg, w)) (K := fun x w1 => some (x, w1)) (rr := (w.1 2 p1.toNatClampNeg, w)) my_X11_store mi_X11_store (Or.inl ml_L_15) rfl (by decide) rfl rfl rfl (Nat.le_of_ble_eq_true rfl) (by decide) t_L_store_4 rfl (fun r w1 e => ?_) (fun x w1 hD => ?_)
    · cases e
      exact c_store hρ h1
    cases hD
    refine g_i2l h t_L_store_7 ?_
    refine g_last (α := Wd) (K := fun w' => some w') (rr := (wJ w 161 0 ((w.1 2 p1.toNatClampNeg).toInt64))) h 161 rfl (by decide) t_L_store_8 (if_pos (by decide)) (fun w' e => ?_)
    cases e
    refine g_goto (tgt := 15) h t_L_store_9 (by decide) ?_
    refine g_iconst (v := 0) h t_L_store_15 (by decide) ?_
    exact last
  rw [hX] at key
  exact key s.heap [] ls hP va_S.rf hl
set_option maxRecDepth 20000 in
theorem xL_store {l0 : Launch} {ρ : Nat → Nat} {cs : Nat → ClassId} {G : va_G} {a : Nat → Nat} (hρ : injN ρ) {p1 : Int32} {w : Wd} (hfl : l0.stackTraces = false) (h1 : xnoT p1) : CtL l0 ρ cs G a y_L_store method_4_code [(0, 9, 12, 13)] [.ref (ρ 75), .int p1, .ref (ρ 161)] w 1 w := by
  refine x_ofWH (cc := method_4_code) (maxL := 4) (ret := some .int) (by decide) rfl ?_
  intro p e s m args below meth c s₁ B hml hv
  obtain ⟨rfl, ⟨hP, hK, hO⟩, hT⟩ := hv
  have hx := B.exec
  have hb := B.bytes
  have hr := B.returns
  have hts := atoms_spec (ws := wsL y_L_store method_4_code [(0, 9, 12, 13)]) B.pre
  have hown : s.vm.findClass "SowingBoardsLaw" = some m.cls := findClass_of_methodNamed B.named
  have hlocks := B.notSynchronized
  have hl := lv_entry [.ref (ρ 75), .int p1, .ref (ρ 161)] (n := 4) (Nat.le_of_ble_eq_true rfl)
  rw [lg_entry_eq]
  generalize (lg_sl [.ref (ρ 75), .int p1, .ref (ρ 161)] ++ List.replicate (4 - (lg_sl [.ref (ρ 75), .int p1, .ref (ρ 161)]).length) Slot.unset).toArray = ls at hl ⊢
  have hts' : ∀ w ∈ vtb, w.before (List.toArray [.ref (ρ 75), .int p1, .ref (ρ 161)]) s = true := fun w hw => hts w (List.mem_cons_of_mem _ hw)
  obtain ⟨X, hX⟩ : ∃ X : Cx, X = (p, l0, e, (headSpec (wsL y_L_store method_4_code [(0, 9, 12, 13)]) (rmx 2)).room, s, m, List.toArray [.ref (ρ 75), .int p1, .ref (ρ 161)], below, meth, c, 4, 0, 0, MQ below (va_Qi (fun (r' : Int32) (_ : Unit) => r' = 1) (fun _ t => Wld ρ cs G w t) (A0 ρ)) (List.toArray [.ref (ρ 75), .int p1, .ref (ρ 161)]) s 1 6 (A0 ρ)) := ⟨_, rfl⟩
  have h : Okx l0 ρ cs G X method_4_code "SowingBoardsLaw" 2 := by
    rw [hX]
    exact ⟨rfl, hx, hb, hml, hown, hts', hK, hρ, ⟨Nat.le_of_ble_eq_true rfl, Nat.le_of_ble_eq_true rfl, Nat.zero_le _, Nat.zero_le _⟩, hO⟩
  have htab : c.exceptionTable.toList = tableOf [(0, 9, 12, 13)] := vx_table (x := y_L_store) B (hts _ List.mem_cons_self)
  have key : gG ρ cs G X 0 [(0, .ref (ρ 75)), (1, .int p1), (2, .ref (ρ 161))] [] w := by
    refine g_aload_n h 2 t_L_store_0 rfl ?_
    refine g_iconst (v := 0) h t_L_store_1 (by decide) ?_
    refine g_aload_n h 0 t_L_store_2 rfl ?_
    refine g_iload_n h 1 t_L_store_3 rfl ?_
    rw [hX]
    intro H locs ls hP hS hl
    have hrec := va_recv hK hP (ci := 11) rfl (cells_get (ρ := ρ) (cs := cs) (w := w) (i := 75) (by decide) (cel_ob rfl))
    have hp : PreV s H "SowingBoards" (ρ 75) (va_Pc [.ref (ρ 75), .int p1] (WldT ρ cs G a w)) [.int p1] := ⟨wldT_blind, hrec, fun U hU hW => ⟨rfl, ⟨by rw [hU]; exact hP, va_K.moved hW.alike hK, by rw [hU]; exact (hO.kept hS.2.1).warm hW⟩, by rw [hU]; exact (hT.kept hS.2.1).warm hW⟩⟩
    refine vx_calli (vx_runV (As := [.int p1]) (rest := [.int 0, .ref (ρ 161)]) ⟨hx, hb, hml, hown, hts'⟩ (x_store (a := a) hρ hfl h1) ⟨callB_of 1 hts' (good_vtb my_X11_store.1) rfl rfl rfl (hts' _ my_X11_store.2.1) (hts' _ ml_L_15) my_X11_store.2.2.1 ⟨Nat.le_of_ble_eq_true rfl, Nat.le_of_ble_eq_true rfl⟩, hts' _ mi_X11_store.1, hts' _ mi_X11_store.2⟩ hp rfl rfl hl.1 rfl (lv_room (Nat.le_of_ble_eq_true rfl)) t_L_store_4 ⟨Nat.le_refl _, Nat.le_refl _⟩) hS (fun q _ z => z) (fun q z => z) (fun q _ z => z) (fun E ce q9 u t H1 locs1 ht hvm _ hB hz hk hS3 hc9 hv9 hcl => ?_) (fun r u t H1 locs1 ht hvm hw => hw.elim)
    obtain ⟨rfl, hP1⟩ := hB
    rw [ht] at hP1
    refine vx_catch (own := "SowingBoardsLaw") (name := xNS) hown [] { startPc := 0, endPc := 9, handlerPc := 12, catchType := 13 } [] (by rw [htab]; rfl) (fun z hz => nomatch hz) (by decide) (by decide) (hts' _ xlk) (va_tabs (xN_ot _ (by decide +kernel)) rfl (hT.2.2.2.2.2 (.castable xNS xNS) (by decide +kernel))) hc9 hv9 hcl ?_
    refine lv_astore_n (i := 3) hx hb t_L_store_12 rfl hl (by decide) rfl (fun ls hl => ?_)
    refine lv_iconst (v := 1) hx hb t_L_store_13 (by decide) ?_
    exact W.zret hx hb hr rfl (fun t ht hW => ⟨⟨(1 : Int32), (), rfl, rfl, ⟨by rw [ht]; exact hP1, va_K.moved hW.alike hK, by rw [ht]; exact (hO.kept hS3.2.1).warm hW⟩⟩, hS3.F ht⟩) (fun q hq => hS3.2.2 q hq) t_L_store_14
  rw [hX] at key
  exact key s.heap [] ls hP va_S.rf hl
def y_L_row : MethodName := ⟨"SowingBoardsLaw", "row", "(LSowingBoards;I[J)I"⟩
theorem t_L_row_0 : decode method_5_code 0 = .ok (.aload_n 2, 1) := by decide +kernel
theorem t_L_row_1 : decode method_5_code 1 = .ok (.iconst 0, 1) := by decide +kernel
theorem t_L_row_2 : decode method_5_code 2 = .ok (.aload_n 0, 1) := by decide +kernel
theorem t_L_row_3 : decode method_5_code 3 = .ok (.iload_n 1, 1) := by decide +kernel
theorem t_L_row_4 : decode method_5_code 4 = .ok (.invokevirtual 18, 3) := by decide +kernel
theorem t_L_row_7 : decode method_5_code 7 = .ok (.lastore, 1) := by decide +kernel
theorem t_L_row_8 : decode method_5_code 8 = .ok (.goto 6, 3) := by decide +kernel
theorem t_L_row_11 : decode method_5_code 11 = .ok (.astore_n 3, 1) := by decide +kernel
theorem t_L_row_12 : decode method_5_code 12 = .ok (.iconst 1, 1) := by decide +kernel
theorem t_L_row_13 : decode method_5_code 13 = .ok (.ireturn, 1) := by decide +kernel
theorem t_L_row_14 : decode method_5_code 14 = .ok (.iconst 0, 1) := by decide +kernel
theorem t_L_row_15 : decode method_5_code 15 = .ok (.ireturn, 1) := by decide +kernel
theorem my_X11_row : MY y_X11_row prog_1_method_76_code 2 (some .long) 1 := ⟨vtb_at 1329 (by decide +kernel) rfl, vtb_at 139 (by decide +kernel) rfl, ⟨by decide, by decide, by decide +kernel⟩, by decide⟩
theorem mi_X11_row : MI y_X11_row := ⟨vtb_at 1327 (by decide +kernel) rfl, vtb_at 1328 (by decide +kernel) rfl⟩
theorem ml_L_18 : Cond.methodLink "SowingBoardsLaw" 18 y_X11_row ∈ vtb := vtb_at 1326 (by decide +kernel) rfl
set_option maxRecDepth 20000 in
theorem cL_row {l0 : Launch} {ρ : Nat → Nat} {cs : Nat → ClassId} {G : va_G} {a : Nat → Nat} (hρ : injN ρ) {p1 : Int32} {w : Wd} (h1 : xokL p1 w) : CtL l0 ρ cs G a y_L_row method_5_code [(0, 8, 11, 13)] [.ref (ρ 75), .int p1, .ref (ρ 161)] w 0 (wJ w 161 0 (w.2.1 83 p1.toNatClampNeg)) := by
  refine x_ofWH (cc := method_5_code) (maxL := 4) (ret := some .int) (by decide) rfl ?_
  intro p e s m args below meth c s₁ B hml hv
  obtain ⟨rfl, ⟨hP, hK, hO⟩, hT⟩ := hv
  have hx := B.exec
  have hb := B.bytes
  have hr := B.returns
  have hts := atoms_spec (ws := wsL y_L_row method_5_code [(0, 8, 11, 13)]) B.pre
  have hown : s.vm.findClass "SowingBoardsLaw" = some m.cls := findClass_of_methodNamed B.named
  have hlocks := B.notSynchronized
  have hl := lv_entry [.ref (ρ 75), .int p1, .ref (ρ 161)] (n := 4) (Nat.le_of_ble_eq_true rfl)
  rw [lg_entry_eq]
  generalize (lg_sl [.ref (ρ 75), .int p1, .ref (ρ 161)] ++ List.replicate (4 - (lg_sl [.ref (ρ 75), .int p1, .ref (ρ 161)]).length) Slot.unset).toArray = ls at hl ⊢
  have hts' : ∀ w ∈ vtb, w.before (List.toArray [.ref (ρ 75), .int p1, .ref (ρ 161)]) s = true := fun w hw => hts w (List.mem_cons_of_mem _ hw)
  obtain ⟨X, hX⟩ : ∃ X : Cx, X = (p, l0, e, (headSpec (wsL y_L_row method_5_code [(0, 8, 11, 13)]) (rmx 2)).room, s, m, List.toArray [.ref (ρ 75), .int p1, .ref (ρ 161)], below, meth, c, 4, 0, 0, MQ below (va_Qi (fun (r' : Int32) (_ : Unit) => r' = 0) (fun _ t => Wld ρ cs G (wJ w 161 0 (w.2.1 83 p1.toNatClampNeg)) t) (A0 ρ)) (List.toArray [.ref (ρ 75), .int p1, .ref (ρ 161)]) s 1 6 (A0 ρ)) := ⟨_, rfl⟩
  have h : Okx l0 ρ cs G X method_5_code "SowingBoardsLaw" 2 := by
    rw [hX]
    exact ⟨rfl, hx, hb, hml, hown, hts', hK, hρ, ⟨Nat.le_of_ble_eq_true rfl, Nat.le_of_ble_eq_true rfl, Nat.zero_le _, Nat.zero_le _⟩, hO⟩
  have last : gG ρ cs G X 15 [(0, .ref (ρ 75)), (1, .int p1), (2, .ref (ρ 161))] [.int 0] (wJ w 161 0 (w.2.1 83 p1.toNatClampNeg)) := by
    rw [hX]
    intro H locs ls hP hS hl
    refine W.widen (k := 1) (n := 6) (Nat.zero_le _) (Nat.zero_le _) ?_
    exact W.zret hx hb hr rfl (fun t ht hW => ⟨⟨(0 : Int32), (), rfl, rfl, ⟨by rw [ht]; exact hP, va_K.moved hW.alike hK, by rw [ht]; exact (hO.kept hS.2.1).warm hW⟩⟩, hS.F ht⟩) (fun q hq => hS.2.2 q hq) t_L_row_15
  have key : gG ρ cs G X 0 [(0, .ref (ρ 75)), (1, .int p1), (2, .ref (ρ 161))] [] w := by
    refine g_aload_n h 2 t_L_row_0 rfl ?_
    refine g_iconst (v := 0) h t_L_row_1 (by decide) ?_
    refine g_aload_n h 0 t_L_row_2 rfl ?_
    refine g_iload_n h 1 t_L_row_3 rfl ?_
    refine g_callVJ (d' := 1) h 75 (As := [.int p1]) (st := [.int 0, .ref (ρ 161)]) (o := some (w.2.1 83 p1.toNatClampNeg, w)) (K := fun x w1 => some (x, w1)) (rr := (w.2.1 83 p1.toNatClampNeg, w)) my_X11_row mi_X11_row (Or.inl ml_L_18) rfl (by decide) rfl rfl rfl (Nat.le_of_ble_eq_true rfl) (by decide) t_L_row_4 rfl (fun r w1 e => ?_) (fun x w1 hD => ?_)
    · cases e
      exact c_row hρ h1
    cases hD
    refine g_last (α := Wd) (K := fun w' => some w') (rr := (wJ w 161 0 (w.2.1 83 p1.toNatClampNeg))) h 161 rfl (by decide) t_L_row_7 (if_pos (by decide)) (fun w' e => ?_)
    cases e
    refine g_goto (tgt := 14) h t_L_row_8 (by decide) ?_
    refine g_iconst (v := 0) h t_L_row_14 (by decide) ?_
    exact last
  rw [hX] at key
  exact key s.heap [] ls hP va_S.rf hl
set_option maxRecDepth 20000 in
theorem xL_row {l0 : Launch} {ρ : Nat → Nat} {cs : Nat → ClassId} {G : va_G} {a : Nat → Nat} (hρ : injN ρ) {p1 : Int32} {w : Wd} (hfl : l0.stackTraces = false) (h1 : xnoL p1 w) : CtL l0 ρ cs G a y_L_row method_5_code [(0, 8, 11, 13)] [.ref (ρ 75), .int p1, .ref (ρ 161)] w 1 w := by
  refine x_ofWH (cc := method_5_code) (maxL := 4) (ret := some .int) (by decide) rfl ?_
  intro p e s m args below meth c s₁ B hml hv
  obtain ⟨rfl, ⟨hP, hK, hO⟩, hT⟩ := hv
  have hx := B.exec
  have hb := B.bytes
  have hr := B.returns
  have hts := atoms_spec (ws := wsL y_L_row method_5_code [(0, 8, 11, 13)]) B.pre
  have hown : s.vm.findClass "SowingBoardsLaw" = some m.cls := findClass_of_methodNamed B.named
  have hlocks := B.notSynchronized
  have hl := lv_entry [.ref (ρ 75), .int p1, .ref (ρ 161)] (n := 4) (Nat.le_of_ble_eq_true rfl)
  rw [lg_entry_eq]
  generalize (lg_sl [.ref (ρ 75), .int p1, .ref (ρ 161)] ++ List.replicate (4 - (lg_sl [.ref (ρ 75), .int p1, .ref (ρ 161)]).length) Slot.unset).toArray = ls at hl ⊢
  have hts' : ∀ w ∈ vtb, w.before (List.toArray [.ref (ρ 75), .int p1, .ref (ρ 161)]) s = true := fun w hw => hts w (List.mem_cons_of_mem _ hw)
  obtain ⟨X, hX⟩ : ∃ X : Cx, X = (p, l0, e, (headSpec (wsL y_L_row method_5_code [(0, 8, 11, 13)]) (rmx 2)).room, s, m, List.toArray [.ref (ρ 75), .int p1, .ref (ρ 161)], below, meth, c, 4, 0, 0, MQ below (va_Qi (fun (r' : Int32) (_ : Unit) => r' = 1) (fun _ t => Wld ρ cs G w t) (A0 ρ)) (List.toArray [.ref (ρ 75), .int p1, .ref (ρ 161)]) s 1 6 (A0 ρ)) := ⟨_, rfl⟩
  have h : Okx l0 ρ cs G X method_5_code "SowingBoardsLaw" 2 := by
    rw [hX]
    exact ⟨rfl, hx, hb, hml, hown, hts', hK, hρ, ⟨Nat.le_of_ble_eq_true rfl, Nat.le_of_ble_eq_true rfl, Nat.zero_le _, Nat.zero_le _⟩, hO⟩
  have htab : c.exceptionTable.toList = tableOf [(0, 8, 11, 13)] := vx_table (x := y_L_row) B (hts _ List.mem_cons_self)
  have key : gG ρ cs G X 0 [(0, .ref (ρ 75)), (1, .int p1), (2, .ref (ρ 161))] [] w := by
    refine g_aload_n h 2 t_L_row_0 rfl ?_
    refine g_iconst (v := 0) h t_L_row_1 (by decide) ?_
    refine g_aload_n h 0 t_L_row_2 rfl ?_
    refine g_iload_n h 1 t_L_row_3 rfl ?_
    rw [hX]
    intro H locs ls hP hS hl
    have hrec := va_recv hK hP (ci := 11) rfl (cells_get (ρ := ρ) (cs := cs) (w := w) (i := 75) (by decide) (cel_ob rfl))
    have hp : PreV s H "SowingBoards" (ρ 75) (va_Pc [.ref (ρ 75), .int p1] (WldT ρ cs G a w)) [.int p1] := ⟨wldT_blind, hrec, fun U hU hW => ⟨rfl, ⟨by rw [hU]; exact hP, va_K.moved hW.alike hK, by rw [hU]; exact (hO.kept hS.2.1).warm hW⟩, by rw [hU]; exact (hT.kept hS.2.1).warm hW⟩⟩
    refine vx_calll (vx_runV (As := [.int p1]) (rest := [.int 0, .ref (ρ 161)]) ⟨hx, hb, hml, hown, hts'⟩ (x_row (a := a) hρ hfl h1) ⟨callB_of 1 hts' (good_vtb my_X11_row.1) rfl rfl rfl (hts' _ my_X11_row.2.1) (hts' _ ml_L_18) my_X11_row.2.2.1 ⟨Nat.le_of_ble_eq_true rfl, Nat.le_of_ble_eq_true rfl⟩, hts' _ mi_X11_row.1, hts' _ mi_X11_row.2⟩ hp rfl rfl hl.1 rfl (lv_room (Nat.le_of_ble_eq_true rfl)) t_L_row_4 ⟨Nat.le_refl _, Nat.le_refl _⟩) hS (fun q _ z => z) (fun q z => z) (fun q _ z => z) (fun E ce q9 u t H1 locs1 ht hvm _ hB hz hk hS3 hc9 hv9 hcl => ?_) (fun r u t H1 locs1 ht hvm hw => hw.elim)
    obtain ⟨rfl, hP1⟩ := hB
    rw [ht] at hP1
    refine vx_catch (own := "SowingBoardsLaw") (name := xNS) hown [] { startPc := 0, endPc := 8, handlerPc := 11, catchType := 13 } [] (by rw [htab]; rfl) (fun z hz => nomatch hz) (by decide) (by decide) (hts' _ xlk) (va_tabs (xN_ot _ (by decide +kernel)) rfl (hT.2.2.2.2.2 (.castable xNS xNS) (by decide +kernel))) hc9 hv9 hcl ?_
    refine lv_astore_n (i := 3) hx hb t_L_row_11 rfl hl (by decide) rfl (fun ls hl => ?_)
    refine lv_iconst (v := 1) hx hb t_L_row_12 (by decide) ?_
    exact W.zret hx hb hr rfl (fun t ht hW => ⟨⟨(1 : Int32), (), rfl, rfl, ⟨by rw [ht]; exact hP1, va_K.moved hW.alike hK, by rw [ht]; exact (hO.kept hS3.2.1).warm hW⟩⟩, hS3.F ht⟩) (fun q hq => hS3.2.2 q hq) t_L_row_13
  rw [hX] at key
  exact key s.heap [] ls hP va_S.rf hl
