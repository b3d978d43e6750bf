/-! pit, store and row: where they answer, where they throw; the law's own three methods, which catch -/
abbrev xNS : String := "java/util/NoSuchElementException"
def xNM : List String := ["java/lang/RuntimeException", "java/lang/Exception"]
def xW : List Cond := (ex_at "SowingBoards" 201 xNS xNM 13 prog_32_method_4_code).filter vx_no
def xN : List Cond := [.declares (Bundle.initS "java/lang/RuntimeException"), .declares (Bundle.initS "java/lang/Exception"), .declares (Bundle.initS Bundle.tN), .castable xNS xNS]
set_option maxRecDepth 20000 in
theorem xW_at : xW = [161, 1272, 1281, 1283, 1286, 1288, 1273, 1274, 172, 173, 1275, 1280, 1284, 1304, 1262, 1305, 1264, 1306, 1266, 1276, 1278, 1268, 1300, 1301, 1303, 1268, 1291, 1292, 1293, 1294, 1254, 1294, 1295, 1296, 1297, 1256, 1297, 1298, 1299, 1300, 1258, 1290, 1251, 1252, 1259, 1260, 1261, 1263, 1265, 1267, 1271, 1270, 1269].filterMap (fun i => lw_tbl[i]?) := by decide +kernel
set_option maxRecDepth 20000 in
theorem xW_good : ∀ w ∈ xW, goodWord w = true ∨ w ∈ xN := by decide +kernel
set_option maxRecDepth 20000 in
theorem xW_ot : ∀ w ∈ Cond.classLink "SowingBoards" 197 xNS :: Cond.initialized xNS :: xW, vx_ot w = true := by decide +kernel
theorem xW_tbl : ∀ w ∈ xW, w ∈ lw_tbl := by
  intro w hw
  rw [xW_at] at hw
  obtain ⟨i, -, hi⟩ := List.mem_filterMap.mp hw
  exact List.mem_of_getElem? hi
theorem xN_at : xN = [1254, 1256, 1258, 1252].filterMap (fun i => lw_tbl[i]?) := by decide +kernel
theorem xN_ot : ∀ w ∈ xN, w.onTables = true := by decide +kernel
/-- what a throw needs of the state: the two statics, the three texts, the words that aren't among a method's own -/
def Thr (ρ : Nat → Nat) (a : Nat → Nat) (U : State) (H : Heap) : Prop := vx_Zq Bundle.tN "UNASSIGNED_STACK" Bundle.steD (A0 ρ) U H ∧ vx_Zq Bundle.tN "SUPPRESSED_SENTINEL" Bundle.listD (A0 ρ) U H ∧ vk_R "SowingBoards" 199 "no such pit" (a 0) U ∧ vk_R "SowingBoards" 204 "no such side" (a 1) U ∧ vk_R "SowingBoards" 451 "no such number" (a 2) U ∧ ∀ w ∈ xN, va_Nw w U
theorem xN_warm {s U : State} (hW : s.WarmedH U.vm) {w : Cond} (hw : w ∈ xN) (h : va_Nw w s) : va_Nw w U := by
  simp only [xN, List.mem_cons, List.not_mem_nil, or_false] at hw
  rcases hw with e | e | e | e <;> subst e
  · exact va_Nw.warmD hW h
  · exact va_Nw.warmD hW h
  · exact va_Nw.warmD hW h
  · exact va_Nw.warmC hW h
theorem xN_same {s U : State} (hv : s.vm = U.vm) {w : Cond} (hw : w ∈ xN) (h : va_Nw w s) : va_Nw w U := by
  simp only [xN, List.mem_cons, List.not_mem_nil, or_false] at hw
  rcases hw with e | e | e | e <;> subst e <;> exact va_Nw.same rfl hv h
theorem Thr.warm {ρ : Nat → Nat} {a : Nat → Nat} {s U : State} {H : Heap} (hW : s.WarmedH U.vm) (h : Thr ρ a s H) : Thr ρ a U H :=
  ⟨vx_Zq.moved hW.alike h.1, vx_Zq.moved hW.alike h.2.1, vk_R.warm hW h.2.2.1, vk_R.warm hW h.2.2.2.1, vk_R.warm hW h.2.2.2.2.1, fun w hw => xN_warm hW hw (h.2.2.2.2.2 w hw)⟩
theorem Thr.same {ρ : Nat → Nat} {a : Nat → Nat} {u U : State} {H : Heap} (hv : U.vm = u.vm) (ha : u.vm.Alike U.vm) (h : Thr ρ a u H) : Thr ρ a U H :=
  ⟨vx_Zq.moved ha h.1, vx_Zq.moved ha h.2.1, vk_R.same hv h.2.2.1, vk_R.same hv h.2.2.2.1, vk_R.same hv h.2.2.2.2.1, fun w hw => xN_same hv.symm hw (h.2.2.2.2.2 w hw)⟩
theorem Thr.kept {ρ : Nat → Nat} {a : Nat → Nat} {U : State} {H H1 : Heap} (h : Thr ρ a U H) (hq : ∀ x : Nat, x < H.size → ¬ A0 ρ x → H1[x]? = H[x]?) : Thr ρ a U H1 :=
  ⟨vx_Zq.kept h.1 hq, vx_Zq.kept h.2.1 hq, h.2.2⟩
def WldT (ρ : Nat → Nat) (cs : Nat → ClassId) (G : va_G) (a : Nat → Nat) (w : Wd) (U : State) : Prop := Wld ρ cs G w U ∧ Thr ρ a U U.heap
theorem wldT_blind {ρ : Nat → Nat} {cs : Nat → ClassId} {G : va_G} {a : Nat → Nat} {w : Wd} {av : List Value} : FrameBlind (va_Pc av (WldT ρ cs G a w)) := fun b U g mk q => ⟨q.1, ⟨q.2.1.1, va_K.moved (u := U) (U := U.calling g mk b) (Vm.Alike.refl U.vm) q.2.1.2.1, Old.same (u := U) (U := U.calling g mk b) rfl (Vm.Alike.refl U.vm) q.2.1.2.2⟩, Thr.same (u := U) (U := U.calling g mk b) rfl (Vm.Alike.refl U.vm) q.2.2⟩
abbrev rmx (d : Nat) : Room := { frames := d + 8, cells := 1, slots := 6, locals := 64 * (d + 8) }
/-- the world behind a throw -/
def XB (ρ : Nat → Nat) (cs : Nat → ClassId) (G : va_G) (w : Wd) : String → State → State → Prop := vx_X (fun _ : Unit => True) (fun E _ t => E = xNS ∧ va_P G vcls (cells ρ cs w) t.heap) (A0 ρ)
theorem x_hat {args : Array Value} {s : State} {ρ a : Nat → Nat} {H : Heap} (hts : ∀ w ∈ vtb, w.before args s = true) (hT : Thr ρ a s H) : ∀ w ∈ xW, w.before args s = true := by
  intro w hw
  rcases xW_good w hw with h | h
  · exact hts w (List.mem_filter.mpr ⟨xW_tbl w hw, h⟩)
  · exact va_tabs (xN_ot w h) rfl (hT.2.2.2.2.2 w h)
theorem xd0 : decode prog_32_method_4_code 0 = .ok (.aload_n 0, 1) := by decide +kernel
theorem xd1 : decode prog_32_method_4_code 1 = .ok (.aload_n 1, 1) := by decide +kernel
theorem xd2 : decode prog_32_method_4_code 2 = .ok (.invokespecial 13, 3) := by decide +kernel
theorem xd5 : decode prog_32_method_4_code 5 = .ok (.return_, 1) := by decide +kernel
theorem x_cl : Cond.classLink "SowingBoards" 197 xNS ∈ vtb := vtb_at 1250 (by decide +kernel) rfl
theorem x_in : Cond.initialized xNS ∈ vtb := vtb_at 164 (by decide +kernel) rfl
theorem xNM_fit : ∀ n ∈ xNM, Bundle.fit n = true := by decide +kernel
theorem x_thr {p : Program} {l : Launch} {e : Env} {R : Room} {s : State} {m : MethodId} {args : Array Value} {below : List Frame} {meth : Method} {c : Code} {H : Heap} {locs : List Loc} {cc : ByteArray} {pc is sa : Nat} {text : String} {ρ a : Nat → Nat} {cs : Nat → ClassId} {G : va_G} {w : Wd} {ls : Array Slot} {rest : List Value} {Qc : Array Value → State → Outcome → State → Prop}
    (hx : p.tables.exec = Jvm.exec) (hb : c.code = cc) (hfl : l.stackTraces = false) (hown : s.vm.findClass "SowingBoards" = some m.cls) (hts : ∀ w ∈ vtb, w.before args s = true) (hT : Thr ρ a s s.heap) (hstr : vk_R "SowingBoards" is text sa s) (hS : va_S (A0 ρ) s.heap H locs) (hP : va_P G vcls (cells ρ cs w) H) (hsize : ls.size = c.maxLocals)
    (hnt : ∀ x ∈ c.exceptionTable.toList, False) (hR : 8 ≤ R.frames ∧ 200 ≤ R.locals ∧ 1 ≤ R.cells ∧ 6 ≤ R.slots) (hrest : (rest.map fun v => v.category).sum ≤ 8) (hlocks : meth.locks = false)
    (d0 : decode cc pc = .ok (.new 197, 3)) (d3 : decode cc (pc + 3) = .ok (.dup, 1)) (d4 : decode cc (pc + 4) = .ok (.ldc is, 2)) (d6 : decode cc (pc + 6) = .ok (.invokespecial 201, 3)) (d9 : decode cc (pc + 9) = .ok (.athrow, 1)) :
    W p l e R s m args below meth c H locs 0 0 (vx_MQ below Qc (XB ρ cs G w) args s 1 6 (A0 ρ)) (F0 m pc ls rest) := by
  obtain ⟨r1, r2, r3, r4⟩ := hR
  refine ex_make (own := "SowingBoards") (cls := xNS) (names := xNM) (ik := 197) (ic := 201) (ix := 13) (rx := prog_32_method_4_code) (A := A0 ρ) hx hb hfl hown xd0 xd1 xd2 xd5 (by decide +kernel) xNM_fit (hts _ x_cl) (hts _ x_in) hstr (x_hat hts hT) xW_ot hT.1 hT.2.1 hS hsize d0 d3 d4 d6 (by show 2 + 3 < R.frames; omega) (by show (rest.map fun v => v.category).sum + (13 * (2 + 1) + 43) ≤ R.locals; omega) (by omega) (by omega) (fun q ce H1 hz ho hc hv hcl => ?_)
  refine ex_athrow hx hb d9 ?_
  refine vx_out (E := xNS) (ce := ce) (fun x h9 => (hnt x h9).elim) hlocks hc hv hcl (fun t ht hal => ?_) (fun z hz => hS.2.2 z hz) (Nat.le_refl _) (Nat.le_refl _)
  refine ⟨(), trivial, ⟨rfl, ?_⟩, ?_, fun q h1 h2 => ?_⟩
  · rw [ht]
    exact hP.kept fun k x hx => ho x.1 ((hP k x hx).lt)
  · rw [ht]
    exact Nat.le_trans hS.1 hz
  · rw [ht, ho q (Nat.lt_of_lt_of_le h1 hS.1)]
    exact hS.2.1 q h1 h2
theorem x_thrW {p : Program} {l : Launch} {e : Env} {R : Room} {s : State} {m : MethodId} {args : Array Value} {below : List Frame} {meth : Method} {c : Code} {H : Heap} {locs : List Loc} {cc : ByteArray} {pc is sa : Nat} {text : String} {ρ a : Nat → Nat} {cs : Nat → ClassId} {G : va_G} {w : Wd} {ls : Array Slot} {rest : List Value} {Qc : Array Value → State → Outcome → State → Prop}
    (hx : p.tables.exec = Jvm.exec) (hb : c.code = cc) (hfl : l.stackTraces = false) (hown : s.vm.findClass "SowingBoards" = some m.cls) (hts : ∀ w ∈ vtb, w.before args s = true) (hT : Thr ρ a s s.heap) (hstr : vk_R "SowingBoards" is text sa s) (hS : va_S (A0 ρ) s.heap H locs) (hP : va_P G vcls (cells ρ cs w) H) (hsize : ls.size = c.maxLocals)
    (hnt : ∀ x ∈ c.exceptionTable.toList, False) (hR : 8 ≤ R.frames ∧ 200 ≤ R.locals ∧ 1 ≤ R.cells ∧ 6 ≤ R.slots) (hrest : (rest.map fun v => v.category).sum ≤ 8) (hlocks : meth.locks = false)
    (d0 : decode cc pc = .ok (.new 197, 3)) (d3 : decode cc (pc + 3) = .ok (.dup, 1)) (d4 : decode cc (pc + 4) = .ok (.ldc_w is, 3)) (d6 : decode cc (pc + 7) = .ok (.invokespecial 201, 3)) (d9 : decode cc (pc + 10) = .ok (.athrow, 1)) :
    W p l e R s m args below meth c H locs 0 0 (vx_MQ below Qc (XB ρ cs G w) args s 1 6 (A0 ρ)) (F0 m pc ls rest) := by
  obtain ⟨r1, r2, r3, r4⟩ := hR
  refine ex_makeW (own := "SowingBoards") (cls := xNS) (names := xNM) (ik := 197) (ic := 201) (ix := 13) (rx := prog_32_method_4_code) (A := A0 ρ) hx hb hfl hown xd0 xd1 xd2 xd5 (by decide +kernel) xNM_fit (hts _ x_cl) (hts _ x_in) hstr (x_hat hts hT) xW_ot hT.1 hT.2.1 hS hsize d0 d3 d4 d6 (by show 2 + 3 < R.frames; omega) (by show (rest.map fun v => v.category).sum + (13 * (2 + 1) + 43) ≤ R.locals; omega) (by omega) (by omega) (fun q ce H1 hz ho hc hv hcl => ?_)
  refine ex_athrow hx hb d9 ?_
  refine vx_out (E := xNS) (ce := ce) (fun x h9 => (hnt x h9).elim) hlocks hc hv hcl (fun t ht hal => ?_) (fun z hz => hS.2.2 z hz) (Nat.le_refl _) (Nat.le_refl _)
  refine ⟨(), trivial, ⟨rfl, ?_⟩, ?_, fun q h1 h2 => ?_⟩
  · rw [ht]
    exact hP.kept fun k x hx => ho x.1 ((hP k x hx).lt)
  · rw [ht]
    exact Nat.le_trans hS.1 hz
  · rw [ht, ho q (Nat.lt_of_lt_of_le h1 hS.1)]
    exact hS.2.1 q h1 h2
def y_X11_pit : MethodName := ⟨"SowingBoards", "pit", "(I)I"⟩
theorem t_X11_pit_0 : decode prog_1_method_10_code 0 = .ok (.aload_n 0, 1) := by decide +kernel
theorem t_X11_pit_1 : decode prog_1_method_10_code 1 = .ok (.getfield 10, 3) := by decide +kernel
theorem t_X11_pit_4 : decode prog_1_method_10_code 4 = .ok (.iload_n 1, 1) := by decide +kernel
theorem t_X11_pit_5 : decode prog_1_method_10_code 5 = .ok (.invokevirtual 194, 3) := by decide +kernel
theorem t_X11_pit_8 : decode prog_1_method_10_code 8 = .ok (.ifCond .ne 13, 3) := by decide +kernel
theorem t_X11_pit_11 : decode prog_1_method_10_code 11 = .ok (.new 197, 3) := by decide +kernel
theorem t_X11_pit_14 : decode prog_1_method_10_code 14 = .ok (.dup, 1) := by decide +kernel
theorem t_X11_pit_15 : decode prog_1_method_10_code 15 = .ok (.ldc 199, 2) := by decide +kernel
theorem t_X11_pit_17 : decode prog_1_method_10_code 17 = .ok (.invokespecial 201, 3) := by decide +kernel
theorem t_X11_pit_20 : decode prog_1_method_10_code 20 = .ok (.athrow, 1) := by decide +kernel
theorem t_X11_pit_21 : decode prog_1_method_10_code 21 = .ok (.aload_n 0, 1) := by decide +kernel
theorem t_X11_pit_22 : decode prog_1_method_10_code 22 = .ok (.getfield 10, 3) := by decide +kernel
theorem t_X11_pit_25 : decode prog_1_method_10_code 25 = .ok (.getfield 120, 3) := by decide +kernel
theorem t_X11_pit_28 : decode prog_1_method_10_code 28 = .ok (.iload_n 1, 1) := by decide +kernel
theorem t_X11_pit_29 : decode prog_1_method_10_code 29 = .ok (.iaload, 1) := by decide +kernel
theorem t_X11_pit_30 : decode prog_1_method_10_code 30 = .ok (.ireturn, 1) := by decide +kernel
def y_X11_store : MethodName := ⟨"SowingBoards", "store", "(I)I"⟩
theorem t_X11_store_0 : decode prog_1_method_11_code 0 = .ok (.iload_n 1, 1) := by decide +kernel
theorem t_X11_store_1 : decode prog_1_method_11_code 1 = .ok (.ifCond .eq 18, 3) := by decide +kernel
theorem t_X11_store_4 : decode prog_1_method_11_code 4 = .ok (.iload_n 1, 1) := by decide +kernel
theorem t_X11_store_5 : decode prog_1_method_11_code 5 = .ok (.iconst 1, 1) := by decide +kernel
theorem t_X11_store_6 : decode prog_1_method_11_code 6 = .ok (.if_icmp .eq 13, 3) := by decide +kernel
theorem t_X11_store_9 : decode prog_1_method_11_code 9 = .ok (.new 197, 3) := by decide +kernel
theorem t_X11_store_12 : decode prog_1_method_11_code 12 = .ok (.dup, 1) := by decide +kernel
theorem t_X11_store_13 : decode prog_1_method_11_code 13 = .ok (.ldc 204, 2) := by decide +kernel
theorem t_X11_store_15 : decode prog_1_method_11_code 15 = .ok (.invokespecial 201, 3) := by decide +kernel
theorem t_X11_store_18 : decode prog_1_method_11_code 18 = .ok (.athrow, 1) := by decide +kernel
theorem t_X11_store_19 : decode prog_1_method_11_code 19 = .ok (.aload_n 0, 1) := by decide +kernel
theorem t_X11_store_20 : decode prog_1_method_11_code 20 = .ok (.getfield 10, 3) := by decide +kernel
theorem t_X11_store_23 : decode prog_1_method_11_code 23 = .ok (.getfield 155, 3) := by decide +kernel
theorem t_X11_store_26 : decode prog_1_method_11_code 26 = .ok (.iload_n 1, 1) := by decide +kernel
theorem t_X11_store_27 : decode prog_1_method_11_code 27 = .ok (.iaload, 1) := by decide +kernel
theorem t_X11_store_28 : decode prog_1_method_11_code 28 = .ok (.ireturn, 1) := by decide +kernel
def y_X11_row : MethodName := ⟨"SowingBoards", "row", "(I)J"⟩
theorem t_X11_row_0 : decode prog_1_method_76_code 0 = .ok (.iload_n 1, 1) := by decide +kernel
theorem t_X11_row_1 : decode prog_1_method_76_code 1 = .ok (.ifCond .lt 14, 3) := by decide +kernel
theorem t_X11_row_4 : decode prog_1_method_76_code 4 = .ok (.iload_n 1, 1) := by decide +kernel
theorem t_X11_row_5 : decode prog_1_method_76_code 5 = .ok (.aload_n 0, 1) := by decide +kernel
theorem t_X11_row_6 : decode prog_1_method_76_code 6 = .ok (.getfield 47, 3) := by decide +kernel
theorem t_X11_row_9 : decode prog_1_method_76_code 9 = .ok (.getfield 450, 3) := by decide +kernel
theorem t_X11_row_12 : decode prog_1_method_76_code 12 = .ok (.if_icmp .lt 14, 3) := by decide +kernel
theorem t_X11_row_15 : decode prog_1_method_76_code 15 = .ok (.new 197, 3) := by decide +kernel
theorem t_X11_row_18 : decode prog_1_method_76_code 18 = .ok (.dup, 1) := by decide +kernel
theorem t_X11_row_19 : decode prog_1_method_76_code 19 = .ok (.ldc_w 451, 3) := by decide +kernel
theorem t_X11_row_22 : decode prog_1_method_76_code 22 = .ok (.invokespecial 201, 3) := by decide +kernel
theorem t_X11_row_25 : decode prog_1_method_76_code 25 = .ok (.athrow, 1) := by decide +kernel
theorem t_X11_row_26 : decode prog_1_method_76_code 26 = .ok (.aload_n 0, 1) := by decide +kernel
theorem t_X11_row_27 : decode prog_1_method_76_code 27 = .ok (.getfield 47, 3) := by decide +kernel
theorem t_X11_row_30 : decode prog_1_method_76_code 30 = .ok (.getfield 453, 3) := by decide +kernel
theorem t_X11_row_33 : decode prog_1_method_76_code 33 = .ok (.iload_n 1, 1) := by decide +kernel
theorem t_X11_row_34 : decode prog_1_method_76_code 34 = .ok (.laload, 1) := by decide +kernel
theorem t_X11_row_35 : decode prog_1_method_76_code 35 = .ok (.lreturn, 1) := by decide +kernel
theorem fl_11_453 : FLk "SowingBoards" 453 3 0 := ⟨_, rfl, by decide, Or.inr ⟨"SowingBoards", vnl_at 257 (by decide +kernel) rfl⟩⟩
theorem pos0 : isPos 0 := ⟨by decide, rfl⟩
abbrev xokP (p1 : Int32) (w : Wd) : Prop := D_X5_hasPit 0 p1 w = some (1, w) ∧ ib p1 12 = true
abbrev xnoP (p1 : Int32) (w : Wd) : Prop := D_X5_hasPit 0 p1 w = some (0, w)
abbrev xokT (p1 : Int32) : Prop := (p1 = 0 ∨ p1 = 1) ∧ ib p1 2 = true
abbrev xnoT (p1 : Int32) : Prop := ¬ p1 = 0 ∧ ¬ p1 = 1
abbrev xokL (p1 : Int32) (w : Wd) : Prop := (¬ p1 < 0) ∧ p1 < w.1 82 1 ∧ ib p1 20 = true
abbrev xnoL (p1 : Int32) (w : Wd) : Prop := p1 < 0 ∨ ¬ p1 < w.1 82 1
set_option maxRecDepth 20000 in
theorem c_pit {l0 : Launch} {ρ : Nat → Nat} {cs : Nat → ClassId} {G : va_G} (hρ : injN ρ) {p1 : Int32} {w : Wd} (h1 : xokP p1 w) : CtI l0 ρ cs G y_X11_pit prog_1_method_10_code 2 .int 1 [.ref (ρ 75), .int p1] w (w.1 1 p1.toNatClampNeg) w := by
  refine ctI_of hρ (by decide) (Nat.le_of_ble_eq_true rfl) (fun X hn h hR => ?_)
  show gG ρ cs G X 0 [(0, .ref (ρ 75)), (1, .int p1)] [] w
  refine g_aload_n h 0 t_X11_pit_0 rfl ?_
  refine g_getR h 75 0 0 fl_11_10 rfl (by decide) rfl t_X11_pit_1 ?_
  refine g_iload_n h 1 t_X11_pit_4 rfl ?_
  refine g_callVI h 0 (As := [.int p1]) (st := []) (o := D_X5_hasPit 0 p1 w) (K := fun x w1 => some (x, w1)) (rr := (1, w)) my_X5_hasPit mi_X5_hasPit ml_11_194 rfl (by decide) rfl rfl rfl (Nat.le_of_ble_eq_true rfl) (by decide) t_X11_pit_5 (by rw [h1.1]; rfl) (fun _ _ e => S_X5_hasPit hρ pos0 e) (fun x w1 hD => ?_)
  cases hD
  refine g_if_ne (tgt := 21) (E := none) (B := some ()) (rr := ()) h t_X11_pit_8 (by decide) (if_neg (by decide)) (fun _ => ?_) (fun q => nomatch q)
  refine g_aload_n h 0 t_X11_pit_21 rfl ?_
  refine g_getR h 75 0 0 fl_11_10 rfl (by decide) rfl t_X11_pit_22 ?_
  refine g_getQ h 0 0 1 1 (by decide) rfl fl_11_120 rfl (by decide) rfl t_X11_pit_25 ?_
  refine g_iload_n h 1 t_X11_pit_28 rfl ?_
  refine g_iald (B := some ()) (rr := ()) h 1 rfl (by decide) t_X11_pit_29 (if_pos h1.2) (fun _ => ?_)
  exact hR _ _ t_X11_pit_30 rfl
set_option maxRecDepth 20000 in
theorem c_store {l0 : Launch} {ρ : Nat → Nat} {cs : Nat → ClassId} {G : va_G} (hρ : injN ρ) {p1 : Int32} {w : Wd} (h1 : xokT p1) : CtI l0 ρ cs G y_X11_store prog_1_method_11_code 2 .int 1 [.ref (ρ 75), .int p1] w (w.1 2 p1.toNatClampNeg) w := by
  refine ctI_of hρ (by decide) (Nat.le_of_ble_eq_true rfl) (fun X hn h hR => ?_)
  show gG ρ cs G X 0 [(0, .ref (ρ 75)), (1, .int p1)] [] w
  have key : gG ρ cs G X 19 [(0, .ref (ρ 75)), (1, .int p1)] [] w := by
    refine g_aload_n h 0 t_X11_store_19 rfl ?_
    refine g_getR h 75 0 0 fl_11_10 rfl (by decide) rfl t_X11_store_20 ?_
    refine g_getQ h 0 1 2 2 (by decide) rfl fl_11_155 rfl (by decide) rfl t_X11_store_23 ?_
    refine g_iload_n h 1 t_X11_store_26 rfl ?_
    refine g_iald (B := some ()) (rr := ()) h 2 rfl (by decide) t_X11_store_27 (if_pos h1.2) (fun _ => ?_)
    exact hR _ _ t_X11_store_28 rfl
  refine g_iload_n h 1 t_X11_store_0 rfl ?_
  by_cases e0 : p1 = 0
  · exact g_if_eq (tgt := 19) (B := some ()) (E := none) (rr := ()) h t_X11_store_1 (by decide) (if_pos e0) (fun _ => key) (fun q => nomatch q)
  · refine g_if_eq (tgt := 19) (B := none) (E := some ()) (rr := ()) h t_X11_store_1 (by decide) (if_neg e0) (fun q => nomatch q) (fun _ => ?_)
    refine g_iload_n h 1 t_X11_store_4 rfl ?_
    refine g_iconst (v := 1) h t_X11_store_5 (by decide) ?_
    exact g_icmp_eq (tgt := 19) (B := some ()) (E := none) (rr := ()) h t_X11_store_6 (by decide) (if_pos (h1.1.resolve_left e0)) (fun _ => key) (fun q => nomatch q)
set_option maxRecDepth 20000 in
theorem c_row {l0 : Launch} {ρ : Nat → Nat} {cs : Nat → ClassId} {G : va_G} (hρ : injN ρ) {p1 : Int32} {w : Wd} (h1 : xokL p1 w) : CtJ l0 ρ cs G y_X11_row prog_1_method_76_code 2 1 [.ref (ρ 75), .int p1] w (w.2.1 83 p1.toNatClampNeg) w := by
  refine ctJ_of hρ (by decide) (Nat.le_of_ble_eq_true rfl) (fun X hn h hR => ?_)
  show gG ρ cs G X 0 [(0, .ref (ρ 75)), (1, .int p1)] [] w
  refine g_iload_n h 1 t_X11_row_0 rfl ?_
  refine g_if_lt (tgt := 15) (B := none) (E := some ()) (rr := ()) h t_X11_row_1 (by decide) (if_neg h1.1) (fun q => nomatch q) (fun _ => ?_)
  refine g_iload_n h 1 t_X11_row_4 rfl ?_
  refine g_aload_n h 0 t_X11_row_5 rfl ?_
  refine g_getR h 75 7 82 fl_11_47 rfl (by decide) rfl t_X11_row_6 ?_
  refine g_getI h 82 1 fl_11_450 rfl (by decide) rfl t_X11_row_9 ?_
  refine g_icmp_lt (tgt := 26) (B := some ()) (E := none) (rr := ()) h t_X11_row_12 (by decide) (if_pos h1.2.1) (fun _ => ?_) (fun q => nomatch q)
  refine g_aload_n h 0 t_X11_row_26 rfl ?_
  refine g_getR h 75 7 82 fl_11_47 rfl (by decide) rfl t_X11_row_27 ?_
  refine g_getR h 82 0 83 fl_11_453 rfl (by decide) rfl t_X11_row_30 ?_
  refine g_iload_n h 1 t_X11_row_33 rfl ?_
  refine g_lald (B := some ()) (rr := ()) h 83 rfl (by decide) t_X11_row_34 (if_pos h1.2.2) (fun _ => ?_)
  exact hR _ _ t_X11_row_35
set_option maxRecDepth 20000 in
theorem x_pit {l0 : Launch} {ρ : Nat → Nat} {cs : Nat → ClassId} {G : va_G} (hρ : injN ρ) {p1 : Int32} {w : Wd} {a : Nat → Nat} (hfl : l0.stackTraces = false) (h1 : xnoP p1 w) : vx_Met l0 y_X11_pit (wsO y_X11_pit prog_1_method_10_code 2 (some .int)) (rmx 1) (va_Pc [.ref (ρ 75), .int p1] (WldT ρ cs G a w)) (va_Qi (fun (_ : Int32) (_ : Unit) => False) (fun _ t => Wld ρ cs G w t) (A0 ρ)) (XB ρ cs G w) 1 6 (A0 ρ) := by
  refine vx_ofW (cc := prog_1_method_10_code) (maxL := 2) (ret := (some .int)) (by decide) rfl ?_
  intro p e s m args below meth c s₁ B hml hnt hv
  obtain ⟨rfl, ⟨hP, hK, hO⟩, hT⟩ := hv
  have hx := B.exec
  have hb := B.bytes
  have hts := atoms_spec (ws := wsO y_X11_pit prog_1_method_10_code 2 (some .int)) B.pre
  have hown : s.vm.findClass "SowingBoards" = some m.cls := findClass_of_methodNamed B.named
  have hlocks := B.notSynchronized
  have hl := lv_entry [.ref (ρ 75), .int p1] (n := 2) (Nat.le_of_ble_eq_true rfl)
  rw [lg_entry_eq]
  generalize (lg_sl [.ref (ρ 75), .int p1] ++ List.replicate (2 - (lg_sl [.ref (ρ 75), .int p1]).length) Slot.unset).toArray = ls at hl ⊢
  have hts' : ∀ w ∈ vtb, w.before (List.toArray [.ref (ρ 75), .int p1]) s = true := fun w hw => hts w (List.mem_cons_of_mem _ hw)
  obtain ⟨X, hX⟩ : ∃ X : Cx, X = (p, l0, e, (headSpec (wsO y_X11_pit prog_1_method_10_code 2 (some .int)) (rmx 1)).room, s, m, List.toArray [.ref (ρ 75), .int p1], below, meth, c, 2, 0, 0, vx_MQ below (va_Qi (fun (_ : Int32) (_ : Unit) => False) (fun _ t => Wld ρ cs G w t) (A0 ρ)) (XB ρ cs G w) (List.toArray [.ref (ρ 75), .int p1]) s 1 6 (A0 ρ)) := ⟨_, rfl⟩
  have h : Okx l0 ρ cs G X prog_1_method_10_code "SowingBoards" 1 := by
    rw [hX]
    exact ⟨rfl, hx, hb, hml, hown, hts', hK, hρ, ⟨Nat.le_of_ble_eq_true rfl, Nat.le_of_ble_eq_true rfl, Nat.zero_le _, Nat.zero_le _⟩, hO⟩
  have last : gG ρ cs G X 11 [(0, .ref (ρ 75)), (1, .int p1)] [] w := by
    rw [hX]
    intro H locs ls hP hS hl
    exact x_thr hx hb hfl hown hts' hT (hT.2.2.1) hS hP (hl.1.trans hml.symm) hnt ⟨Nat.le_of_ble_eq_true rfl, Nat.le_of_ble_eq_true rfl, Nat.le_refl _, Nat.le_refl _⟩ (Nat.zero_le _) hlocks t_X11_pit_11 t_X11_pit_14 t_X11_pit_15 t_X11_pit_17 t_X11_pit_20
  have key : gG ρ cs G X 0 [(0, .ref (ρ 75)), (1, .int p1)] [] w := by
    refine g_aload_n h 0 t_X11_pit_0 rfl ?_
    refine g_getR h 75 0 0 fl_11_10 rfl (by decide) rfl t_X11_pit_1 ?_
    refine g_iload_n h 1 t_X11_pit_4 rfl ?_
    refine g_callVI h 0 (As := [.int p1]) (st := []) (o := D_X5_hasPit 0 p1 w) (K := fun x w1 => some (x, w1)) (rr := (0, w)) my_X5_hasPit mi_X5_hasPit ml_11_194 rfl (by decide) rfl rfl rfl (Nat.le_of_ble_eq_true rfl) (by decide) t_X11_pit_5 (by rw [h1]; rfl) (fun _ _ e => S_X5_hasPit hρ pos0 e) (fun x w1 hD => ?_)
    cases hD
    exact g_if_ne (tgt := 21) (E := some ()) (B := none) (rr := ()) h t_X11_pit_8 (by decide) (if_pos rfl) (fun q => nomatch q) (fun _ => last)
  rw [hX] at key
  exact key s.heap [] ls hP va_S.rf hl
set_option maxRecDepth 20000 in
theorem x_store {l0 : Launch} {ρ : Nat → Nat} {cs : Nat → ClassId} {G : va_G} (hρ : injN ρ) {p1 : Int32} {w : Wd} {a : Nat → Nat} (hfl : l0.stackTraces = false) (h1 : xnoT p1) : vx_Met l0 y_X11_store (wsO y_X11_store prog_1_method_11_code 2 (some .int)) (rmx 1) (va_Pc [.ref (ρ 75), .int p1] (WldT ρ cs G a w)) (va_Qi (fun (_ : Int32) (_ : Unit) => False) (fun _ t => Wld ρ cs G w t) (A0 ρ)) (XB ρ cs G w) 1 6 (A0 ρ) := by
  refine vx_ofW (cc := prog_1_method_11_code) (maxL := 2) (ret := (some .int)) (by decide) rfl ?_
  intro p e s m args below meth c s₁ B hml hnt hv
  obtain ⟨rfl, ⟨hP, hK, hO⟩, hT⟩ := hv
  have hx := B.exec
  have hb := B.bytes
  have hts := atoms_spec (ws := wsO y_X11_store prog_1_method_11_code 2 (some .int)) B.pre
  have hown : s.vm.findClass "SowingBoards" = some m.cls := findClass_of_methodNamed B.named
  have hlocks := B.notSynchronized
  have hl := lv_entry [.ref (ρ 75), .int p1] (n := 2) (Nat.le_of_ble_eq_true rfl)
  rw [lg_entry_eq]
  generalize (lg_sl [.ref (ρ 75), .int p1] ++ List.replicate (2 - (lg_sl [.ref (ρ 75), .int p1]).length) Slot.unset).toArray = ls at hl ⊢
  have hts' : ∀ w ∈ vtb, w.before (List.toArray [.ref (ρ 75), .int p1]) s = true := fun w hw => hts w (List.mem_cons_of_mem _ hw)
  obtain ⟨X, hX⟩ : ∃ X : Cx, X = (p, l0, e, (headSpec (wsO y_X11_store prog_1_method_11_code 2 (some .int)) (rmx 1)).room, s, m, List.toArray [.ref (ρ 75), .int p1], below, meth, c, 2, 0, 0, vx_MQ below (va_Qi (fun (_ : Int32) (_ : Unit) => False) (fun _ t => Wld ρ cs G w t) (A0 ρ)) (XB ρ cs G w) (List.toArray [.ref (ρ 75), .int p1]) s 1 6 (A0 ρ)) := ⟨_, rfl⟩
  have h : Okx l0 ρ cs G X prog_1_method_11_code "SowingBoards" 1 := by
    rw [hX]
    exact ⟨rfl, hx, hb, hml, hown, hts', hK, hρ, ⟨Nat.le_of_ble_eq_true rfl, Nat.le_of_ble_eq_true rfl, Nat.zero_le _, Nat.zero_le _⟩, hO⟩
  have last : gG ρ cs G X 9 [(0, .ref (ρ 75)), (1, .int p1)] [] w := by
    rw [hX]
    intro H locs ls hP hS hl
    exact x_thr hx hb hfl hown hts' hT (hT.2.2.2.1) hS hP (hl.1.trans hml.symm) hnt ⟨Nat.le_of_ble_eq_true rfl, Nat.le_of_ble_eq_true rfl, Nat.le_refl _, Nat.le_refl _⟩ (Nat.zero_le _) hlocks t_X11_store_9 t_X11_store_12 t_X11_store_13 t_X11_store_15 t_X11_store_18
  have key : gG ρ cs G X 0 [(0, .ref (ρ 75)), (1, .int p1)] [] w := by
    refine g_iload_n h 1 t_X11_store_0 rfl ?_
    refine g_if_eq (tgt := 19) (B := none) (E := some ()) (rr := ()) h t_X11_store_1 (by decide) (if_neg h1.1) (fun q => nomatch q) (fun _ => ?_)
    refine g_iload_n h 1 t_X11_store_4 rfl ?_
    refine g_iconst (v := 1) h t_X11_store_5 (by decide) ?_
    exact g_icmp_eq (tgt := 19) (B := none) (E := some ()) (rr := ()) h t_X11_store_6 (by decide) (if_neg h1.2) (fun q => nomatch q) (fun _ => last)
  rw [hX] at key
  exact key s.heap [] ls hP va_S.rf hl
set_option maxRecDepth 20000 in
theorem x_row {l0 : Launch} {ρ : Nat → Nat} {cs : Nat → ClassId} {G : va_G} (hρ : injN ρ) {p1 : Int32} {w : Wd} {a : Nat → Nat} (hfl : l0.stackTraces = false) (h1 : xnoL p1 w) : vx_Met l0 y_X11_row (wsO y_X11_row prog_1_method_76_code 2 (some .long)) (rmx 1) (va_Pc [.ref (ρ 75), .int p1] (WldT ρ cs G a w)) (va_Ql (fun (_ : Int64) (_ : Unit) => False) (fun _ t => Wld ρ cs G w t) (A0 ρ)) (XB ρ cs G w) 1 6 (A0 ρ) := by
  refine vx_ofW (cc := prog_1_method_76_code) (maxL := 2) (ret := (some .long)) (by decide) rfl ?_
  intro p e s m args below meth c s₁ B hml hnt hv
  obtain ⟨rfl, ⟨hP, hK, hO⟩, hT⟩ := hv
  have hx := B.exec
  have hb := B.bytes
  have hts := atoms_spec (ws := wsO y_X11_row prog_1_method_76_code 2 (some .long)) B.pre
  have hown : s.vm.findClass "SowingBoards" = some m.cls := findClass_of_methodNamed B.named
  have hlocks := B.notSynchronized
  have hl := lv_entry [.ref (ρ 75), .int p1] (n := 2) (Nat.le_of_ble_eq_true rfl)
  rw [lg_entry_eq]
  generalize (lg_sl [.ref (ρ 75), .int p1] ++ List.replicate (2 - (lg_sl [.ref (ρ 75), .int p1]).length) Slot.unset).toArray = ls at hl ⊢
  have hts' : ∀ w ∈ vtb, w.before (List.toArray [.ref (ρ 75), .int p1]) s = true := fun w hw => hts w (List.mem_cons_of_mem _ hw)
  obtain ⟨X, hX⟩ : ∃ X : Cx, X = (p, l0, e, (headSpec (wsO y_X11_row prog_1_method_76_code 2 (some .long)) (rmx 1)).room, s, m, List.toArray [.ref (ρ 75), .int p1], below, meth, c, 2, 0, 0, vx_MQ below (va_Ql (fun (_ : Int64) (_ : Unit) => False) (fun _ t => Wld ρ cs G w t) (A0 ρ)) (XB ρ cs G w) (List.toArray [.ref (ρ 75), .int p1]) s 1 6 (A0 ρ)) := ⟨_, rfl⟩
  have h : Okx l0 ρ cs G X prog_1_method_76_code "SowingBoards" 1 := by
    rw [hX]
    exact ⟨rfl, hx, hb, hml, hown, hts', hK, hρ, ⟨Nat.le_of_ble_eq_true rfl, Nat.le_of_ble_eq_true rfl, Nat.zero_le _, Nat.zero_le _⟩, hO⟩
  have last : gG ρ cs G X 15 [(0, .ref (ρ 75)), (1, .int p1)] [] w := by
    rw [hX]
    intro H locs ls hP hS hl
    exact x_thrW hx hb hfl hown hts' hT (hT.2.2.2.2.1) hS hP (hl.1.trans hml.symm) hnt ⟨Nat.le_of_ble_eq_true rfl, Nat.le_of_ble_eq_true rfl, Nat.le_refl _, Nat.le_refl _⟩ (Nat.zero_le _) hlocks t_X11_row_15 t_X11_row_18 t_X11_row_19 t_X11_row_22 t_X11_row_25
  have key : gG ρ cs G X 0 [(0, .ref (ρ 75)), (1, .int p1)] [] w := by
    refine g_iload_n h 1 t_X11_row_0 rfl ?_
    by_cases e0 : p1 < 0
    · exact g_if_lt (tgt := 15) (B := some ()) (E := none) (rr := ()) h t_X11_row_1 (by decide) (if_pos e0) (fun _ => last) (fun q => nomatch q)
    · refine g_if_lt (tgt := 15) (B := none) (E := some ()) (rr := ()) h t_X11_row_1 (by decide) (if_neg e0) (fun q => nomatch q) (fun _ => ?_)
      refine g_iload_n h 1 t_X11_row_4 rfl ?_
      refine g_aload_n h 0 t_X11_row_5 rfl ?_
      refine g_getR h 75 7 82 fl_11_47 rfl (by decide) rfl t_X11_row_6 ?_
      refine g_getI h 82 1 fl_11_450 rfl (by decide) rfl t_X11_row_9 ?_
      exact g_icmp_lt (tgt := 26) (B := none) (E := some ()) (rr := ()) h t_X11_row_12 (by decide) (if_neg (h1.resolve_left e0)) (fun q => nomatch q) (fun _ => last)
  rw [hX] at key
  exact key s.heap [] ls hP va_S.rf hl
