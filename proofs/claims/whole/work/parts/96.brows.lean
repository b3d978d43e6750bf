/-! building rows that make, write and call -/
section NM
variable {l0 : Launch} {cs : Nat → ClassId} {G : va_G} {X : Nx} {cc : ByteArray} {own : String} {d mc ms kc ks pc : Nat} {L L' : List (Nat × Value)} {st : List Value} {ws ws' tl : va_W} {x1 : Nat × va_E}
theorem n_dup (h : Okn l0 cs G X cc own d mc ms) {x : Nat} (hd : decode cc pc = .ok (.dup, 1))
    (kk : nG G X kc ks (pc + 1) L (.ref x :: .ref x :: st) ws) : nG G X kc ks pc L (.ref x :: st) ws := by
  obtain ⟨p, l, e, R, s, m, args, below, meth, c, n, A, Q⟩ := X
  obtain ⟨hll, hx, hb, hml, hown, hts, hB, hA, hR, hin⟩ := h
  intro H locs ls hP hD hS hl
  exact lv_dup hx hb hd rfl (kk H locs ls hP hD hS hl)
theorem n_new0 (h : Okn l0 cs G X cc own d mc ms) {idx ci N : Nat} {C : String} {T : u_T} (hc : vcls[ci]? = some (C, T, N)) (hlk : Cond.classLink own idx C ∈ vtb) (hi : Cond.instantiable C N ∈ vtb) (hini : Cond.initialized C ∈ vtb) (hfs : ∀ j, j < N → defaultValue (vty (T j).2.2.1) = vp_V (dfl ci) j) (hk1 : kc + 1 ≤ mc) (hk2 : ks + N ≤ ms) (hd : decode cc pc = .ok (.new idx, 3))
    (kk : ∀ q, nG G X (kc + 1) (ks + N) (pc + 3) L (.ref q :: st) ((q, .inr (ci, dfl ci)) :: tl)) : nG G X kc ks pc L st tl := by
  obtain ⟨p, l, e, R, s, m, args, below, meth, c, n, A, Q⟩ := X
  obtain ⟨hll, hx, hb, hml, hown, hts, hB, hA, hR, hin⟩ := h
  intro H locs ls hP hD hS hl
  have hm := List.mem_of_getElem? hc
  refine va_new (D := G) (cl := vcls) (ci := ci) (fs := dfl ci) (C := C) (T := T) (N := N) (Ts := vtb) hx hb hts (vcls_in _ hm) (fun k => vty (T k).2.2.1) (vcls_ty _ hm) hown (hts _ hlk) (hts _ hi) (hts _ hini) hB.1 hP hD hS hA hc hfs (Nat.le_trans hk1 hR.2.2.1) (Nat.le_trans hk2 hR.2.2.2) hd (fun q H1 hP1 hD1 hS1 => ?_)
  have pm : (tl ++ [(q, .inr (ci, dfl ci))] : va_W).Perm ((q, .inr (ci, dfl ci)) :: tl) := List.perm_append_singleton _ _
  exact kk q H1 locs ls (va_P_perm pm hP1) (va_D_perm pm hD1) hS1 hl
/-- the newborn is the list's second -/
theorem n_new (h : Okn l0 cs G X cc own d mc ms) {idx ci N : Nat} {C : String} {T : u_T} (hc : vcls[ci]? = some (C, T, N)) (hlk : Cond.classLink own idx C ∈ vtb) (hi : Cond.instantiable C N ∈ vtb) (hini : Cond.initialized C ∈ vtb) (hfs : ∀ j, j < N → defaultValue (vty (T j).2.2.1) = vp_V (dfl ci) j) (hk1 : kc + 1 ≤ mc) (hk2 : ks + N ≤ ms) (hd : decode cc pc = .ok (.new idx, 3))
    (kk : ∀ q, nG G X (kc + 1) (ks + N) (pc + 3) L (.ref q :: st) (x1 :: (q, .inr (ci, dfl ci)) :: tl)) : nG G X kc ks pc L st (x1 :: tl) :=
  n_new0 h hc hlk hi hini hfs hk1 hk2 hd (fun q => n_perm (List.Perm.swap _ _ _) (kk q))
theorem n_newa (h : Okn l0 cs G X cc own d mc ms) (t : Nat) {atype : ArrayType} {ty : FieldType} (hty : newarray.typeOf atype = ty) (ht : (tysO cs)[t]? = some (cs t, ty)) (hra : ∀ (U : State) (c : ClassId), va_RA U c ty → U.vm.findClass ("[" ++ ty.toString) = some c) (harr : Cond.arrayClass ty ∈ vtb) {n : Int32} {N' : Nat} {a0 : vp_A} (ha : ∀ cA : ClassId, vp_cell cA a0 = arrV cA N' (fun _ => defaultValue ty)) (hn : ¬ n < 0) (hN : n.toNatClampNeg = N') (hbytes : N' * componentBytes ty ≤ 536870912) (hk1 : kc + 1 ≤ mc) (hk2 : ks + N' ≤ ms) (hd : decode cc pc = .ok (.newarray atype, 2))
    (kk : ∀ q, nG G X (kc + 1) (ks + N') (pc + 2) L (.ref q :: st) (x1 :: (q, .inl (cs t, a0)) :: tl)) : nG G X kc ks pc L (.int n :: st) (x1 :: tl) := by
  obtain ⟨p, l, e, R, s, m, args, below, meth, c, n1, A, Q⟩ := X
  obtain ⟨hll, hx, hb, hml, hown, hts, hB, hA, hR, hin⟩ := h
  intro H locs ls hP hD hS hl
  subst hty
  refine va_newa (D := G) (cl := vcls) (atype := atype) (a0 := a0) hx hb (hts _ harr) rfl hB.1 hP hD hS hA ha hn hN hbytes (Nat.le_trans hk1 hR.2.2.1) (Nat.le_trans hk2 hR.2.2.2) hd (fun q cA H1 hK1 hP1 hD1 hS1 => ?_)
  have e1 := hra _ _ (hB.1.2 t _ ht).2
  have e2 := hra _ _ (hK1.2 (tysO cs).length _ (by rw [List.getElem?_append_right (Nat.le_refl _), Nat.sub_self]; rfl)).2
  have e3 : cA = cs t := Option.some.inj (e2.symm.trans e1)
  subst e3
  have pm : ((x1 :: tl) ++ [(q, .inl (cs t, a0))] : va_W).Perm (x1 :: (q, .inl (cs t, a0)) :: tl) := List.Perm.cons x1 (List.perm_append_singleton _ _)
  exact kk q H1 locs ls (va_P_perm pm hP1) (va_D_perm pm hD1) hS1 hl
theorem n_anew (h : Okn l0 cs G X cc own d mc ms) {idx : Nat} (hlk : Cond.classLink own idx "SowingBoards$Position" ∈ vtb) {n : Int32} {N' : Nat} (hn : ¬ n < 0) (hN : n.toNatClampNeg = N') (hbytes : N' * 4 ≤ 536870912) (hk1 : kc + 1 ≤ mc) (hk2 : ks + N' ≤ ms) (hd : decode cc pc = .ok (.anewarray idx, 3))
    (kk : ∀ q, nG G X (kc + 1) (ks + N') (pc + 3) L (.ref q :: st) (x1 :: (q, .inl (cs 4, N', .inr (.inr (.inr (.inr (fun _ => none)))))) :: tl)) : nG G X kc ks pc L (.int n :: st) (x1 :: tl) := by
  obtain ⟨p, l, e, R, s, m, args, below, meth, c, n1, A, Q⟩ := X
  obtain ⟨hll, hx, hb, hml, hown, hts, hB, hA, hR, hin⟩ := h
  intro H locs ls hP hD hS hl
  refine va_newq (D := G) (cl := vcls) (C := "SowingBoards$Position") hx hb hown (hts _ hlk) hB.2.2.1 hB.1 hP hD hS hA hn hN hbytes (Nat.le_trans hk1 hR.2.2.1) (Nat.le_trans hk2 hR.2.2.2) hd (fun q cA H1 hK1 hP1 hD1 hS1 => ?_)
  have e1 := (hB.1.2 4 _ rfl).2
  have e2 := (hK1.2 (tysO cs).length _ (by rw [List.getElem?_append_right (Nat.le_refl _), Nat.sub_self]; rfl)).2
  obtain ⟨_, _, -, -, -, e1⟩ := e1
  obtain ⟨_, _, -, -, -, e2⟩ := e2
  have e3 : cA = cs 4 := Option.some.inj (e2.symm.trans e1)
  subst e3
  have pm : ((x1 :: tl) ++ [(q, .inl (cs 4, N', .inr (.inr (.inr (.inr (fun _ => none))))))] : va_W).Perm (x1 :: (q, .inl (cs 4, N', .inr (.inr (.inr (.inr (fun _ => none)))))) :: tl) := List.Perm.cons x1 (List.perm_append_singleton _ _)
  exact kk q H1 locs ls (va_P_perm pm hP1) (va_D_perm pm hD1) hS1 hl
theorem n_putF (h : Okn l0 cs G X cc own d mc ms) {idx ci N a : Nat} {C : String} {T : u_T} {fs fs' : List Value} {v : Value} {ty : FieldType} (k : Nat) (hc : vcls[ci]? = some (C, T, N)) (hk : k < N) (hlk : Cond.fieldLink own idx (T k).1 (T k).2.1 (T k).2.2.1 ∈ vtb) (hfin : (T k).2.2.2 = true) (hdecl : (T k).1 = own) (hno : own ≠ "SowingBoardsLaw") (hmc : mc ≠ 0) (hty : parseFieldDescriptor (T k).2.2.1 = some ty) (hn : narrow ty v = v) (hfit : fits ty v = true) (hl0 : k < fs.length) (hs : fs.set k v = fs') (hd : decode cc pc = .ok (.putfield idx, 3))
    (kk : nG G X kc ks (pc + 3) L st ((a, .inr (ci, fs')) :: tl)) : nG G X kc ks pc L (v :: .ref a :: st) ((a, .inr (ci, fs)) :: tl) := by
  obtain ⟨p, l, e, R, s, m, args, below, meth, c, n, A, Q⟩ := X
  obtain ⟨hll, hx, hb, hml, hown, hts, hB, hA, hR, hin⟩ := h
  subst hs
  intro H locs ls hP hD hS hl
  have hm := List.mem_of_getElem? hc
  exact va_putF (D := G) (cl := vcls) (ci := ci) (v := v) (ty := ty) (C := C) (T := T) (N := N) (Ts := vtb) hx hb hts (vcls_in _ hm) (fun k => vty (T k).2.2.1) (vcls_ty _ hm) (vcls_nm _ hm) hown hB.1 hP hD hS 0 rfl hc k hk (hts _ hlk) (fun _ z => z) hfin ((hin.resolve_left hno).resolve_left hmc) hdecl hty hn hfit hl0 hd (fun H1 locs1 hP1 hD1 hS1 => kk H1 locs1 ls hP1 hD1 hS1 hl)
theorem n_putN (h : Okn l0 cs G X cc own d mc ms) {idx ci N a : Nat} {C : String} {T : u_T} {fs fs' : List Value} {v : Value} {ty : FieldType} (k : Nat) (hc : vcls[ci]? = some (C, T, N)) (hk : k < N) (hlk : Cond.fieldLink own idx (T k).1 (T k).2.1 (T k).2.2.1 ∈ vtb) (hfin : (T k).2.2.2 = false) (hty : parseFieldDescriptor (T k).2.2.1 = some ty) (hn : narrow ty v = v) (hfit : fits ty v = true) (hl0 : k < fs.length) (hs : fs.set k v = fs') (hd : decode cc pc = .ok (.putfield idx, 3))
    (kk : nG G X kc ks (pc + 3) L st ((a, .inr (ci, fs')) :: tl)) : nG G X kc ks pc L (v :: .ref a :: st) ((a, .inr (ci, fs)) :: tl) := by
  obtain ⟨p, l, e, R, s, m, args, below, meth, c, n, A, Q⟩ := X
  obtain ⟨hll, hx, hb, hml, hown, hts, hB, hA, hR, hin⟩ := h
  subst hs
  intro H locs ls hP hD hS hl
  have hm := List.mem_of_getElem? hc
  exact va_put (D := G) (cl := vcls) (ci := ci) (v := v) (ty := ty) (C := C) (T := T) (N := N) (Ts := vtb) hx hb hts (vcls_in _ hm) (fun k => vty (T k).2.2.1) (vcls_ty _ hm) (vcls_nm _ hm) hown hB.1 hP hD hS 0 rfl hc k hk (hts _ hlk) (fun _ z => z) hfin hty hn hfit hl0 hd (fun H1 locs1 hP1 hD1 hS1 => kk H1 locs1 ls hP1 hD1 hS1 hl)
theorem n_get (h : Okn l0 cs G X cc own d mc ms) {idx ci N a : Nat} {C : String} {T : u_T} {fs : List Value} {v : Value} (q0 k : Nat) (he : ws[q0]? = some (a, .inr (ci, fs))) (hc : vcls[ci]? = some (C, T, N)) (hk : k < N) (hlk : Cond.fieldLink own idx (T k).1 (T k).2.1 (T k).2.2.1 ∈ vtb) (hv : fs[k]? = some v) (hd : decode cc pc = .ok (.getfield idx, 3))
    (kk : nG G X kc ks (pc + 3) L (v :: st) ws) : nG G X kc ks pc L (.ref a :: st) ws := by
  obtain ⟨p, l, e, R, s, m, args, below, meth, c, n, A, Q⟩ := X
  obtain ⟨hll, hx, hb, hml, hown, hts, hB, hA, hR, hin⟩ := h
  intro H locs ls hP hD hS hl
  have hm := List.mem_of_getElem? hc
  exact va_get (D := G) (cl := vcls) (ci := ci) (v := v) (C := C) (T := T) (N := N) (Ts := vtb) hx hb hts (vcls_in _ hm) hown hB.1 hP q0 he hc k hk (hts _ hlk) (fun _ z => z) hv hd (kk H locs ls hP hD hS hl)
theorem n_aast (h : Okn l0 cs G X cc own d mc ms) {a n v : Nat} {vs : List Value} {f : Nat → Option Nat} {i : Int32} (q0 qk : Nat) (ha : ws[q0]? = some (a, .inl (cs 4, n, .inr (.inr (.inr (.inr f)))))) (hv : ws[qk]? = some (v, .inr (5, vs))) (hi : ib i n = true) (hw : ws.set q0 (a, .inl (cs 4, n, .inr (.inr (.inr (.inr (va_up f i.toNatClampNeg (some v))))))) = ws') (hd : decode cc pc = .ok (.aastore, 1))
    (kk : nG G X kc ks (pc + 1) L st ws') : nG G X kc ks pc L (.ref v :: .int i :: .ref a :: st) ws := by
  obtain ⟨p, l, e, R, s, m, args, below, meth, c, n1, A, Q⟩ := X
  obtain ⟨hll, hx, hb, hml, hown, hts, hB, hA, hR, hin⟩ := h
  intro H locs ls hP hD hS hl
  subst hw
  exact va_astq (D := G) (cl := vcls) hx hb hB.1 hP hD hS q0 4 qk 5 ha rfl hv (r := (kR5, kF5, 5)) rfl (ib_in hi) hd (fun H1 locs1 hP1 hD1 hS1 => kk H1 locs1 ls hP1 hD1 hS1 hl)
theorem n_iast (h : Okn l0 cs G X cc own d mc ms) {a n : Nat} {f : Nat → Int32} {i x : Int32} (q0 : Nat) (ha : ws[q0]? = some (a, .inl (cs 0, n, .inl f))) (hi : ib i n = true) (hw : ws.set q0 (a, .inl (cs 0, n, .inl (upd f i.toNatClampNeg x))) = ws') (hd : decode cc pc = .ok (.iastore, 1))
    (kk : nG G X kc ks (pc + 1) L st ws') : nG G X kc ks pc L (.int x :: .int i :: .ref a :: st) ws := by
  obtain ⟨p, l, e, R, s, m, args, below, meth, c, n1, A, Q⟩ := X
  obtain ⟨hll, hx, hb, hml, hown, hts, hB, hA, hR, hin⟩ := h
  intro H locs ls hP hD hS hl
  subst hw
  exact va_iast (D := G) (cl := vcls) hx hb hB.1 hP hD hS q0 0 ha rfl (ib_in hi) hd (fun H1 locs1 hP1 hD1 hS1 => kk H1 locs1 ls hP1 hD1 hS1 hl)
theorem n_alen (h : Okn l0 cs G X cc own d mc ms) {a n : Nat} {f : Nat → Option Nat} {v : Int32} (q0 : Nat) (ha : ws[q0]? = some (a, .inl (cs 4, n, .inr (.inr (.inr (.inr f)))))) (hv : Int32.ofNat n = v) (hd : decode cc pc = .ok (.arraylength, 1))
    (kk : nG G X kc ks (pc + 1) L (.int v :: st) ws) : nG G X kc ks pc L (.ref a :: st) ws := by
  obtain ⟨p, l, e, R, s, m, args, below, meth, c, n1, A, Q⟩ := X
  obtain ⟨hll, hx, hb, hml, hown, hts, hB, hA, hR, hin⟩ := h
  intro H locs ls hP hD hS hl
  exact va_alen (D := G) (cl := vcls) hx hb hB.1 hP q0 4 ha (ty := .object "SowingBoards$Position") rfl hv hd (kk H locs ls hP hD hS hl)
theorem n_min (h : Okn l0 cs G X cc own d mc ms) {idx : Nat} {x y v : Int32} (hlk : Cond.methodLink own idx Lib.Math.min.name ∈ vtb) (hs : Cond.static Lib.Math.min.name ∈ vtb) (hi : Cond.initialized "java/lang/Math" ∈ vtb) (hc : Cond.code Lib.Math.min.name Lib.Math.min.code 2 (some .int) ∈ vtb) (hcat : (st.map fun v => v.category).sum ≤ 8) (hk1 : kc ≤ mc) (hk2 : ks ≤ ms) (hd : decode cc pc = .ok (.invokestatic idx, 3)) (hv : (if y < x then y else x) = v)
    (kk : nG G X kc ks (pc + 3) L (.int v :: st) ws) : nG G X kc ks pc L (.int y :: .int x :: st) ws := by
  obtain ⟨p, l, e, R, s, m, args, below, meth, c, n1, A, Q⟩ := X
  obtain ⟨hll, hx, hb, hml, hown, hts, hB, hA, hR, hin⟩ := h
  intro H locs ls hP hD hS hl
  subst hv
  obtain ⟨r1, r2, r3, r4⟩ := hR
  exact va_mmin hx hb (by rw [hml]; exact hl.1.symm) hown (hts _ hlk) (hts _ hs) (hts _ hi) (hts _ hc) (by omega) (by omega) (by omega) (by omega) hd (kk H locs ls hP hD hS hl)
theorem n_multi (h : Okn l0 cs G X cc own d mc ms) {idx : Nat} (hlk : Cond.classLink own idx "[[I" ∈ vtb) (harr : Cond.arrayClass .int ∈ vtb) {n k : Int32} {N K : Nat} (hn : ¬ n < 0) (hk : ¬ k < 0) (hN : n.toNatClampNeg = N) (hK : k.toNatClampNeg = K) (b1 : N ≤ 1000) (b2 : K ≤ 1000) (hk1 : kc + (1 + N) ≤ mc) (hk2 : ks + (N + N * K) ≤ ms) (hd : decode cc pc = .ok (.multianewarray idx 2, 4))
    (kk : ∀ q, nG G X (kc + 1 + N) (ks + N + N * K) (pc + 4) L (.ref q :: st) (x1 :: (q, .inl (cs 5, N, .inr (.inr (.inr (.inr (fun j => if j < N then some (q + 1 + j) else none)))))) :: ((List.range N).map (fun j => (q + 1 + j, .inl (cs 0, K, .inl (fun _ => 0)))) ++ tl))) : nG G X kc ks pc L (.int k :: .int n :: st) (x1 :: tl) := by
  obtain ⟨p, l, e, R, s, m, args, below, meth, c, n1, A, Q⟩ := X
  obtain ⟨hll, hx, hb, hml, hown, hts, hB, hA, hR, hin⟩ := h
  intro H locs ls hP hD hS hl
  subst hN; subst hK
  have hover : (Cond.arrayOver (.array .int)).before args s = true := hB.2.2.2
  refine mg_row hx hb hown (hts _ hlk) hover (hts _ harr) hn hk b1 b2 (Nat.le_trans hk1 hR.2.2.1) (Nat.le_trans hk2 hR.2.2.2) hd (fun H1 cA cI fA fI hz ho h0 h1 => ?_)
  have eA : cA = cs 5 := by
    have := (hB.1.2 5 _ rfl).2
    have e2 : s.vm.findClass ("[" ++ (FieldType.array .int).toString) = some (cs 5) := this
    have e3 : "[" ++ (FieldType.array .int).toString = "[[I" := by decide +kernel
    rw [e3] at e2
    exact Option.some.inj (fA.symm.trans e2)
  have eI : cI = cs 0 := by
    have := (hB.1.2 0 _ rfl).2
    have e2 : s.vm.findClass ("[" ++ FieldType.int.toString) = some (cs 0) := this
    have e3 : "[" ++ FieldType.int.toString = "[I" := by decide +kernel
    rw [e3] at e2
    exact Option.some.inj (fI.symm.trans e2)
  subst eA; subst eI
  have hlt : ∀ y ∈ (x1 :: tl), y.1 < H.size := fun y hy => (va_P_mem.mp hP y hy).lt
  have hPm := va_P_mem.mp hP
  refine kk H.size H1 locs ls (va_P_mem.mpr ?_) (va_D_pw.mpr ⟨?_, ?_⟩) ⟨Nat.le_trans hS.1 (by omega), fun y h2 h3 => (ho y (Nat.lt_of_lt_of_le h2 hS.1)).trans (hS.2.1 y h2 h3), hS.2.2⟩ hl
  · intro y hy
    simp only [List.mem_cons, List.mem_append, List.mem_map, List.mem_range] at hy
    have old : ∀ y ∈ (x1 :: tl), va_at G vcls y H1 := fun y hy => (hPm y hy).kept (ho _ (hlt y hy))
    rcases hy with rfl | rfl | ⟨j, hj, rfl⟩ | hy
    · exact old _ List.mem_cons_self
    · show H1[H.size]? = some (vp_cell _ _)
      rw [h0, vp_cell_q]
      exact congrArg some (mg_congr fun j hj => by rw [if_pos hj]; rfl)
    · show H1[H.size + 1 + j]? = some (vp_cell _ _)
      rw [h1 j hj]
      rfl
    · exact old _ (List.mem_cons_of_mem _ hy)
  · have hpw := (va_D_pw.mp hD).1
    rw [List.pairwise_cons] at hpw ⊢
    refine ⟨fun y hy => ?_, List.pairwise_cons.mpr ⟨fun y hy => ?_, List.pairwise_append.mpr ⟨?_, hpw.2, fun y hy z hz => ?_⟩⟩⟩
    · have hx1 := hlt x1 List.mem_cons_self
      rcases List.mem_cons.mp hy with rfl | hy
      · exact Nat.ne_of_lt hx1
      · rcases List.mem_append.mp hy with hy | hy
        · obtain ⟨j, hj, rfl⟩ := List.mem_map.mp hy
          show x1.1 ≠ H.size + 1 + j
          omega
        · exact hpw.1 y hy
    · rcases List.mem_append.mp hy with hy | hy
      · obtain ⟨j, hj, rfl⟩ := List.mem_map.mp hy
        show H.size ≠ H.size + 1 + j
        omega
      · have := hlt y (List.mem_cons_of_mem _ hy)
        exact Nat.ne_of_gt this
    · rw [List.pairwise_map]
      exact List.pairwise_lt_range.imp (fun {a b} h => by show H.size + 1 + a ≠ H.size + 1 + b; omega)
    · obtain ⟨j, hj, rfl⟩ := List.mem_map.mp hy
      have := hlt z (List.mem_cons_of_mem _ hz)
      show H.size + 1 + j ≠ z.1
      omega
  · have hAm := (va_D_pw.mp hD).2
    have hsz := hS.1
    intro y hy
    simp only [List.mem_cons, List.mem_append, List.mem_map, List.mem_range] at hy
    rcases hy with rfl | rfl | ⟨j, hj, rfl⟩ | hy
    · exact hAm _ List.mem_cons_self
    · exact hA _ hsz
    · exact hA _ (by show s.heap.size ≤ H.size + 1 + j; omega)
    · exact hAm _ (List.mem_cons_of_mem _ hy)
/-- a constructor that is called on the newborn, the list's first -/
theorem n_call0 (h : Okn l0 cs G X cc own d mc ms) {idx n maxL ci d' mc' ms' q : Nat} {y : MethodName} {bytes : ByteArray} {As : List Value} {stk : List Value} {res : Nat → va_W → Prop} (hM : CtN l0 cs G y bytes maxL ci As d' mc' ms' res) (hlk : ML own idx y) (hy : MY y bytes maxL none n) (hi : Cond.instanceMethod y ∈ vtb) (hyn : y.name = "<init>") (hAs : As.length = n) (hst : stk = As.reverse ++ .ref q :: st) (hcat : (st.map fun v => v.category).sum ≤ 8) (hdd : d' < d) (hk1 : kc + mc' ≤ mc) (hk2 : ks + ms' ≤ ms) (hd : decode cc pc = .ok (.invokespecial idx, 3))
    (kk : ∀ w1, res q w1 → nG G X (kc + mc') (ks + ms') (pc + 3) L st (w1 ++ tl)) : nG G X kc ks pc L stk ((q, .inr (ci, dfl ci)) :: tl) := by
  obtain ⟨p, l, e, R, s, m, args, below, meth, c, n1, A, Q⟩ := X
  obtain ⟨hll, hx, hb, hml, hown, hts, hB, hA, hR, hin⟩ := h
  subst hll
  intro H locs ls hP hD hS hl
  obtain ⟨y1, y2, y3, y4⟩ := hy
  have hroom : (rmn d' mc' ms').frames + 1 ≤ R.frames ∧ 8 + (maxL + 11) + (rmn d' mc' ms').locals ≤ R.locals := by
    obtain ⟨r1, r2, -, -⟩ := hR
    show d' + 1 + 1 ≤ R.frames ∧ 8 + (maxL + 11) + 64 * (d' + 1) ≤ R.locals
    omega
  have hcs : kc + mc' ≤ R.cells ∧ ks + ms' ≤ R.slots := ⟨Nat.le_trans hk1 hR.2.2.1, Nat.le_trans hk2 hR.2.2.2⟩
  have hPm := va_P_mem.mp hP
  have hPc : va_P G vcls [(q, .inr (ci, dfl ci))] H := va_P_mem.mpr fun z hz => by
    rw [List.mem_singleton.mp hz]
    exact hPm _ List.mem_cons_self
  have hp : PreS s H (va_Pc (.ref q :: As) (fun U => U.heap.size = H.size ∧ va_P G vcls [(q, .inr (ci, dfl ci))] U.heap ∧ Bld cs G U)) (.ref q :: As) := ⟨ctN_blind, fun U hU hW => ⟨rfl, by rw [hU], by rw [hU]; exact hPc, hB.warm hW⟩⟩
  have hrun : va_Run p l e R s m args below meth c H locs kc ks mc' ms' (F0 m pc ls stk) st (va_Qv (fun _ : Unit => True) (fun _ t => ∃ w1, res q w1 ∧ va_P G vcls w1 t.heap ∧ va_D (va_A [(q, .inr (ci, dfl ci))] H.size) w1) (va_A [(q, .inr (ci, dfl ci))] H.size) (Value.ref q :: As).toArray) (va_A [(q, .inr (ci, dfl ci))] H.size) := by
    rcases hlk with hlk | ⟨host, hlk⟩
    · exact va_runI ⟨hx, hb, hml, hown, hts⟩ (hM q H.size) ⟨callB_of n hts (good_vtb y1) rfl rfl rfl (hts _ y2) (hts _ hlk) y3 hroom, hyn, hts _ hi⟩ hp rfl hAs hl.1 hst (lv_room hcat) hd hcs
    · exact va_runIN ⟨hx, hb, hml, hown, hts⟩ (hM q H.size) ⟨va_cnB n hts (good_vtb y1) rfl rfl rfl (hB.2.1 _ hlk) (hts _ y2) y3 hroom, hyn, hts _ hi⟩ hp rfl hAs hl.1 hst (lv_room hcat) hd hcs
  have hDp := va_D_pw.mp hD
  have hqA : A q := hDp.2 _ List.mem_cons_self
  have hAA : ∀ z, va_A [(q, .inr (ci, dfl ci))] H.size z → A z := by
    rintro z (⟨k, e0, hk⟩ | hz)
    · have hk1 : k < 1 := (List.getElem?_eq_some_iff.mp hk).1
      rw [show k = 0 by omega] at hk
      cases hk
      exact hqA
    · exact hA _ (Nat.le_trans hS.1 hz)
  refine va_callv hrun hS (fun z _ hz => hAA z hz) hAA (fun u t H1 locs1 ht hvm hw hB1 hz hk hS3 => ?_)
  obtain ⟨w1, hres, hP1, hD1⟩ := hB1
  rw [ht] at hP1
  have hPm1 := va_P_mem.mp hP1
  have hDp1 := va_D_pw.mp hD1
  have hpw := hDp.1
  rw [List.pairwise_cons] at hpw
  have hne : ∀ z, z ∈ tl → z.1 < H.size ∧ z.1 ≠ q := fun z hz => ⟨(hPm z (List.mem_cons_of_mem _ hz)).lt, fun e => hpw.1 _ hz e.symm⟩
  have hout : ∀ z, z ∈ tl → ¬ va_A [(q, .inr (ci, dfl ci))] H.size z.1 := by
    intro z hz hv
    rcases hv with ⟨k, e0, hk⟩ | hv
    · have hk1 : k < 1 := (List.getElem?_eq_some_iff.mp hk).1
      rw [show k = 0 by omega] at hk
      have := congrArg Prod.fst (Option.some.inj hk)
      exact (hne z hz).2 this.symm
    · exact absurd (hne z hz).1 (Nat.not_lt.mpr hv)
  refine kk w1 hres H1 locs1 ls (va_P_mem.mpr fun z hz => ?_) (va_D_pw.mpr ⟨?_, fun z hz => ?_⟩) hS3 hl
  · rcases List.mem_append.mp hz with hz | hz
    · exact hPm1 z hz
    · exact (hPm _ (List.mem_cons_of_mem _ hz)).kept (hk _ (hne _ hz).1 (hout _ hz))
  · refine List.pairwise_append.mpr ⟨hDp1.1, hpw.2, fun y hy z hz e0 => ?_⟩
    exact hout z hz (by rw [← e0]; exact hDp1.2 y hy)
  · rcases List.mem_append.mp hz with hz | hz
    · exact hAA _ (hDp1.2 z hz)
    · exact hDp.2 _ (List.mem_cons_of_mem _ hz)
/-- .. the list's second -/
theorem n_call (h : Okn l0 cs G X cc own d mc ms) {idx n maxL ci d' mc' ms' q : Nat} {y : MethodName} {bytes : ByteArray} {As : List Value} {stk : List Value} {res : Nat → va_W → Prop} (hM : CtN l0 cs G y bytes maxL ci As d' mc' ms' res) (hlk : ML own idx y) (hy : MY y bytes maxL none n) (hi : Cond.instanceMethod y ∈ vtb) (hyn : y.name = "<init>") (hAs : As.length = n) (hst : stk = As.reverse ++ .ref q :: st) (hcat : (st.map fun v => v.category).sum ≤ 8) (hdd : d' < d) (hk1 : kc + mc' ≤ mc) (hk2 : ks + ms' ≤ ms) (hd : decode cc pc = .ok (.invokespecial idx, 3))
    (kk : ∀ w1, res q w1 → nG G X (kc + mc') (ks + ms') (pc + 3) L st (x1 :: (w1 ++ tl))) : nG G X kc ks pc L stk (x1 :: (q, .inr (ci, dfl ci)) :: tl) :=
  n_perm (List.Perm.swap _ _ _) (n_call0 h hM hlk hy hi hyn hAs hst hcat hdd hk1 hk2 hd (fun w1 hr => n_perm List.perm_middle (kk w1 hr)))
end NM
