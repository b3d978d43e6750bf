/-! methods that make nothing, over a few cells of a larger list -/
theorem perm_idx {l1 l2 : va_W} (σ : List Nat) (n : Nat) (hl : l1.length = n) (hσ : σ.Perm (List.range n)) (h2 : σ.map (fun i => l1.getD i (0, .inr (0, []))) = l2) : l1.Perm l2 := by
  have e : (List.range n).map (fun i => l1.getD i (0, .inr (0, []))) = l1 := by
    subst hl
    apply List.ext_getElem?
    intro j
    rw [List.getElem?_map]
    by_cases hj : j < l1.length
    · rw [List.getElem?_range hj]
      simp [List.getElem?_eq_getElem hj]
    · have h0 : (List.range l1.length)[j]? = none := by simp; omega
      rw [h0, List.getElem?_eq_none (by omega)]
      rfl
  rw [← h2]
  exact (List.Perm.of_eq e.symm).trans (hσ.map _).symm
def CtSV (l : Launch) (cs : Nat → ClassId) (G : va_G) (y : MethodName) (cc : ByteArray) (maxL : Nat) (av : List Value) (d : Nat) (ws0 ws1 : va_W) : Prop := ∀ sz : Nat,
  Met l y (wsO y cc maxL none) (rmn d 0 0) (va_Pc av (fun U => U.heap.size = sz ∧ va_P G vcls ws0 U.heap ∧ Bld cs G U)) (va_Qv (fun _ : Unit => True) (fun _ t => va_P G vcls ws1 t.heap) (va_A ws0 sz)) 0 0 (va_A ws0 sz)
def CtSI (l : Launch) (cs : Nat → ClassId) (G : va_G) (y : MethodName) (cc : ByteArray) (maxL : Nat) (ty : FieldType) (av : List Value) (d : Nat) (ws0 ws1 : va_W) (r : Int32) : Prop := ∀ sz : Nat,
  Met l y (wsO y cc maxL (some ty)) (rmn d 0 0) (va_Pc av (fun U => U.heap.size = sz ∧ va_P G vcls ws0 U.heap ∧ Bld cs G U)) (va_Qi (fun (r' : Int32) (_ : Unit) => r' = r) (fun _ t => va_P G vcls ws1 t.heap) (va_A ws0 sz)) 0 0 (va_A ws0 sz)
theorem ctS_blind {cs : Nat → ClassId} {G : va_G} {sz : Nat} {ws : va_W} {As : List Value} : FrameBlind (va_Pc As (fun U => U.heap.size = sz ∧ va_P G vcls ws U.heap ∧ Bld cs G U)) := fun b U g mk q => ⟨q.1, q.2.1, q.2.2.1, Bld.same (u := U) (U := U.calling g mk b) rfl (Vm.Alike.refl U.vm) q.2.2.2⟩
theorem own_D {ws : va_W} {sz : Nat} (h : ws.Pairwise (fun p q => p.1 ≠ q.1)) : va_D (va_A ws sz) ws := va_D_pw.mpr ⟨h, fun q hq => by
  obtain ⟨k, hk⟩ := List.getElem?_of_mem hq
  exact Or.inl ⟨k, q.2, hk⟩⟩
theorem ctSV_of {l : Launch} {cs : Nat → ClassId} {G : va_G} {y : MethodName} {cc : ByteArray} {maxL : Nat} {av : List Value} {d : Nat} {ws0 ws1 : va_W} (hpw : ws0.Pairwise (fun p q => p.1 ≠ q.1)) (hy : plainName y.cls = true) (hav : (lg_sl av).length ≤ maxL)
    (body : ∀ X : Nx, X.2.2.2.2.2.2.2.2.2.2.1 = maxL → Okn l cs G X cc y.cls d 0 0 → (∀ pc L, decode cc pc = .ok (.return_, 1) → nG G X 0 0 pc L [] ws1) → nG G X 0 0 0 (lv_args 0 av) [] ws0) : CtSV l cs G y cc maxL av d ws0 ws1 := by
  intro sz
  refine Met.ofW (cc := cc) (maxL := maxL) (ret := none) hy rfl ?_
  intro p e s m args below meth c s₁ B hml hv
  obtain ⟨rfl, hsz, hP, hB⟩ := hv
  have hx := B.exec
  have hb := B.bytes
  have hr := B.returns
  have hts := atoms_spec (ws := wsO y cc maxL none) B.pre
  have hown : s.vm.findClass y.cls = some m.cls := findClass_of_methodNamed B.named
  have hlocks := B.notSynchronized
  subst hsz
  have hl := lv_entry av hav
  rw [lg_entry_eq]
  generalize (lg_sl av ++ List.replicate (maxL - (lg_sl av).length) Slot.unset).toArray = ls at hl ⊢
  refine body (p, l, e, _, s, m, _, below, meth, c, maxL, va_A ws0 s.heap.size, _) rfl ⟨rfl, hx, hb, hml, hown, fun w hw => hts w (List.mem_cons_of_mem _ hw), hB, fun q hq => Or.inr hq, ⟨Nat.le_refl _, Nat.le_refl _, Nat.le_refl _, Nat.le_refl _⟩, Or.inr (Or.inl rfl)⟩ ?_ s.heap [] ls hP (own_D hpw) va_S.rf hl
  intro pc L hd H locs ls hP hD hS hl
  exact W.vret hx hb hr (fun t ht hW => ⟨⟨(), rfl, trivial, by show va_P G vcls ws1 t.heap; rw [ht]; exact hP⟩, hS.F ht⟩) hS.2.2 hd
theorem ctSI_of {l : Launch} {cs : Nat → ClassId} {G : va_G} {y : MethodName} {cc : ByteArray} {maxL : Nat} {ty : FieldType} {av : List Value} {d : Nat} {ws0 ws1 : va_W} {r : Int32} (hpw : ws0.Pairwise (fun p q => p.1 ≠ q.1)) (hy : plainName y.cls = true) (hav : (lg_sl av).length ≤ maxL)
    (body : ∀ X : Nx, X.2.2.2.2.2.2.2.2.2.2.1 = maxL → Okn l cs G X cc y.cls d 0 0 → (∀ pc L, decode cc pc = .ok (.ireturn, 1) → narrow ty (.int r) = .int r → nG G X 0 0 pc L [.int r] ws1) → nG G X 0 0 0 (lv_args 0 av) [] ws0) : CtSI l cs G y cc maxL ty av d ws0 ws1 r := by
  intro sz
  refine Met.ofW (cc := cc) (maxL := maxL) (ret := some ty) hy rfl ?_
  intro p e s m args below meth c s₁ B hml hv
  obtain ⟨rfl, hsz, hP, hB⟩ := hv
  have hx := B.exec
  have hb := B.bytes
  have hr := B.returns
  have hts := atoms_spec (ws := wsO y cc maxL (some ty)) B.pre
  have hown : s.vm.findClass y.cls = some m.cls := findClass_of_methodNamed B.named
  have hlocks := B.notSynchronized
  subst hsz
  have hl := lv_entry av hav
  rw [lg_entry_eq]
  generalize (lg_sl av ++ List.replicate (maxL - (lg_sl av).length) Slot.unset).toArray = ls at hl ⊢
  refine body (p, l, e, _, s, m, _, below, meth, c, maxL, va_A ws0 s.heap.size, _) rfl ⟨rfl, hx, hb, hml, hown, fun w hw => hts w (List.mem_cons_of_mem _ hw), hB, fun q hq => Or.inr hq, ⟨Nat.le_refl _, Nat.le_refl _, Nat.le_refl _, Nat.le_refl _⟩, Or.inr (Or.inl rfl)⟩ ?_ s.heap [] ls hP (own_D hpw) va_S.rf hl
  intro pc L hd hn H locs ls hP hD hS hl
  exact W.zret hx hb hr hn (fun t ht hW => ⟨⟨r, (), rfl, rfl, by show va_P G vcls ws1 t.heap; rw [ht]; exact hP⟩, hS.F ht⟩) (fun q hq => hS.2.2 q hq) hd
section NS
variable {l0 : Launch} {cs : Nat → ClassId} {G : va_G} {X : Nx} {cc : ByteArray} {own : String} {d mc ms kc ks pc : Nat} {L L' : List (Nat × Value)} {st : List Value} {ws ws' ws0 ws1 tl : va_W} {x1 : Nat × va_E}
theorem n_imul (h : Okn l0 cs G X cc own d mc ms) {x y v : Int32} (hd : decode cc pc = .ok (.imul, 1)) (hv : x * y = v)
    (kk : nG G X kc ks (pc + 1) L (.int v :: st) ws) : nG G X kc ks pc L (.int y :: .int x :: st) ws := by
  obtain ⟨p, l, e, R, s, m, args, below, meth, c, n, A, Q⟩ := X
  obtain ⟨hll, hx, hb, hml, hown, hts, hB, hA, hR, hin⟩ := h
  subst hv
  intro H locs ls hP hD hS hl
  exact lv_imul hx hb hd (kk H locs ls hP hD hS hl)
theorem n_iadd (h : Okn l0 cs G X cc own d mc ms) {x y v : Int32} (hd : decode cc pc = .ok (.iadd, 1)) (hv : x + y = v)
    (kk : nG G X kc ks (pc + 1) L (.int v :: st) ws) : nG G X kc ks pc L (.int y :: .int x :: st) ws := by
  obtain ⟨p, l, e, R, s, m, args, below, meth, c, n, A, Q⟩ := X
  obtain ⟨hll, hx, hb, hml, hown, hts, hB, hA, hR, hin⟩ := h
  subst hv
  intro H locs ls hP hD hS hl
  exact lv_iadd hx hb hd (kk H locs ls hP hD hS hl)
theorem n_ineg (h : Okn l0 cs G X cc own d mc ms) {x v : Int32} (hd : decode cc pc = .ok (.ineg, 1)) (hv : -x = v)
    (kk : nG G X kc ks (pc + 1) L (.int v :: st) ws) : nG G X kc ks pc L (.int x :: st) ws := by
  obtain ⟨p, l, e, R, s, m, args, below, meth, c, n, A, Q⟩ := X
  obtain ⟨hll, hx, hb, hml, hown, hts, hB, hA, hR, hin⟩ := h
  subst hv
  intro H locs ls hP hD hS hl
  exact lv_ineg hx hb hd (kk H locs ls hP hD hS hl)
theorem n_getN (h : Okn l0 cs G X cc own d mc ms) {idx ci N a : Nat} {C host : String} {T : u_T} {fs : List Value} {v : Value} (q0 k : Nat) (he : ws[q0]? = some (a, .inr (ci, fs))) (hc : vcls[ci]? = some (C, T, N)) (hk : k < N) (hlk : Cond.fieldLinkNest own idx (T k).1 (T k).2.1 (T k).2.2.1 host ∈ vnl) (hv : fs[k]? = some v) (hd : decode cc pc = .ok (.getfield idx, 3))
    (kk : nG G X kc ks (pc + 3) L (v :: st) ws) : nG G X kc ks pc L (.ref a :: st) ws := by
  obtain ⟨p, l, e, R, s, m, args, below, meth, c, n, A, Q⟩ := X
  obtain ⟨hll, hx, hb, hml, hown, hts, hB, hA, hR, hin⟩ := h
  intro H locs ls hP hD hS hl
  have hm := List.mem_of_getElem? hc
  exact va_getN (D := G) (cl := vcls) (ci := ci) (v := v) (C := C) (T := T) (N := N) (Ts := vtb) hx hb hts (vcls_in _ hm) hown hB.1 hP q0 he hc k hk (va_Nw.use rfl (hB.2.1 _ hlk)) (fun _ z => z) hv hd (kk H locs ls hP hD hS hl)
/-- what a call over the cells ws0 leaves of the list ws0 ++ tl -/
theorem s_join {H H1 : Heap} {A : Nat → Prop} (hP : va_P G vcls (ws0 ++ tl) H) (hD : va_D A (ws0 ++ tl)) (hmap : ws1.map (fun q => q.1) = ws0.map (fun q => q.1)) (hP1 : va_P G vcls ws1 H1) (hk : ∀ q : Nat, q < H.size → ¬ va_A ws0 H.size q → H1[q]? = H[q]?) : va_P G vcls (ws1 ++ tl) H1 ∧ va_D A (ws1 ++ tl) := by
  have hPm := va_P_mem.mp hP
  have hDp := va_D_pw.mp hD
  have hap := List.pairwise_append.mp hDp.1
  have hm : ∀ z ∈ ws1, ∃ z' ∈ ws0, z'.1 = z.1 := by
    intro z hz
    have : z.1 ∈ ws1.map (fun q => q.1) := List.mem_map.mpr ⟨z, hz, rfl⟩
    rw [hmap] at this
    exact List.mem_map.mp this
  refine ⟨va_P_mem.mpr fun z hz => ?_, va_D_pw.mpr ⟨List.pairwise_append.mpr ⟨?_, hap.2.1, fun y hy z hz => ?_⟩, fun z hz => ?_⟩⟩
  · rcases List.mem_append.mp hz with hz | hz
    · exact va_P_mem.mp hP1 z hz
    · refine (hPm _ (List.mem_append_right _ hz)).kept (hk _ (hPm _ (List.mem_append_right _ hz)).lt ?_)
      rintro (⟨k, e0, hk⟩ | hv)
      · exact hap.2.2 _ (List.mem_of_getElem? hk) z hz rfl
      · exact absurd (hPm _ (List.mem_append_right _ hz)).lt (Nat.not_lt.mpr hv)
  · have h1 : (ws0.map (fun q => q.1)).Pairwise (fun a b => a ≠ b) := List.pairwise_map.mpr hap.1
    rw [← hmap] at h1
    exact List.pairwise_map.mp h1
  · obtain ⟨z', h1, h2⟩ := hm y hy
    rw [← h2]
    exact hap.2.2 _ h1 z hz
  · rcases List.mem_append.mp hz with hz | hz
    · obtain ⟨z', h1, h2⟩ := hm z hz
      rw [← h2]
      exact hDp.2 _ (List.mem_append_left _ h1)
    · exact hDp.2 _ (List.mem_append_right _ hz)
theorem n_callSV (h : Okn l0 cs G X cc own d mc ms) {idx n maxL d' c' a : Nat} {y : MethodName} {bytes : ByteArray} {As : List Value} {stk : List Value} {fs : List Value} (hM : ws0.Pairwise (fun p q => p.1 ≠ q.1) → CtSV l0 cs G y bytes maxL (.ref a :: As) d' ws0 ws1) (hlk : ML own idx y) (hy : MY y bytes maxL none n) (hm : MI y) (q0 : Nat) (he : ws0[q0]? = some (a, .inr (c', fs))) (hcl : (vcls[c']?).map (fun q => q.1) = some y.cls) (hmap : ws1.map (fun q => q.1) = ws0.map (fun q => q.1)) (hAs : As.length = n) (hst : stk = As.reverse ++ .ref a :: st) (hcat : (st.map fun v => v.category).sum ≤ 8) (hdd : d' < d) (hk1 : kc ≤ mc) (hk2 : ks ≤ ms) (hd : decode cc pc = .ok (.invokevirtual idx, 3))
    (kk : nG G X kc ks (pc + 3) L st (ws1 ++ tl)) : nG G X kc ks pc L stk (ws0 ++ tl) := by
  obtain ⟨p, l, e, R, s, m, args, below, meth, c, n1, A, Q⟩ := X
  obtain ⟨hll, hx, hb, hml, hown, hts, hB, hA, hR, hin⟩ := h
  subst hll
  intro H locs ls hP hD hS hl
  obtain ⟨y1, y2, y3, y4⟩ := hy
  have hroom : (rmn d' 0 0).frames + 1 ≤ R.frames ∧ 8 + (maxL + 11) + (rmn d' 0 0).locals ≤ R.locals := by
    obtain ⟨r1, r2, -, -⟩ := hR
    show d' + 1 + 1 ≤ R.frames ∧ 8 + (maxL + 11) + 64 * (d' + 1) ≤ R.locals
    omega
  have hcs : kc + 0 ≤ R.cells ∧ ks + 0 ≤ R.slots := ⟨Nat.le_trans hk1 hR.2.2.1, Nat.le_trans hk2 hR.2.2.2⟩
  have hPm := va_P_mem.mp hP
  have hP0 : va_P G vcls ws0 H := va_P_mem.mpr fun z hz => hPm _ (List.mem_append_left _ hz)
  have hDp := va_D_pw.mp hD
  have hM := hM (List.pairwise_append.mp hDp.1).1
  obtain ⟨q, hc, hq⟩ : ∃ q, vcls[c']? = some q ∧ q.1 = y.cls := by
    cases hz : vcls[c']? with
    | none => rw [hz] at hcl; cases hcl
    | some q => rw [hz] at hcl; exact ⟨q, rfl, Option.some.inj hcl⟩
  have hrec := va_recv hB.1 hP0 hc he
  rw [hq] at hrec
  have hp : PreV s H y.cls a (va_Pc (.ref a :: As) (fun U => U.heap.size = H.size ∧ va_P G vcls ws0 U.heap ∧ Bld cs G U)) As := ⟨ctS_blind, hrec, fun U hU hW => ⟨rfl, by rw [hU], by rw [hU]; exact hP0, hB.warm hW⟩⟩
  have hrun : va_Run p l e R s m args below meth c H locs kc ks 0 0 (F0 m pc ls stk) st (va_Qv (fun _ : Unit => True) (fun _ t => va_P G vcls ws1 t.heap) (va_A ws0 H.size) (Value.ref a :: As).toArray) (va_A ws0 H.size) := by
    rcases hlk with hlk | ⟨host, hlk⟩
    · exact va_runV ⟨hx, hb, hml, hown, hts⟩ (hM H.size) ⟨callB_of n hts (good_vtb y1) rfl rfl rfl (hts _ y2) (hts _ hlk) y3 hroom, hts _ hm.1, hts _ hm.2⟩ hp rfl hAs hl.1 hst (lv_room hcat) hd hcs
    · exact va_runVN ⟨hx, hb, hml, hown, hts⟩ (hM H.size) ⟨va_cnB n hts (good_vtb y1) rfl rfl rfl (hB.2.1 _ hlk) (hts _ y2) y3 hroom, hts _ hm.1, hts _ hm.2⟩ hp rfl hAs hl.1 hst (lv_room hcat) hd hcs
  have hAA : ∀ z, va_A ws0 H.size z → A z := by
    rintro z (⟨k, e0, hk⟩ | hz)
    · exact hDp.2 _ (List.mem_append_left _ (List.mem_of_getElem? hk))
    · exact hA _ (Nat.le_trans hS.1 hz)
  refine va_callv hrun hS (fun z _ hz => hAA z hz) hAA (fun u t H1 locs1 ht hvm hw hB1 hz hk hS3 => ?_)
  have hB1 : va_P G vcls ws1 t.heap := hB1
  rw [ht] at hB1
  have hj := s_join hP hD hmap hB1 hk
  exact kk H1 locs1 ls hj.1 hj.2 hS3 hl
theorem n_callSI0 (h : Okn l0 cs G X cc own d mc ms) {idx n maxL d' c' a : Nat} {y : MethodName} {bytes : ByteArray} {ty : FieldType} {As : List Value} {stk : List Value} {fs : List Value} {r : Int32} (hM : ws0.Pairwise (fun p q => p.1 ≠ q.1) → CtSI l0 cs G y bytes maxL ty (.ref a :: As) d' ws0 ws1 r) (hlk : ML own idx y) (hy : MY y bytes maxL (some ty) n) (hm : MI y) (q0 : Nat) (he : ws0[q0]? = some (a, .inr (c', fs))) (hcl : (vcls[c']?).map (fun q => q.1) = some y.cls) (hmap : ws1.map (fun q => q.1) = ws0.map (fun q => q.1)) (hAs : As.length = n) (hst : stk = As.reverse ++ .ref a :: st) (hcat : (st.map fun v => v.category).sum ≤ 8) (hdd : d' < d) (hk1 : kc ≤ mc) (hk2 : ks ≤ ms) (hd : decode cc pc = .ok (.invokevirtual idx, 3))
    (kk : nG G X kc ks (pc + 3) L (.int r :: st) (ws1 ++ tl)) : nG G X kc ks pc L stk (ws0 ++ tl) := by
  obtain ⟨p, l, e, R, s, m, args, below, meth, c, n1, A, Q⟩ := X
  obtain ⟨hll, hx, hb, hml, hown, hts, hB, hA, hR, hin⟩ := h
  subst hll
  intro H locs ls hP hD hS hl
  obtain ⟨y1, y2, y3, y4⟩ := hy
  have hroom : (rmn d' 0 0).frames + 1 ≤ R.frames ∧ 8 + (maxL + 11) + (rmn d' 0 0).locals ≤ R.locals := by
    obtain ⟨r1, r2, -, -⟩ := hR
    show d' + 1 + 1 ≤ R.frames ∧ 8 + (maxL + 11) + 64 * (d' + 1) ≤ R.locals
    omega
  have hcs : kc + 0 ≤ R.cells ∧ ks + 0 ≤ R.slots := ⟨Nat.le_trans hk1 hR.2.2.1, Nat.le_trans hk2 hR.2.2.2⟩
  have hPm := va_P_mem.mp hP
  have hP0 : va_P G vcls ws0 H := va_P_mem.mpr fun z hz => hPm _ (List.mem_append_left _ hz)
  have hDp := va_D_pw.mp hD
  have hM := hM (List.pairwise_append.mp hDp.1).1
  obtain ⟨q, hc, hq⟩ : ∃ q, vcls[c']? = some q ∧ q.1 = y.cls := by
    cases hz : vcls[c']? with
    | none => rw [hz] at hcl; cases hcl
    | some q => rw [hz] at hcl; exact ⟨q, rfl, Option.some.inj hcl⟩
  have hrec := va_recv hB.1 hP0 hc he
  rw [hq] at hrec
  have hp : PreV s H y.cls a (va_Pc (.ref a :: As) (fun U => U.heap.size = H.size ∧ va_P G vcls ws0 U.heap ∧ Bld cs G U)) As := ⟨ctS_blind, hrec, fun U hU hW => ⟨rfl, by rw [hU], by rw [hU]; exact hP0, hB.warm hW⟩⟩
  have hrun : va_Run p l e R s m args below meth c H locs kc ks 0 0 (F0 m pc ls stk) st (va_Qi (fun (r' : Int32) (_ : Unit) => r' = r) (fun _ t => va_P G vcls ws1 t.heap) (va_A ws0 H.size) (Value.ref a :: As).toArray) (va_A ws0 H.size) := by
    rcases hlk with hlk | ⟨host, hlk⟩
    · exact va_runV ⟨hx, hb, hml, hown, hts⟩ (hM H.size) ⟨callB_of n hts (good_vtb y1) rfl rfl rfl (hts _ y2) (hts _ hlk) y3 hroom, hts _ hm.1, hts _ hm.2⟩ hp rfl hAs hl.1 hst (lv_room hcat) hd hcs
    · exact va_runVN ⟨hx, hb, hml, hown, hts⟩ (hM H.size) ⟨va_cnB n hts (good_vtb y1) rfl rfl rfl (hB.2.1 _ hlk) (hts _ y2) y3 hroom, hts _ hm.1, hts _ hm.2⟩ hp rfl hAs hl.1 hst (lv_room hcat) hd hcs
  have hAA : ∀ z, va_A ws0 H.size z → A z := by
    rintro z (⟨k, e0, hk⟩ | hz)
    · exact hDp.2 _ (List.mem_append_left _ (List.mem_of_getElem? hk))
    · exact hA _ (Nat.le_trans hS.1 hz)
  refine va_calli hrun hS (fun z _ hz => hAA z hz) hAA (fun r2 u t H1 locs1 ht hvm hw hB1 hz hk hS3 => ?_)
  have hw : r2 = r := hw
  subst hw
  have hB1 : va_P G vcls ws1 t.heap := hB1
  rw [ht] at hB1
  have hj := s_join hP hD hmap hB1 hk
  exact kk H1 locs1 ls hj.1 hj.2 hS3 hl
theorem n_callSI (h : Okn l0 cs G X cc own d mc ms) {idx n maxL d' c' a : Nat} {y : MethodName} {bytes : ByteArray} {ty : FieldType} {As : List Value} {stk : List Value} {fs : List Value} {r : Int32} (hM : CtSI l0 cs G y bytes maxL ty (.ref a :: As) d' [(a, .inr (c', fs))] [(a, .inr (c', fs))] r) (hlk : ML own idx y) (hy : MY y bytes maxL (some ty) n) (hm : MI y) (q0 : Nat) (he : ws[q0]? = some (a, .inr (c', fs))) (hcl : (vcls[c']?).map (fun q => q.1) = some y.cls) (hAs : As.length = n) (hst : stk = As.reverse ++ .ref a :: st) (hcat : (st.map fun v => v.category).sum ≤ 8) (hdd : d' < d) (hk1 : kc ≤ mc) (hk2 : ks ≤ ms) (hd : decode cc pc = .ok (.invokevirtual idx, 3))
    (kk : nG G X kc ks (pc + 3) L (.int r :: st) ws) : nG G X kc ks pc L stk ws := by
  obtain ⟨hlt, e0⟩ := List.getElem?_eq_some_iff.mp he
  have e1 : ws = ws.take q0 ++ (a, .inr (c', fs)) :: ws.drop (q0 + 1) := by
    rw [← e0, ← List.drop_eq_getElem_cons hlt, List.take_append_drop]
  have pm : ws.Perm ([(a, .inr (c', fs))] ++ (ws.take q0 ++ ws.drop (q0 + 1))) := (List.Perm.of_eq e1).trans List.perm_middle
  exact n_perm pm (n_callSI0 h (fun _ => hM) hlk hy hm 0 rfl hcl rfl hAs hst hcat hdd hk1 hk2 hd (n_perm pm.symm kk))
end NS
