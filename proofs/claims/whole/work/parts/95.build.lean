/-! the world while it is made: a judgement over a list of cells that grows; constructors by contract -/
theorem va_P_mem {G : va_G} {ws : va_W} {H : Heap} : va_P G vcls ws H ↔ ∀ q ∈ ws, va_at G vcls q H := by
  constructor
  · intro h q hq
    obtain ⟨k, hk⟩ := List.getElem?_of_mem hq
    exact h k q hk
  · intro h k q hk
    exact h q (List.mem_of_getElem? hk)
theorem va_D_pw {A : Nat → Prop} {ws : va_W} : va_D A ws ↔ ws.Pairwise (fun p q => p.1 ≠ q.1) ∧ ∀ q ∈ ws, A q.1 := by
  rw [List.pairwise_iff_getElem]
  constructor
  · rintro ⟨h1, h2⟩
    refine ⟨fun i j hi hj hij e => ?_, fun q hq => ?_⟩
    · have := h1 i j _ _ (List.getElem?_eq_getElem hi) (List.getElem?_eq_getElem hj) e
      omega
    · obtain ⟨k, hk⟩ := List.getElem?_of_mem hq
      exact h2 k q hk
  · rintro ⟨h1, h2⟩
    refine ⟨fun i j p q hp hq e => ?_, fun k q hk => h2 q (List.mem_of_getElem? hk)⟩
    obtain ⟨hi, ei⟩ := List.getElem?_eq_some_iff.mp hp
    obtain ⟨hj, ej⟩ := List.getElem?_eq_some_iff.mp hq
    subst ei; subst ej
    rcases Nat.lt_trichotomy i j with z | z | z
    · exact absurd e (h1 i j hi hj z)
    · exact z
    · exact absurd e.symm (h1 j i hj hi z)
theorem va_P_perm {G : va_G} {ws ws' : va_W} {H : Heap} (p : ws.Perm ws') (h : va_P G vcls ws H) : va_P G vcls ws' H := va_P_mem.mpr fun q hq => va_P_mem.mp h q (p.mem_iff.mpr hq)
theorem va_D_perm {A : Nat → Prop} {ws ws' : va_W} (p : ws.Perm ws') (h : va_D A ws) : va_D A ws' := by
  rw [va_D_pw] at h ⊢
  exact ⟨(p.pairwise_iff (fun h => Ne.symm h)).mp h.1, fun q hq => h.2 q (p.mem_iff.mpr hq)⟩
/-- what the state gives while the world is made -/
def Bld (cs : Nat → ClassId) (G : va_G) (U : State) : Prop := va_K G vcls (tysO cs) U ∧ (∀ w ∈ vnl, va_Nw w U) ∧ va_AO "SowingBoards$Position" U ∧ (Cond.arrayOver (.array .int)).before #[] U = true
theorem aoI_moved {s U : State} (hal : s.vm.Alike U.vm) (h : (Cond.arrayOver (.array .int)).before #[] s = true) : (Cond.arrayOver (.array .int)).before #[] U = true := by
  have := Cond.arrayOver_setVmC (args := #[]) (s := s) hal (.array .int)
  exact (this.trans h : (Cond.arrayOver (.array .int)).before #[] (s.setVm U.vm) = true)
theorem Bld.warm {cs : Nat → ClassId} {G : va_G} {s U : State} (hW : s.WarmedH U.vm) (h : Bld cs G s) : Bld cs G U := ⟨va_K.moved hW.alike h.1, fun w hw => vnl_warm hW (List.mem_filter.mp hw).2 (h.2.1 w hw), va_AO.moved hW.alike h.2.2.1, aoI_moved hW.alike h.2.2.2⟩
theorem Bld.same {cs : Nat → ClassId} {G : va_G} {u U : State} (hv : U.vm = u.vm) (ha : u.vm.Alike U.vm) (h : Bld cs G u) : Bld cs G U := ⟨va_K.moved ha h.1, fun w hw => vnl_same hv.symm (List.mem_filter.mp hw).2 (h.2.1 w hw), va_AO.moved ha h.2.2.1, aoI_moved ha h.2.2.2⟩
abbrev Nx : Type := Program × Launch × Env × Room × State × MethodId × Array Value × List Frame × Method × Code × Nat × (Nat → Prop) × (State → Prop)
def nG (G : va_G) (X : Nx) (kc ks pc : Nat) (L : List (Nat × Value)) (st : List Value) (ws : va_W) : Prop :=
  match X with
  | (p, l, e, R, s, m, args, below, meth, c, n, A, Q) => ∀ (H : Heap) (locs : List Loc) (ls : Array Slot), va_P G vcls ws H → va_D A ws → va_S A s.heap H locs → lv_has ls n L → W p l e R s m args below meth c H locs kc ks Q (F0 m pc ls st)
abbrev rmn (d mc ms : Nat) : Room := { frames := d + 1, cells := mc, slots := ms, locals := 64 * (d + 1) }
def Okn (l0 : Launch) (cs : Nat → ClassId) (G : va_G) (X : Nx) (cc : ByteArray) (own : String) (d mc ms : Nat) : Prop :=
  match X with
  | (p, l, _, R, s, m, args, _, meth, c, n, A, _) => l = l0 ∧ p.tables.exec = Jvm.exec ∧ c.code = cc ∧ c.maxLocals = n ∧ s.vm.findClass own = some m.cls ∧ (∀ w ∈ vtb, w.before args s = true) ∧ Bld cs G s ∧ (∀ q, s.heap.size ≤ q → A q) ∧ (d + 1 ≤ R.frames ∧ 64 * (d + 1) ≤ R.locals ∧ mc ≤ R.cells ∧ ms ≤ R.slots) ∧ (own = "SowingBoardsLaw" ∨ mc = 0 ∨ meth.name = "<init>")
/-- an object's fields at its birth -/
def dfl (ci : Nat) : List Value := (fspl.getD ci []).map (fun k => if k = 0 then .int 0 else .null)
/-- a constructor of class ci: from the newborn at a it makes the cells w1, the object's own among them, of which res speaks -/
def CtN (l : Launch) (cs : Nat → ClassId) (G : va_G) (y : MethodName) (cc : ByteArray) (maxL ci : Nat) (As : List Value) (d mc ms : Nat) (res : Nat → va_W → Prop) : Prop := ∀ a sz : Nat,
  Met l y (wsO y cc maxL none) (rmn d mc ms) (va_Pc (.ref a :: As) (fun U => U.heap.size = sz ∧ va_P G vcls [(a, .inr (ci, dfl ci))] U.heap ∧ Bld cs G U)) (va_Qv (fun _ : Unit => True) (fun _ t => ∃ w1, res a w1 ∧ va_P G vcls w1 t.heap ∧ va_D (va_A [(a, .inr (ci, dfl ci))] sz) w1) (va_A [(a, .inr (ci, dfl ci))] sz)) mc ms (va_A [(a, .inr (ci, dfl ci))] sz)
theorem ctN_blind {cs : Nat → ClassId} {G : va_G} {a sz ci : Nat} {As : List Value} : FrameBlind (va_Pc (.ref a :: As) (fun U => U.heap.size = sz ∧ va_P G vcls [(a, .inr (ci, dfl ci))] U.heap ∧ Bld cs G U)) := fun b U g mk q => ⟨q.1, q.2.1, q.2.2.1, Bld.same (u := U) (U := U.calling g mk b) rfl (Vm.Alike.refl U.vm) q.2.2.2⟩
theorem one_D {a : Nat} {e : va_E} {sz : Nat} : va_D (va_A [(a, e)] sz) [(a, e)] := by
  refine ⟨fun i j p q hp hq _ => ?_, fun k q hk => Or.inl ⟨k, q.2, hk⟩⟩
  have h1 : i < 1 := (List.getElem?_eq_some_iff.mp hp).1
  have h2 : j < 1 := (List.getElem?_eq_some_iff.mp hq).1
  omega
theorem ctN_of {l : Launch} {cs : Nat → ClassId} {G : va_G} {y : MethodName} {cc : ByteArray} {maxL ci : Nat} {As : List Value} {d mc ms : Nat} {res : Nat → va_W → Prop} (hy : plainName y.cls = true) (hn : y.name = "<init>") (hav : ∀ a, (lg_sl (.ref a :: As)).length ≤ maxL)
    (body : ∀ (X : Nx) (a : Nat), X.2.2.2.2.2.2.2.2.2.2.1 = maxL → Okn l cs G X cc y.cls d mc ms → (∀ pc kc ks L w1, decode cc pc = .ok (.return_, 1) → kc ≤ mc → ks ≤ ms → res a w1 → nG G X kc ks pc L [] w1) → nG G X 0 0 0 (lv_args 0 (.ref a :: As)) [] [(a, .inr (ci, dfl ci))]) : CtN l cs G y cc maxL ci As d mc ms res := by
  intro a sz
  refine Met.ofW (cc := cc) (maxL := maxL) (ret := none) hy rfl ?_
  intro p e s m args below meth c s₁ B hml hv
  obtain ⟨rfl, hsz, hP, hB⟩ := hv
  have hx := B.exec
  have hb := B.bytes
  have hr := B.returns
  have hts := atoms_spec (ws := wsO y cc maxL none) B.pre
  have hown : s.vm.findClass y.cls = some m.cls := findClass_of_methodNamed B.named
  have hlocks := B.notSynchronized
  have hin : meth.name = "<init>" := by rw [← hn]; exact (name_of_methodNamed B.named B.method).1
  subst hsz
  have hl := lv_entry (.ref a :: As) (hav a)
  rw [lg_entry_eq]
  generalize (lg_sl (.ref a :: As) ++ List.replicate (maxL - (lg_sl (.ref a :: As)).length) Slot.unset).toArray = ls at hl ⊢
  refine body (p, l, e, _, s, m, _, below, meth, c, maxL, va_A [(a, .inr (ci, dfl ci))] s.heap.size, _) a rfl ⟨rfl, hx, hb, hml, hown, fun w hw => hts w (List.mem_cons_of_mem _ hw), hB, fun q hq => Or.inr hq, ⟨Nat.le_refl _, Nat.le_refl _, Nat.le_refl _, Nat.le_refl _⟩, Or.inr (Or.inr hin)⟩ ?_ s.heap [] ls hP one_D va_S.rf hl
  intro pc kc ks L w1 hd h1 h2 hres H locs ls hP hD hS hl
  refine W.widen (k := mc) (n := ms) h1 h2 ?_
  exact W.vret hx hb hr (fun t ht hW => ⟨⟨(), rfl, trivial, w1, hres, by rw [ht]; exact hP, hD⟩, hS.F ht⟩) hS.2.2 hd
section NR
variable {l0 : Launch} {cs : Nat → ClassId} {G : va_G} {X : Nx} {cc : ByteArray} {own : String} {d mc ms kc ks pc : Nat} {L L' : List (Nat × Value)} {st : List Value} {ws ws' tl : va_W}
theorem n_aload (h : Okn l0 cs G X cc own d mc ms) {k : Fin 4} (j : Nat) {x : Nat} (hd : decode cc pc = .ok (.aload_n k, 1)) (hj : L[j]? = some ((k : Nat), .ref x))
    (kk : nG G X kc ks (pc + 1) L (.ref x :: st) ws) : nG G X kc ks pc L st ws := by
  obtain ⟨p, l, e, R, s, m, args, below, meth, c, n, A, Q⟩ := X
  obtain ⟨hll, hx, hb, hml, hown, hts, hB, hA, hR, hin⟩ := h
  intro H locs ls hP hD hS hl
  exact lv_aload_n hx hb hd rfl (lv_at hl j hj) (kk H locs ls hP hD hS hl)
theorem n_iload (h : Okn l0 cs G X cc own d mc ms) {k : Fin 4} (j : Nat) {x : Int32} (hd : decode cc pc = .ok (.iload_n k, 1)) (hj : L[j]? = some ((k : Nat), .int x))
    (kk : nG G X kc ks (pc + 1) L (.int x :: st) ws) : nG G X kc ks pc L st ws := by
  obtain ⟨p, l, e, R, s, m, args, below, meth, c, n, A, Q⟩ := X
  obtain ⟨hll, hx, hb, hml, hown, hts, hB, hA, hR, hin⟩ := h
  intro H locs ls hP hD hS hl
  exact lv_iload_n hx hb hd rfl (lv_at hl j hj) (kk H locs ls hP hD hS hl)
theorem n_iconst (h : Okn l0 cs G X cc own d mc ms) {i : Int} {v : Int32} (hd : decode cc pc = .ok (.iconst i, 1)) (hv : Int32.ofInt i = v)
    (kk : nG G X kc ks (pc + 1) L (.int v :: st) ws) : nG G X kc ks pc L st ws := by
  obtain ⟨p, l, e, R, s, m, args, below, meth, c, n, A, Q⟩ := X
  obtain ⟨hll, hx, hb, hml, hown, hts, hB, hA, hR, hin⟩ := h
  intro H locs ls hP hD hS hl
  exact lv_iconst hx hb hd hv (kk H locs ls hP hD hS hl)
theorem n_bipush (h : Okn l0 cs G X cc own d mc ms) {i : Int} {v : Int32} (hd : decode cc pc = .ok (.bipush i, 2)) (hv : (Int8.ofInt i).toInt32 = v)
    (kk : nG G X kc ks (pc + 2) L (.int v :: st) ws) : nG G X kc ks pc L st ws := by
  obtain ⟨p, l, e, R, s, m, args, below, meth, c, n, A, Q⟩ := X
  obtain ⟨hll, hx, hb, hml, hown, hts, hB, hA, hR, hin⟩ := h
  intro H locs ls hP hD hS hl
  exact lv_bipush hx hb hd hv (kk H locs ls hP hD hS hl)
theorem n_sipush (h : Okn l0 cs G X cc own d mc ms) {i : Int} {v : Int32} (hd : decode cc pc = .ok (.sipush i, 3)) (hv : (Int16.ofInt i).toInt32 = v)
    (kk : nG G X kc ks (pc + 3) L (.int v :: st) ws) : nG G X kc ks pc L st ws := by
  obtain ⟨p, l, e, R, s, m, args, below, meth, c, n, A, Q⟩ := X
  obtain ⟨hll, hx, hb, hml, hown, hts, hB, hA, hR, hin⟩ := h
  intro H locs ls hP hD hS hl
  exact lv_sipush hx hb hd hv (kk H locs ls hP hD hS hl)
theorem n_istore (h : Okn l0 cs G X cc own d mc ms) {k : Fin 4} {i n0 : Nat} {x : Int32} (hn : X.2.2.2.2.2.2.2.2.2.2.1 = n0) (hd : decode cc pc = .ok (.istore_n k, 1)) (hi : (k : Nat) = i) (hb0 : i < n0) (hL : (i, Value.int x) :: L.filter (fun q => !(q.1 == i) && !(q.1 + 1 == i && q.2.category == 2)) = L')
    (kk : nG G X kc ks (pc + 1) L' st ws) : nG G X kc ks pc L (.int x :: st) ws := by
  obtain ⟨p, l, e, R, s, m, args, below, meth, c, n, A, Q⟩ := X
  obtain ⟨hll, hx, hb, hml, hown, hts, hB, hA, hR, hin⟩ := h
  intro H locs ls hP hD hS hl
  have hn : n = n0 := hn
  subst hn
  exact lv_istore_n hx hb hd hi hl hb0 hL (fun ls hl => kk H locs ls hP hD hS hl)
theorem n_iinc (h : Okn l0 cs G X cc own d mc ms) {i n0 k : Nat} {j : Int} {x v : Int32} (hn : X.2.2.2.2.2.2.2.2.2.2.1 = n0) (hd : decode cc pc = .ok (.iinc i j, 3)) (hk : L[k]? = some (i, .int x)) (hv : x + Int32.ofInt j = v) (hb0 : i < n0) (hL : (i, Value.int v) :: L.filter (fun q => !(q.1 == i) && !(q.1 + 1 == i && q.2.category == 2)) = L')
    (kk : nG G X kc ks (pc + 3) L' st ws) : nG G X kc ks pc L st ws := by
  obtain ⟨p, l, e, R, s, m, args, below, meth, c, n, A, Q⟩ := X
  obtain ⟨hll, hx, hb, hml, hown, hts, hB, hA, hR, hin⟩ := h
  intro H locs ls hP hD hS hl
  have hn : n = n0 := hn
  subst hn
  exact lv_iinc hx hb hd hl hk hv hb0 hL (fun ls hl => kk H locs ls hP hD hS hl)
theorem n_loc (kz : List Nat) (hL : lv_pick L kz = L') (kk : nG G X kc ks pc L' st ws) : nG G X kc ks pc L st ws := by
  obtain ⟨p, l, e, R, s, m, args, below, meth, c, n, A, Q⟩ := X
  intro H locs ls hP hD hS hl
  exact kk H locs ls hP hD hS (lv_sub hl kz hL)
theorem n_goto (h : Okn l0 cs G X cc own d mc ms) {off : Int} {tgt : Nat} (hd : decode cc pc = .ok (.goto off, 3)) (ht : (pc : Int) + off = (tgt : Int))
    (kk : nG G X kc ks tgt L st ws) : nG G X kc ks pc L st ws := by
  obtain ⟨p, l, e, R, s, m, args, below, meth, c, n, A, Q⟩ := X
  obtain ⟨hll, hx, hb, hml, hown, hts, hB, hA, hR, hin⟩ := h
  intro H locs ls hP hD hS hl
  exact lv_goto hx hb hd ht (kk H locs ls hP hD hS hl)
theorem n_ge (h : Okn l0 cs G X cc own d mc ms) {x y : Int32} {off : Int} {tgt : Nat} (hd : decode cc pc = .ok (.if_icmp .ge off, 3)) (ht : (pc : Int) + off = (tgt : Int))
    (kt : y ≤ x → nG G X kc ks tgt L st ws) (kf : ¬ y ≤ x → nG G X kc ks (pc + 3) L st ws) : nG G X kc ks pc L (.int y :: .int x :: st) ws := by
  obtain ⟨p, l, e, R, s, m, args, below, meth, c, n, A, Q⟩ := X
  obtain ⟨hll, hx, hb, hml, hown, hts, hB, hA, hR, hin⟩ := h
  intro H locs ls hP hD hS hl
  exact lv_icmp_ge hx hb hd ht (fun q => kt q H locs ls hP hD hS hl) (fun q => kf q H locs ls hP hD hS hl)
theorem n_perm (p : ws.Perm ws') (kk : nG G X kc ks pc L st ws') : nG G X kc ks pc L st ws := by
  obtain ⟨p, l, e, R, s, m, args, below, meth, c, n, A, Q⟩ := X
  intro H locs ls hP hD hS hl
  rename_i p0
  exact kk H locs ls (va_P_perm p0 hP) (va_D_perm p0 hD) hS hl
theorem n_objInit (h : Okn l0 cs G X cc own d mc ms) {idx a : Nat} (hlk : Cond.methodLink own idx objectInit ∈ vtb) (hi : Cond.instanceMethod objectInit ∈ vtb) (hc : Cond.code objectInit ⟨#[0xb1]⟩ 1 none ∈ vtb) (hcat : (st.map fun v => v.category).sum ≤ 8) (hd : decode cc pc = .ok (.invokespecial idx, 3))
    (kk : nG G X kc ks (pc + 3) L st ws) : nG G X kc ks pc L (.ref a :: st) ws := by
  obtain ⟨p, l, e, R, s, m, args, below, meth, c, n, A, Q⟩ := X
  obtain ⟨hll, hx, hb, hml, hown, hts, hB, hA, hR, hin⟩ := h
  intro H locs ls hP hD hS hl
  obtain ⟨r1, r2, -, -⟩ := hR
  exact W.objInit hx hb hown (hts _ hlk) (hts _ hi) (hts _ hc) rfl (by rw [hml]; exact hl.1) rfl hd (by omega) (by show 2 * 0 + (st.map fun v => v.category).sum + 12 ≤ R.locals; omega) (kk H locs ls hP hD hS hl)
end NR
