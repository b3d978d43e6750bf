/-! an array of int arrays made at one stroke -/
/-- the outer array's cell after i of its n places are filled, its own address being z; an inner one -/
def mg_o (cA : ClassId) (n z i : Nat) : Cell := arrV cA n (fun j => if j < i then .ref (z + 1 + j) else .null)
def mg_i (cI : ClassId) (k : Nat) : Cell := arrV cI k (fun _ => .int 0)
def mg_st (T : State) (cA cI : ClassId) (n k : Nat) : Nat → State
  | 0 => T.pushCell (mg_o cA n T.heap.size 0)
  | i + 1 => ((mg_st T cA cI n k i).pushCell (mg_i cI k)).setCell T.heap.size (mg_o cA n T.heap.size (i + 1))
theorem mg_congr {cA : ClassId} {n : Nat} {f g : Nat → Value} (h : ∀ j, j < n → f j = g j) : arrV cA n f = arrV cA n g := by
  unfold arrV
  congr 2
  funext j
  exact h j.val j.isLt
theorem mg_next (cA : ClassId) (n z i : Nat) : (mg_o cA n z i).setSlot i (.ref (z + 1 + i)) = mg_o cA n z (i + 1) := by
  unfold mg_o
  rw [arrV_store]
  congr 1
  funext j
  simp only [updV]
  by_cases h : j = i
  · subst h
    rw [if_pos rfl, if_pos (Nat.lt_succ_self _)]
  · rw [if_neg h]
    by_cases q : j < i
    · rw [if_pos q, if_pos (by omega)]
    · rw [if_neg q, if_neg (by omega)]
theorem mg_z (cA : ClassId) (n z : Nat) : mg_o cA n z 0 = { cls := cA, slots := Array.replicate n .null, vm := .none } := by
  rw [arrV_new]
  unfold mg_o
  congr 1
theorem mg_facts (T : State) (cA cI : ClassId) (n k : Nat) : ∀ i, (mg_st T cA cI n k i).heap.size = T.heap.size + 1 + i ∧ (mg_st T cA cI n k i).heap[T.heap.size]? = some (mg_o cA n T.heap.size i) ∧ (mg_st T cA cI n k i).vm = T.vm ∧ (mg_st T cA cI n k i).slotsUsed = T.slotsUsed + n + i * k
  | 0 => ⟨by simp [mg_st], by simp [mg_st], rfl, by simp [mg_st, mg_o, arrV_size]⟩
  | i + 1 => by
    obtain ⟨h1, h2, h3, h4⟩ := mg_facts T cA cI n k i
    have hz : T.heap.size < (mg_st T cA cI n k i).heap.size := by omega
    have hb : ((mg_st T cA cI n k i).pushCell (mg_i cI k)).heap[T.heap.size]? = some (mg_o cA n T.heap.size i) := by rw [State.heap_pushCell_of_lt (h := hz)]; exact h2
    refine ⟨?_, State.heap_setCell_self hb, ?_, ?_⟩
    · simp [mg_st, State.setCell, h1]; omega
    · simp [mg_st, h3]
    · simp [mg_st, h4, mg_i, arrV_size, Nat.succ_mul]; omega
theorem mg_old (T : State) (cA cI : ClassId) (n k : Nat) {a : Nat} (ha : a < T.heap.size) : ∀ i, (mg_st T cA cI n k i).heap[a]? = T.heap[a]?
  | 0 => State.heap_pushCell_of_lt _ _ ha
  | i + 1 => by
    have h1 := (mg_facts T cA cI n k i).1
    show (((mg_st T cA cI n k i).pushCell (mg_i cI k)).setCell T.heap.size _).heap[a]? = _
    have hz : a < (mg_st T cA cI n k i).heap.size := by omega
    rw [State.heap_setCell_other (Nat.ne_of_gt ha), State.heap_pushCell_of_lt (h := hz)]
    exact mg_old T cA cI n k ha i
theorem mg_in (T : State) (cA cI : ClassId) (n k : Nat) : ∀ i j, j < i → (mg_st T cA cI n k i).heap[T.heap.size + 1 + j]? = some (mg_i cI k)
  | 0, _, h => absurd h (Nat.not_lt_zero _)
  | i + 1, j, h => by
    have h1 := (mg_facts T cA cI n k i).1
    show (((mg_st T cA cI n k i).pushCell (mg_i cI k)).setCell T.heap.size _).heap[T.heap.size + 1 + j]? = _
    rw [State.heap_setCell_other (show T.heap.size ≠ T.heap.size + 1 + j by omega)]
    by_cases e : j = i
    · subst e
      rw [← h1]
      exact State.heap_pushCell_size _ _
    · have hz : T.heap.size + 1 + j < (mg_st T cA cI n k i).heap.size := by omega
      rw [State.heap_pushCell_of_lt (h := hz)]
      exact mg_in T cA cI n k i j (by omega)
theorem mg_top (T : State) (f : JFrame) (cA cI : ClassId) (n k : Nat) : ∀ i, mg_st (T.setTop f) cA cI n k i = (mg_st T cA cI n k i).setTop f
  | 0 => rfl
  | i + 1 => by simp only [mg_st, mg_top T f cA cI n k i, State.heap_setTop, State.pushCell_setTop, State.setCell_setTop]
section MGW
variable {E : CtlPost} {e : Env} {d : Bool} {acts : List Action} {s : State}
theorem mg_wp1 {cI ce : ClassId} {kI : Class} {k : Int32} (hI : s.vm.classes[cI]? = some kI) (hkI : kI.kind = .array ce .int) (hk : ¬ k < 0)
    (l2 : ¬ k.toNatClampNeg > e.platform.arrayLengthLimit) (m2 : ¬ k.toNatClampNeg * componentBytes .int > e.platform.maxHeapBytes)
    (h1 : s.heap.size < e.platform.maxCells) (h2 : s.slotsUsed + k.toNatClampNeg ≤ e.platform.maxSlots)
    {Q : Addr → Pre} (hq : ∀ acts', Q s.heap.size d acts' (s.pushCell (mg_i cI k.toNatClampNeg))) : wp (multianewarray.make cI [k]) Q E e d acts s := by
  rw [multianewarray.make]
  simp only [wp_bind', W.ite, hk, if_false, wp_pure', W.theClass, hI, hkI, Option.some.injEq, exists_eq_left']
  refine W.newArray_of hI hkI l2 m2 h1 h2 rfl (fun acts' => ?_)
  have := hq acts'
  unfold mg_i at this
  rw [← arrV_new] at this
  exact this
theorem mg_wp2 {cA cI ce : ClassId} {kA kI : Class} {n k : Int32} (hA : s.vm.classes[cA]? = some kA) (hkA : kA.kind = .array cI (.array .int)) (hI : s.vm.classes[cI]? = some kI) (hkI : kI.kind = .array ce .int) (hn : ¬ n < 0) (hk : ¬ k < 0)
    (l1 : ¬ n.toNatClampNeg > e.platform.arrayLengthLimit) (m1 : ¬ n.toNatClampNeg * componentBytes (.array .int) > e.platform.maxHeapBytes)
    (l2 : ¬ k.toNatClampNeg > e.platform.arrayLengthLimit) (m2 : ¬ k.toNatClampNeg * componentBytes .int > e.platform.maxHeapBytes)
    (hc : s.heap.size + 1 + n.toNatClampNeg ≤ e.platform.maxCells) (hs : s.slotsUsed + n.toNatClampNeg + n.toNatClampNeg * k.toNatClampNeg ≤ e.platform.maxSlots)
    {Q : Addr → Pre} (hq : ∀ d' acts', Q s.heap.size d' acts' (mg_st s cA cI n.toNatClampNeg k.toNatClampNeg n.toNatClampNeg)) : wp (multianewarray.make cA [n, k]) Q E e d acts s := by
  have hf : ([k].find? (· < 0)) = none := by simp [hk]
  rw [multianewarray.make]
  simp only [wp_bind', W.ite, hn, if_false, wp_pure', W.theClass, hA, hkA, Option.some.injEq, exists_eq_left']
  refine W.newArray_of hA hkA l1 m1 (by omega) (by have := Nat.zero_le (n.toNatClampNeg * k.toNatClampNeg); omega) rfl (fun acts1 => ?_)
  simp only [hf]
  rw [ite_self, wp_bind', Std.Legacy.Range.forIn_eq_forIn_range']
  have hsz : ([:n.toNatClampNeg] : Std.Legacy.Range).size = n.toNatClampNeg := by simp [Std.Legacy.Range.size]
  rw [hsz]
  show wp (forIn (List.range' 0 n.toNatClampNeg 1) PUnit.unit _) _ E e d _ _
  refine wp_forIn_inv (fun rest t => ∃ i, i ≤ n.toNatClampNeg ∧ rest = List.range' i (n.toNatClampNeg - i) ∧ t = mg_st s cA cI n.toNatClampNeg k.toNatClampNeg i) _ _ ⟨0, Nat.zero_le _, rfl, by rw [mg_st, mg_z]⟩ ?_ ?_
  · rintro x rest t d' acts' Q' ⟨i, hi, hl, rfl⟩ hnext
    have hlt : i < n.toNatClampNeg := by
      rcases Nat.lt_or_ge i n.toNatClampNeg with h | h
      · exact h
      · rw [show n.toNatClampNeg - i = 0 by omega] at hl
        cases hl
    rw [show n.toNatClampNeg - i = (n.toNatClampNeg - (i + 1)) + 1 by omega, List.range'_succ] at hl
    obtain ⟨hx, hr⟩ := List.cons.inj hl
    subst hx
    obtain ⟨f1, f2, f3, f4⟩ := mg_facts s cA cI n.toNatClampNeg k.toNatClampNeg x
    have hm : x * k.toNatClampNeg + k.toNatClampNeg ≤ n.toNatClampNeg * k.toNatClampNeg := by
      have := Nat.mul_le_mul_right k.toNatClampNeg (show x + 1 ≤ n.toNatClampNeg from hlt)
      rwa [Nat.succ_mul] at this
    simp only [wp_bind']
    refine mg_wp1 (by rw [f3]; exact hI) hkI hk l2 m2 (by rw [f1]; omega) (by rw [f4]; omega) (fun acts2 => ?_)
    simp only [wp_bind', W.writeLoc, wp_pure']
    have hz : s.heap.size < (mg_st s cA cI n.toNatClampNeg k.toNatClampNeg x).heap.size := by omega
    refine ⟨mg_o cA n.toNatClampNeg s.heap.size x, by rw [State.heap_pushCell_of_lt (h := hz)]; exact f2, by simp [mg_o, arrV], by unfold mg_o; rw [arrV_size]; exact hlt, ?_, hnext _ _ _ ⟨x + 1, hlt, hr, ?_⟩⟩
    · have : fits (.array .int) (.ref (mg_st s cA cI n.toNatClampNeg k.toNatClampNeg x).heap.size) = true := rfl
      simp [mg_o, arrV, State.fitsSlot, State.slotType?, f3, hA, hkA, this]
    · rw [f1, mg_next]
      rfl
  · rintro t d' acts' ⟨i, hi, hl, rfl⟩
    have hi2 : i = n.toNatClampNeg := by
      rcases Nat.lt_or_ge i n.toNatClampNeg with h | h
      · rw [show n.toNatClampNeg - i = (n.toNatClampNeg - (i + 1)) + 1 by omega, List.range'_succ] at hl
        cases hl
      · omega
    subst hi2
    simp only [wp_pure']
    exact hq _ _
end MGW
theorem mg_over {args : Array Value} {first s : State} {o : Option Outcome} {idx : List Nat} (h : (Cond.arrayOver (.array .int)).holds args first o s idx = true) :
    ∃ cI cA k, s.vm.findClass "[I" = some cI ∧ s.vm.classes[cA]? = some k ∧ k.kind = .array cI (.array .int) ∧ s.vm.findClass "[[I" = some cA := by
  have e1 : (FieldType.array .int).toString = "[I" := by decide +kernel
  have e2 : "[" ++ (FieldType.array .int).toString = "[[I" := by decide +kernel
  simp only [Cond.holds, Cond.value, beq_iff_eq] at h
  rw [e1] at h e2
  cases hc : s.vm.findClass "[I" with
  | none => simp [hc] at h
  | some cI =>
    simp only [hc, Option.bind_some, Option.bind_eq_some_iff, Option.map_eq_some_iff] at h
    obtain ⟨cA, hi, k, hk, hb⟩ := h
    obtain ⟨hlt, hp, -⟩ := Array.findIdx?_eq_some_iff_getElem.mp hi
    rw [(Array.getElem?_eq_some_iff.mp hk).2] at hp
    cases hkind : k.kind with
    | array c0 t0 =>
      rw [hkind] at hb hp
      simp only [Bool.and_eq_true, beq_iff_eq] at hb hp
      have h1 := of_decide_eq_true hb.1
      have h2 := of_decide_eq_true hb.2
      rw [e2] at h2
      exact ⟨cI, cA, k, rfl, hk, by rw [hkind, hp, h1], h2⟩
    | _ => rw [hkind] at hb; simp at hb
section MGS
variable {p : Program} {l : Launch} {e : Env} {R : Room} {s : State} {m : MethodId} {args : Array Value} {below : List Frame} {meth : Method} {c : Code} {T : State} {H : Heap} {locs : List Loc} {cells slots : Nat} {Q : State → Prop}
theorem mg_stand (X : Stand p l e R s m args below meth c T locs cells slots) (cA cI : ClassId) (n k : Nat) : ∀ i, Stand p l e R s m args below meth c (mg_st T cA cI n k i) locs (cells + 1 + i) (slots + n + i * k)
  | 0 => by
    have h := X.pushed (mg_o cA n T.heap.size 0)
    rw [mg_o, arrV_size] at h
    simpa [mg_st, mg_o] using h
  | i + 1 => by
    obtain ⟨f1, f2, f3, f4⟩ := mg_facts T cA cI n k i
    have hz : T.heap.size < (mg_st T cA cI n k i).heap.size := by omega
    have hc : ((mg_st T cA cI n k i).pushCell (mg_i cI k)).heap[T.heap.size]? = some (mg_o cA n T.heap.size i) := by rw [State.heap_pushCell_of_lt (h := hz)]; exact f2
    have h := ((mg_stand X cA cI n k i).pushed (mg_i cI k)).stored hc i (.ref (T.heap.size + 1 + i))
    rw [mg_next] at h
    have hg : s.heap.size ≤ T.heap.size := X.same.2.1
    have h2 := h.dropFresh (fun x hx => by
      rw [List.mem_singleton.mp hx]
      exact hg)
    have e1 : (mg_i cI k).slots.size = k := by rw [mg_i, arrV_size]
    rw [e1] at h2
    rw [show slots + n + (i + 1) * k = slots + n + i * k + k by rw [Nat.succ_mul]; omega]
    exact h2
theorem mg_row {cc : ByteArray} {pc : Nat} {ls : Array Slot} {rest : List Value} (hexec : p.tables.exec = Jvm.exec) (hb : c.code = cc) {own : String} {index : Nat} (hown : s.vm.findClass own = some m.cls) (hlink : (Cond.classLink own index "[[I").before args s = true)
    (hover : (Cond.arrayOver (.array .int)).before args s = true) (harr : (Cond.arrayClass .int).before args s = true) {n k : Int32} (hn : ¬ n < 0) (hk : ¬ k < 0) (b1 : n.toNatClampNeg ≤ 1000) (b2 : k.toNatClampNeg ≤ 1000)
    (hcells : cells + (1 + n.toNatClampNeg) ≤ R.cells) (hslots : slots + (n.toNatClampNeg + n.toNatClampNeg * k.toNatClampNeg) ≤ R.slots) (hdg : decode cc pc = .ok (.multianewarray index 2, 4))
    (kk : ∀ (H1 : Heap) (cA cI : ClassId), s.vm.findClass "[[I" = some cA → s.vm.findClass "[I" = some cI → H1.size = H.size + 1 + n.toNatClampNeg → (∀ q : Nat, q < H.size → H1[q]? = H[q]?) → H1[H.size]? = some (arrV cA n.toNatClampNeg (fun j => .ref (H.size + 1 + j))) → (∀ j, j < n.toNatClampNeg → H1[H.size + 1 + j]? = some (arrV cI k.toNatClampNeg (fun _ => .int 0))) →
      W p l e R s m args below meth c H1 locs (cells + 1 + n.toNatClampNeg) (slots + n.toNatClampNeg + n.toNatClampNeg * k.toNatClampNeg) Q (F0 m (pc + 4) ls (.ref H.size :: rest))) : W p l e R s m args below meth c H locs cells slots Q (F0 m pc ls (.int k :: .int n :: rest)) := by
  intro T hT X
  subst hT
  have hpl : e.platform.magicAccessors = ({} : Platform).magicAccessors := by rw [X.admits.platform]
  obtain ⟨cI, cA, kA, hfI, hkA, hkindA, hfA⟩ := mg_over hover
  obtain ⟨cI', kI, ce, hfI', hkI, hkindI⟩ := Cond.arrayClass_spec harr
  have eI : ("[" ++ FieldType.int.toString) = "[I" := by decide +kernel
  rw [eI] at hfI'
  cases Option.some.inj (hfI'.symm.trans hfI)
  obtain ⟨c0, hfc0, hcl⟩ := Cond.classLink_spec hown hlink e.platform hpl
  cases hfA.symm.trans hfc0
  obtain ⟨hg₁, hw₁, hr₁⟩ := State.classEntry (e := e) X.warmed hcl
  generalize T.vm.noted m.cls index (.cls cA) = vm₁ at hg₁ hw₁ hr₁
  obtain ⟨kA₁, hkA₁, heA⟩ := hw₁.alike.2.2 _ _ hkA
  obtain ⟨kI₁, hkI₁, heI⟩ := hw₁.alike.2.2 _ _ hkI
  have hkindA₁ : kA₁.kind = .array cI (.array .int) := by rw [heA]; exact hkindA
  have hkindI₁ : kI₁.kind = .array ce .int := by rw [heI]; exact hkindI
  have X₁ := X.noted hw₁
  obtain ⟨r1, r2⟩ := X.roomAbove hcells hslots
  have XF := mg_stand X₁ cA cI n.toNatClampNeg k.toNatClampNeg n.toNatClampNeg
  obtain ⟨f1, f2, f3, f4⟩ := mg_facts (T.setVm vm₁) cA cI n.toNatClampNeg k.toNatClampNeg n.toNatClampNeg
  obtain ⟨t, a1, b1'⟩ := kk (mg_st (T.setVm vm₁) cA cI n.toNatClampNeg k.toNatClampNeg n.toNatClampNeg).heap cA cI hfA hfI f1 (fun q hq => mg_old (T.setVm vm₁) cA cI _ _ hq _) (by
    rw [show T.heap.size = (T.setVm vm₁).heap.size from rfl, f2]
    exact congrArg some (mg_congr fun j hj => if_pos hj)) (fun j hj => mg_in (T.setVm vm₁) cA cI _ _ _ j hj) _ rfl XF
  refine ⟨t, ?_, b1'⟩
  have l1 : ¬ n.toNatClampNeg > e.platform.arrayLengthLimit := by rw [Launch.admits_arrayLengthLimit X.admits]; omega
  have m1 : ¬ n.toNatClampNeg * componentBytes (.array .int) > e.platform.maxHeapBytes := by
    rw [Launch.admits_maxHeapBytes X.admits]; show ¬ n.toNatClampNeg * 4 > 536870912; omega
  have l2 : ¬ k.toNatClampNeg > e.platform.arrayLengthLimit := by rw [Launch.admits_arrayLengthLimit X.admits]; omega
  have m2 : ¬ k.toNatClampNeg * componentBytes .int > e.platform.maxHeapBytes := by
    rw [Launch.admits_maxHeapBytes X.admits]; show ¬ k.toNatClampNeg * 4 > 536870912; omega
  have hdg' : decode c.code pc = .ok (.multianewarray index 2, 4) := by rw [hb]; exact hdg
  jvm_step X.here [hexec, hdg']
  simp only [multianewarray.sem, wp_bind', W.resolveClassAt_links (State.method?_setTop (F0 m pc ls (.int k :: .int n :: rest)) X.here.top) hg₁]
  rw [W.popN, if_neg (by decide)]
  refine ⟨F0 m pc ls (.int k :: .int n :: rest), State.topJava?_setTop' (s := T.setVm vm₁) (F0 m pc ls (.int k :: .int n :: rest)) X.here.top, [.int n, .int k], rest, rfl, rfl, ?_⟩
  simp only [List.mapM_cons, List.mapM_nil, wp_bind', wp_pure']
  refine mg_wp2 (kA := kA₁) (kI := kI₁) (cI := cI) (ce := ce) hkA₁ hkindA₁ hkI₁ hkindI₁ hn hk l1 m1 l2 m2 (by show T.heap.size + 1 + _ ≤ _; omega) (by show T.slotsUsed + _ + _ ≤ _; omega) (fun d' acts' => ?_)
  have eS : ∀ g : JFrame, ((T.setTop (F0 m pc ls (.int k :: .int n :: rest))).setVm vm₁).setTop g = (T.setVm vm₁).setTop g := fun g => by
    show ((T.setVm vm₁).setTop _).setTop _ = _
    rw [State.setTop_setTop]
  rw [eS, mg_top]
  simp only [wp_bind', W.mark, W.pushRef, State.topJava?_setTop' _ XF.here.top, Option.some.injEq, exists_eq_left', State.setTop_setTop, State.heap_setTop]
  intro acts
  simp [jvm, XF.here.top]
  exact a1
end MGS
