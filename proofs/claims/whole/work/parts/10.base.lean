/-! the fixed world's cells, the judgement of a method's walk over it, contracts -/
/-- a field's value, by its code -/
def rfv (ρ : Nat → Nat) (i : Nat) : Value := if i = 0 then .null else .ref (ρ i)
def fv (ρ : Nat → Nat) (a : Nat → Int32) (z : Nat → Nat) (i k code : Nat) : Value := if code = 0 then .int (a k) else if code < 10 then rfv ρ (z (code - 5)) else if code < 100 then .ref (ρ (i + (code - 10))) else .ref (ρ (code - 100))
def obf (ρ : Nat → Nat) (a : Nat → Int32) (z : Nat → Nat) (i c : Nat) : List Value := (fspl.getD c []).zipIdx.map (fun q => fv ρ a z i q.2 q.1)
def celx (ρ : Nat → Nat) (cs : Nat → ClassId) (a : Nat → Int32) (b : Nat → Int64) (z : Nat → Nat) (i : Nat) : Nat × Nat × Nat → va_E
  | (1, n, _) => .inl (cs 0, n, .inl a)
  | (2, n, _) => .inl (cs 1, n, .inl a)
  | (3, n, _) => .inl (cs 2, n, .inl a)
  | (4, n, _) => .inl (cs 3, n, .inr (.inl b))
  | (5, n, f) => .inl (cs 4, n, .inr (.inr (.inr (.inr (fun j => if j < n then some (ρ (f + 3 * j)) else none)))))
  | (6, n, f) => .inl (cs 5, n, .inr (.inr (.inr (.inr (fun j => if j < n then some (ρ (f + j)) else none)))))
  | (_, c, _) => .inr (c, obf ρ a z i c)
def cel (ρ : Nat → Nat) (cs : Nat → ClassId) (w : Wd) (i : Nat) : va_E := celx ρ cs (w.1 i) (w.2.1 i) w.2.2 i (sh i)
def cells (ρ : Nat → Nat) (cs : Nat → ClassId) (w : Wd) : va_W := (List.range vN).map (fun i => (ρ i, cel ρ cs w i))
abbrev tysO (cs : Nat → ClassId) : List (ClassId × FieldType) := [(cs 0, .int), (cs 1, .byte), (cs 2, .boolean), (cs 3, .long), (cs 4, .object "SowingBoards$Position"), (cs 5, .array .int)]
def A0 (ρ : Nat → Nat) : Nat → Prop := fun q => ∃ i, i < vN ∧ q = ρ i
def injN (ρ : Nat → Nat) : Prop := ∀ i j, i < vN → j < vN → ρ i = ρ j → i = j
/-- a place of a cell is written -/
def wI (w : Wd) (i k : Nat) (v : Int32) : Wd := (fun a b => if a = i ∧ b = k then v else w.1 a b, w.2)
def wJ (w : Wd) (i k : Nat) (v : Int64) : Wd := (w.1, fun a b => if a = i ∧ b = k then v else w.2.1 a b, w.2.2)
def wZ (w : Wd) (k : Nat) (v : Nat) : Wd := (w.1, w.2.1, fun b => if b = k then v else w.2.2 b)
theorem cells_get {ρ : Nat → Nat} {cs : Nat → ClassId} {w : Wd} {i : Nat} (hi : i < vN) {e : va_E} (he : cel ρ cs w i = e) : (cells ρ cs w)[i]? = some (ρ i, e) := by
  subst he
  simp [cells, List.getElem?_map, List.getElem?_range hi]
theorem cells_set {ρ : Nat → Nat} {cs : Nat → ClassId} {w w' : Wd} {i : Nat} {e : va_E} (he : cel ρ cs w' i = e) (ho : ∀ j, j ≠ i → cel ρ cs w' j = cel ρ cs w j) : (cells ρ cs w).set i (ρ i, e) = cells ρ cs w' := by
  subst he
  apply List.ext_getElem?
  intro j
  rw [List.getElem?_set]
  simp only [cells, List.getElem?_map, List.length_map, List.length_range]
  by_cases hj : j < vN
  · rw [List.getElem?_range hj]
    by_cases e : i = j
    · subst e
      simp [hj]
    · rw [if_neg e]
      simp [ho j (fun q => e q.symm)]
  · have : (List.range vN)[j]? = none := by simp; omega
    rw [this]
    by_cases e : i = j
    · subst e
      simp [hj]
    · simp [e]
theorem cells_D {ρ : Nat → Nat} {cs : Nat → ClassId} {w : Wd} (h : injN ρ) : va_D (A0 ρ) (cells ρ cs w) := by
  have key : ∀ (k : Nat) (q : Nat × va_E), (cells ρ cs w)[k]? = some q → k < vN ∧ q.1 = ρ k := by
    intro k q hk
    have hl := (List.getElem?_eq_some_iff.mp hk).1
    simp only [cells, List.length_map, List.length_range] at hl
    rw [cells_get hl rfl] at hk
    cases hk
    exact ⟨hl, rfl⟩
  refine ⟨fun i j p q hi hj hpq => ?_, fun k q hk => ?_⟩
  · obtain ⟨a1, a2⟩ := key i p hi
    obtain ⟨b1, b2⟩ := key j q hj
    exact h i j a1 b1 (by rw [← a2, ← b2]; exact hpq)
  · obtain ⟨a1, a2⟩ := key k q hk
    exact ⟨k, a1, a2⟩
theorem wI_ne {ρ : Nat → Nat} {cs : Nat → ClassId} {w : Wd} {i k j : Nat} {v : Int32} (h : j ≠ i) : cel ρ cs (wI w i k v) j = cel ρ cs w j := by
  have : (wI w i k v).1 j = w.1 j := by
    funext b
    simp [wI, h]
  unfold cel
  rw [this]
  rfl
theorem wJ_ne {ρ : Nat → Nat} {cs : Nat → ClassId} {w : Wd} {i k j : Nat} {v : Int64} (h : j ≠ i) : cel ρ cs (wJ w i k v) j = cel ρ cs w j := by
  have : (wJ w i k v).2.1 j = w.2.1 j := by
    funext b
    simp [wJ, h]
  unfold cel
  rw [this]
  rfl
theorem wI_row (w : Wd) (i k : Nat) (v : Int32) : (wI w i k v).1 i = upd (w.1 i) k v := by
  funext b
  simp [wI, upd]
theorem wJ_row (w : Wd) (i k : Nat) (v : Int64) : (wJ w i k v).2.1 i = vp_updL (w.2.1 i) k v := by
  funext b
  simp [wJ, vp_updL]
/-- an object's fields -/
theorem obf_get {ρ : Nat → Nat} {a : Nat → Int32} {z : Nat → Nat} {i c k code : Nat} (h : (fspl.getD c [])[k]? = some code) : (obf ρ a z i c)[k]? = some (fv ρ a z i k code) := by
  unfold obf
  rw [List.getElem?_map, List.getElem?_zipIdx, h]
  simp
theorem obf_len {ρ : Nat → Nat} {a : Nat → Int32} {z : Nat → Nat} {i c : Nat} : (obf ρ a z i c).length = (fspl.getD c []).length := by simp [obf]
theorem obf_set {ρ : Nat → Nat} {a : Nat → Int32} {z : Nat → Nat} {i c k : Nat} {v : Int32} (h : (fspl.getD c [])[k]? = some 0) : (obf ρ a z i c).set k (.int v) = obf ρ (upd a k v) z i c := by
  apply List.ext_getElem?
  intro j
  rw [List.getElem?_set]
  by_cases e : k = j
  · subst e
    rw [if_pos rfl, obf_get h]
    have hl : k < (obf ρ a z i c).length := by rw [obf_len]; exact (List.getElem?_eq_some_iff.mp h).1
    rw [if_pos hl]
    simp [fv, upd]
  · rw [if_neg e]
    cases hx : (fspl.getD c [])[j]? with
    | none => rw [List.getElem?_eq_none (by rw [obf_len]; exact List.getElem?_eq_none_iff.mp hx), List.getElem?_eq_none (by rw [obf_len]; exact List.getElem?_eq_none_iff.mp hx)]
    | some code =>
      rw [obf_get hx, obf_get hx]
      have : (upd a k v) j = a j := by simp [upd, Ne.symm e]
      unfold fv
      rw [this]
theorem cel_ob {ρ : Nat → Nat} {cs : Nat → ClassId} {w : Wd} {i c f : Nat} (h : sh i = (7, c, f)) : cel ρ cs w i = .inr (c, obf ρ (w.1 i) w.2.2 i c) := by
  unfold cel
  rw [h]
  rfl
/-- what was there before, outside the world, and nobody writes: the two texts, the static row; their cells have numbers from 200 on -/
def Old (ρ : Nat → Nat) (U : State) (H : Heap) : Prop :=
  vk_S 2 [6, 7] [[115, 114, 99, 107, 120, 116], [116, 97, 112, 110, 108, 101, 111]] (fun i => ρ (200 + i)) (fun i => ρ (210 + i)) (A0 ρ) U H ∧ vk_R "SowingBoards" 173 "srckxt" (ρ 200) U ∧ vk_R "SowingBoards$Rule" 51 "tapnleo" (ρ 201) U ∧ va_Z "SowingBoards" "MOST_TOLD" "[I" (.ref (ρ 202)) (A0 ρ) U H ∧ va_T .int (ρ 202) 5 (fun j => .int (([1, 9, 9, 5, 1] : List Int32).getD j 0)) (A0 ρ) U H ∧ va_Z "java/lang/String" "COMPACT_STRINGS" "Z" (.int 1) (A0 ρ) U H ∧ ∀ w ∈ vnl, va_Nw w U
theorem vnl_warm {s U : State} (hW : s.WarmedH U.vm) {w : Cond} (hw : isNw w = true) (h : va_Nw w s) : va_Nw w U := by
  cases w <;> first | exact va_Nw.warmF hW h | exact va_Nw.warmM hW h | cases hw
theorem vnl_same {s U : State} (hv : s.vm = U.vm) {w : Cond} (hw : isNw w = true) (h : va_Nw w s) : va_Nw w U := by
  cases w <;> first | exact va_Nw.same rfl hv h | cases hw
theorem Old.warm {ρ : Nat → Nat} {s U : State} {H : Heap} (hW : s.WarmedH U.vm) (h : Old ρ s H) : Old ρ U H :=
  ⟨vk_S.moved hW.alike h.1, vk_R.warm hW h.2.1, vk_R.warm hW h.2.2.1, va_Z.moved hW.alike h.2.2.2.1, va_T.moved hW.alike h.2.2.2.2.1, va_Z.moved hW.alike h.2.2.2.2.2.1, fun w hw => vnl_warm hW (List.mem_filter.mp hw).2 (h.2.2.2.2.2.2 w hw)⟩
theorem Old.same {ρ : Nat → Nat} {u U : State} {H : Heap} (hv : U.vm = u.vm) (ha : u.vm.Alike U.vm) (h : Old ρ u H) : Old ρ U H :=
  ⟨vk_S.moved ha h.1, vk_R.same hv h.2.1, vk_R.same hv h.2.2.1, va_Z.moved ha h.2.2.2.1, va_T.moved ha h.2.2.2.2.1, va_Z.moved ha h.2.2.2.2.2.1, fun w hw => vnl_same hv.symm (List.mem_filter.mp hw).2 (h.2.2.2.2.2.2 w hw)⟩
theorem Old.kept {ρ : Nat → Nat} {U : State} {H H1 : Heap} (h : Old ρ U H) (hq : ∀ a : Nat, a < H.size → ¬ A0 ρ a → H1[a]? = H[a]?) : Old ρ U H1 :=
  ⟨vk_S.kept h.1 hq, h.2.1, h.2.2.1, va_Z.kept h.2.2.2.1 hq, va_T.kept h.2.2.2.2.1 hq, va_Z.kept h.2.2.2.2.2.1 hq, h.2.2.2.2.2.2⟩
/-- the judgement: the machine, at pc with the locals L and the stack st over the world w, comes to a state with Q -/
abbrev Cx : Type := Program × Launch × Env × Room × State × MethodId × Array Value × List Frame × Method × Code × Nat × Nat × Nat × (State → Prop)
def gG (ρ : Nat → Nat) (cs : Nat → ClassId) (G : va_G) (X : Cx) (pc : Nat) (L : List (Nat × Value)) (st : List Value) (w : Wd) : Prop :=
  match X with
  | (p, l, e, R, s, m, args, below, meth, c, n, kc, ks, Q) => ∀ (H : Heap) (locs : List Loc) (ls : Array Slot), va_P G vcls (cells ρ cs w) H → va_S (A0 ρ) s.heap H locs → lv_has ls n L → W p l e R s m args below meth c H locs kc ks Q (F0 m pc ls st)
abbrev rmd (d : Nat) : Room := { frames := d + 1, cells := 0, slots := 0, locals := 64 * (d + 1) }
def Okx (l0 : Launch) (ρ : Nat → Nat) (cs : Nat → ClassId) (G : va_G) (X : Cx) (cc : ByteArray) (own : String) (d : Nat) : Prop :=
  match X with
  | (p, l, _, R, s, m, args, _, _, c, n, kc, ks, _) => l = l0 ∧ p.tables.exec = Jvm.exec ∧ c.code = cc ∧ c.maxLocals = n ∧ s.vm.findClass own = some m.cls ∧ (∀ w ∈ vtb, w.before args s = true) ∧ va_K G vcls (tysO cs) s ∧ injN ρ ∧ (d + 1 ≤ R.frames ∧ 64 * (d + 1) ≤ R.locals ∧ kc ≤ R.cells ∧ ks ≤ R.slots) ∧ Old ρ s s.heap
/-- the world as it stands at a state -/
def Wld (ρ : Nat → Nat) (cs : Nat → ClassId) (G : va_G) (w : Wd) (U : State) : Prop := va_P G vcls (cells ρ cs w) U.heap ∧ va_K G vcls (tysO cs) U ∧ Old ρ U U.heap
abbrev wsO (y : MethodName) (cc : ByteArray) (maxL : Nat) (ret : Option FieldType) : List Cond := Cond.code y cc maxL ret :: vtb
/-- contracts: with these arguments over the world w the method answers r, the world is w' then -/
def CtI (l : Launch) (ρ : Nat → Nat) (cs : Nat → ClassId) (G : va_G) (y : MethodName) (cc : ByteArray) (maxL : Nat) (ty : FieldType) (d : Nat) (av : List Value) (w : Wd) (r : Int32) (w' : Wd) : Prop :=
  Met l y (wsO y cc maxL (some ty)) (rmd d) (va_Pc av (Wld ρ cs G w)) (va_Qi (fun (r' : Int32) (_ : Unit) => r' = r) (fun _ t => Wld ρ cs G w' t) (A0 ρ)) 0 0 (A0 ρ)
def CtJ (l : Launch) (ρ : Nat → Nat) (cs : Nat → ClassId) (G : va_G) (y : MethodName) (cc : ByteArray) (maxL : Nat) (d : Nat) (av : List Value) (w : Wd) (r : Int64) (w' : Wd) : Prop :=
  Met l y (wsO y cc maxL (some .long)) (rmd d) (va_Pc av (Wld ρ cs G w)) (va_Ql (fun (r' : Int64) (_ : Unit) => r' = r) (fun _ t => Wld ρ cs G w' t) (A0 ρ)) 0 0 (A0 ρ)
def CtV (l : Launch) (ρ : Nat → Nat) (cs : Nat → ClassId) (G : va_G) (y : MethodName) (cc : ByteArray) (maxL : Nat) (d : Nat) (av : List Value) (w : Wd) (w' : Wd) : Prop :=
  Met l y (wsO y cc maxL none) (rmd d) (va_Pc av (Wld ρ cs G w)) (va_Qv (fun _ : Unit => True) (fun _ t => Wld ρ cs G w' t) (A0 ρ)) 0 0 (A0 ρ)
def CtR (l : Launch) (ρ : Nat → Nat) (cs : Nat → ClassId) (G : va_G) (y : MethodName) (cc : ByteArray) (maxL : Nat) (ty : FieldType) (d : Nat) (av : List Value) (w : Wd) (r : Nat) (w' : Wd) : Prop :=
  Met l y (wsO y cc maxL (some ty)) (rmd d) (va_Pc av (Wld ρ cs G w)) (va_Qr (fun _ : Unit => True) (fun _ a t => a = ρ r ∧ Wld ρ cs G w' t) (A0 ρ)) 0 0 (A0 ρ)
