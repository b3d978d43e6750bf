/-! rows of the walk: an instruction, a row; hD is what the plain function says of the rest -/
def bd {α β : Type} (a : α) (f : α → β) : β := f a
def bc {α β γ : Type} (o : Option (α × β)) (f : α → β → Option γ) : Option γ := o.bind fun q => f q.1 q.2
def bv {α γ : Type} (o : Option α) (f : α → Option γ) : Option γ := o.bind f
def ib (i : Int32) (n : Nat) : Bool := decide (0 ≤ i) && decide (i.toNatClampNeg < n)
theorem ib_in {i : Int32} {n : Nat} (h : ib i n = true) : vp_in i n := by
  simp only [ib, Bool.and_eq_true, decide_eq_true_eq] at h
  rintro (q | q)
  · exact absurd h.1 (Int32.not_le.mpr q)
  · omega
theorem of_ite {α : Type} {c : Prop} [Decidable c] {a : Option α} {r : α} (h : (if c then a else none) = some r) : c ∧ a = some r := by
  by_cases q : c
  · rw [if_pos q] at h
    exact ⟨q, h⟩
  · rw [if_neg q] at h
    cases h
def bq (q : Nat) : Bool := q == 121 || q == 124 || q == 125
theorem bq_ok {q : Nat} (h : bq q = true) : q ≠ 0 ∧ q < vN ∧ (sh q).1 = 2 := by
  simp only [bq, Bool.or_eq_true, beq_iff_eq] at h
  rcases h with (h | h) | h <;> subst h <;> exact ⟨by decide, by decide, rfl⟩
def FLk (own : String) (idx c k : Nat) : Prop := ∃ q, vcls[c]? = some q ∧ k < q.2.2 ∧ (Cond.fieldLink own idx (q.2.1 k).1 (q.2.1 k).2.1 (q.2.1 k).2.2.1 ∈ vtb ∨ ∃ host, Cond.fieldLinkNest own idx (q.2.1 k).1 (q.2.1 k).2.1 (q.2.1 k).2.2.1 host ∈ vnl)
def FPk (c k : Nat) (d : String) : Prop := ∃ q, vcls[c]? = some q ∧ (q.2.1 k).2.2.2 = false ∧ (q.2.1 k).2.2.1 = d
theorem p_I : parseFieldDescriptor "I" = some .int := by decide +kernel
theorem p_Z : parseFieldDescriptor "Z" = some .boolean := by decide +kernel
theorem p_B : parseFieldDescriptor "[B" = some (.array .byte) := by decide +kernel
def b01 (v : Int32) : Bool := v == 0 || v == 1
theorem b01_n {v : Int32} (h : b01 v = true) : narrow .boolean (.int v) = .int v := by
  simp only [b01, Bool.or_eq_true, beq_iff_eq] at h
  rcases h with h | h <;> subst h <;> rfl
theorem b01_f {v : Int32} (h : b01 v = true) : fits .boolean (.int v) = true := by
  simp only [b01, Bool.or_eq_true, beq_iff_eq] at h
  rcases h with h | h <;> subst h <;> rfl

section GR
variable {l0 : Launch} {ρ : Nat → Nat} {cs : Nat → ClassId} {G : va_G} {X : Cx} {cc : ByteArray} {own : String} {d : Nat} {pc : Nat} {L L' : List (Nat × Value)} {st : List Value} {w : Wd} {α : Type} {B E : Option α} {rr : α}
theorem g_iconst (h : Okx l0 ρ cs G X cc own d) {n : Int} {v : Int32} (hd : decode cc pc = .ok (.iconst n, 1)) (hv : Int32.ofInt n = v)
    (kk : gG ρ cs G X (pc + 1) L (.int v :: st) w) : gG ρ cs G X pc L st w := by
  obtain ⟨p, l, e, R, s, m, args, below, meth, c, n, kc, ks, Q⟩ := X
  obtain ⟨hll, hx, hb, hml, hown, hts, hK, hin, hR, hO⟩ := h
  intro H locs ls hP hS hl
  exact lv_iconst hx hb hd hv (kk H locs ls hP hS hl)
theorem g_bipush (h : Okx l0 ρ cs G X cc own d) {n : Int} {v : Int32} (hd : decode cc pc = .ok (.bipush n, 2)) (hv : (Int8.ofInt n).toInt32 = v)
    (kk : gG ρ cs G X (pc + 2) L (.int v :: st) w) : gG ρ cs G X pc L st w := by
  obtain ⟨p, l, e, R, s, m, args, below, meth, c, n, kc, ks, Q⟩ := X
  obtain ⟨hll, hx, hb, hml, hown, hts, hK, hin, hR, hO⟩ := h
  intro H locs ls hP hS hl
  exact lv_bipush hx hb hd hv (kk H locs ls hP hS hl)
theorem g_sipush (h : Okx l0 ρ cs G X cc own d) {n : Int} {v : Int32} (hd : decode cc pc = .ok (.sipush n, 3)) (hv : (Int16.ofInt n).toInt32 = v)
    (kk : gG ρ cs G X (pc + 3) L (.int v :: st) w) : gG ρ cs G X pc L st w := by
  obtain ⟨p, l, e, R, s, m, args, below, meth, c, n, kc, ks, Q⟩ := X
  obtain ⟨hll, hx, hb, hml, hown, hts, hK, hin, hR, hO⟩ := h
  intro H locs ls hP hS hl
  exact lv_sipush hx hb hd hv (kk H locs ls hP hS hl)
theorem g_lconst (h : Okx l0 ρ cs G X cc own d) {n : Fin 2} {v : Int64} (hd : decode cc pc = .ok (.lconst n, 1)) (hv : Int64.ofNat (n : Nat) = v)
    (kk : gG ρ cs G X (pc + 1) L (.long v :: st) w) : gG ρ cs G X pc L st w := by
  obtain ⟨p, l, e, R, s, m, args, below, meth, c, n, kc, ks, Q⟩ := X
  obtain ⟨hll, hx, hb, hml, hown, hts, hK, hin, hR, hO⟩ := h
  intro H locs ls hP hS hl
  exact lv_lconst hx hb hd hv (kk H locs ls hP hS hl)
theorem g_ldc (h : Okx l0 ρ cs G X cc own d) {i : Nat} {v : Int32} (hd : decode cc pc = .ok (.ldc i, 2)) (hc : Cond.constant own i v ∈ vtb)
    (kk : gG ρ cs G X (pc + 2) L (.int v :: st) w) : gG ρ cs G X pc L st w := by
  obtain ⟨p, l, e, R, s, m, args, below, meth, c, n, kc, ks, Q⟩ := X
  obtain ⟨hll, hx, hb, hml, hown, hts, hK, hin, hR, hO⟩ := h
  intro H locs ls hP hS hl
  exact lv_ldc hx hb hown (hts _ hc) hd (kk H locs ls hP hS hl)
theorem g_ldcw (h : Okx l0 ρ cs G X cc own d) {i : Nat} {v : Int32} (hd : decode cc pc = .ok (.ldc_w i, 3)) (hc : Cond.constant own i v ∈ vtb)
    (kk : gG ρ cs G X (pc + 3) L (.int v :: st) w) : gG ρ cs G X pc L st w := by
  obtain ⟨p, l, e, R, s, m, args, below, meth, c, n, kc, ks, Q⟩ := X
  obtain ⟨hll, hx, hb, hml, hown, hts, hK, hin, hR, hO⟩ := h
  intro H locs ls hP hS hl
  exact lv_ldcw hx hb hown (hts _ hc) hd (kk H locs ls hP hS hl)
theorem g_ldc2 (h : Okx l0 ρ cs G X cc own d) {i : Nat} {v : Int64} (hd : decode cc pc = .ok (.ldc2_w i, 3)) (hc : Cond.constantLong own i v ∈ vtb)
    (kk : gG ρ cs G X (pc + 3) L (.long v :: st) w) : gG ρ cs G X pc L st w := by
  obtain ⟨p, l, e, R, s, m, args, below, meth, c, n, kc, ks, Q⟩ := X
  obtain ⟨hll, hx, hb, hml, hown, hts, hK, hin, hR, hO⟩ := h
  intro H locs ls hP hS hl
  exact lv_ldc2 hx hb hown (hts _ hc) hd (kk H locs ls hP hS hl)
theorem g_iload_n (h : Okx l0 ρ cs G X cc own d) {k : Fin 4} (j : Nat) {x : Int32} (hd : decode cc pc = .ok (.iload_n k, 1)) (hj : L[j]? = some ((k : Nat), .int x))
    (kk : gG ρ cs G X (pc + 1) L (.int x :: st) w) : gG ρ cs G X pc L st w := by
  obtain ⟨p, l, e, R, s, m, args, below, meth, c, n, kc, ks, Q⟩ := X
  obtain ⟨hll, hx, hb, hml, hown, hts, hK, hin, hR, hO⟩ := h
  intro H locs ls hP hS hl
  exact lv_iload_n hx hb hd rfl (lv_at hl j hj) (kk H locs ls hP hS hl)
theorem g_iload (h : Okx l0 ρ cs G X cc own d) {k : Nat} (j : Nat) {x : Int32} (hd : decode cc pc = .ok (.iload k, 2)) (hj : L[j]? = some (k, .int x))
    (kk : gG ρ cs G X (pc + 2) L (.int x :: st) w) : gG ρ cs G X pc L st w := by
  obtain ⟨p, l, e, R, s, m, args, below, meth, c, n, kc, ks, Q⟩ := X
  obtain ⟨hll, hx, hb, hml, hown, hts, hK, hin, hR, hO⟩ := h
  intro H locs ls hP hS hl
  exact lv_iload hx hb hd (lv_at hl j hj) (kk H locs ls hP hS hl)
theorem g_lload_n (h : Okx l0 ρ cs G X cc own d) {k : Fin 4} (j : Nat) {x : Int64} (hd : decode cc pc = .ok (.lload_n k, 1)) (hj : L[j]? = some ((k : Nat), .long x))
    (kk : gG ρ cs G X (pc + 1) L (.long x :: st) w) : gG ρ cs G X pc L st w := by
  obtain ⟨p, l, e, R, s, m, args, below, meth, c, n, kc, ks, Q⟩ := X
  obtain ⟨hll, hx, hb, hml, hown, hts, hK, hin, hR, hO⟩ := h
  intro H locs ls hP hS hl
  exact lv_lload_n hx hb hd rfl (lv_at hl j hj) (kk H locs ls hP hS hl)
theorem g_lload (h : Okx l0 ρ cs G X cc own d) {k : Nat} (j : Nat) {x : Int64} (hd : decode cc pc = .ok (.lload k, 2)) (hj : L[j]? = some (k, .long x))
    (kk : gG ρ cs G X (pc + 2) L (.long x :: st) w) : gG ρ cs G X pc L st w := by
  obtain ⟨p, l, e, R, s, m, args, below, meth, c, n, kc, ks, Q⟩ := X
  obtain ⟨hll, hx, hb, hml, hown, hts, hK, hin, hR, hO⟩ := h
  intro H locs ls hP hS hl
  exact lv_lload hx hb hd (lv_at hl j hj) (kk H locs ls hP hS hl)
theorem g_aload_n (h : Okx l0 ρ cs G X cc own d) {k : Fin 4} (j : Nat) {x : Nat} (hd : decode cc pc = .ok (.aload_n k, 1)) (hj : L[j]? = some ((k : Nat), .ref x))
    (kk : gG ρ cs G X (pc + 1) L (.ref x :: st) w) : gG ρ cs G X pc L st w := by
  obtain ⟨p, l, e, R, s, m, args, below, meth, c, n, kc, ks, Q⟩ := X
  obtain ⟨hll, hx, hb, hml, hown, hts, hK, hin, hR, hO⟩ := h
  intro H locs ls hP hS hl
  exact lv_aload_n hx hb hd rfl (lv_at hl j hj) (kk H locs ls hP hS hl)
theorem g_aload (h : Okx l0 ρ cs G X cc own d) {k : Nat} (j : Nat) {x : Nat} (hd : decode cc pc = .ok (.aload k, 2)) (hj : L[j]? = some (k, .ref x))
    (kk : gG ρ cs G X (pc + 2) L (.ref x :: st) w) : gG ρ cs G X pc L st w := by
  obtain ⟨p, l, e, R, s, m, args, below, meth, c, n, kc, ks, Q⟩ := X
  obtain ⟨hll, hx, hb, hml, hown, hts, hK, hin, hR, hO⟩ := h
  intro H locs ls hP hS hl
  exact lv_aload hx hb hd (lv_at hl j hj) (kk H locs ls hP hS hl)
theorem g_istore_n (h : Okx l0 ρ cs G X cc own d) {k : Fin 4} {i n0 : Nat} {x : Int32} (hn : X.2.2.2.2.2.2.2.2.2.2.1 = n0) (hd : decode cc pc = .ok (.istore_n k, 1)) (hi : (k : Nat) = i) (hb0 : i < n0) (hL : (i, Value.int x) :: L.filter (fun q => !(q.1 == i) && !(q.1 + 1 == i && q.2.category == 2)) = L')
    (kk : gG ρ cs G X (pc + 1) L' st w) : gG ρ cs G X pc L (.int x :: st) w := by
  obtain ⟨p, l, e, R, s, m, args, below, meth, c, n, kc, ks, Q⟩ := X
  obtain ⟨hll, hx, hb, hml, hown, hts, hK, hin, hR, hO⟩ := h
  intro H locs ls hP hS hl
  have hn : n = n0 := hn
  subst hn
  exact lv_istore_n hx hb hd hi hl hb0 hL (fun ls hl => kk H locs ls hP hS hl)
theorem g_istore (h : Okx l0 ρ cs G X cc own d) {i n0 : Nat} {x : Int32} (hn : X.2.2.2.2.2.2.2.2.2.2.1 = n0) (hd : decode cc pc = .ok (.istore i, 2)) (hb0 : i < n0) (hL : (i, Value.int x) :: L.filter (fun q => !(q.1 == i) && !(q.1 + 1 == i && q.2.category == 2)) = L')
    (kk : gG ρ cs G X (pc + 2) L' st w) : gG ρ cs G X pc L (.int x :: st) w := by
  obtain ⟨p, l, e, R, s, m, args, below, meth, c, n, kc, ks, Q⟩ := X
  obtain ⟨hll, hx, hb, hml, hown, hts, hK, hin, hR, hO⟩ := h
  intro H locs ls hP hS hl
  have hn : n = n0 := hn
  subst hn
  exact lv_istore hx hb hd hl hb0 hL (fun ls hl => kk H locs ls hP hS hl)
theorem g_lstore_n (h : Okx l0 ρ cs G X cc own d) {k : Fin 4} {i n0 : Nat} {x : Int64} (hn : X.2.2.2.2.2.2.2.2.2.2.1 = n0) (hd : decode cc pc = .ok (.lstore_n k, 1)) (hi : (k : Nat) = i) (hb0 : i + 1 < n0) (hL : (i, Value.long x) :: L.filter (fun q => !(q.1 == i) && (!(q.1 == i + 1) && !(q.1 + 1 == i && q.2.category == 2))) = L')
    (kk : gG ρ cs G X (pc + 1) L' st w) : gG ρ cs G X pc L (.long x :: st) w := by
  obtain ⟨p, l, e, R, s, m, args, below, meth, c, n, kc, ks, Q⟩ := X
  obtain ⟨hll, hx, hb, hml, hown, hts, hK, hin, hR, hO⟩ := h
  intro H locs ls hP hS hl
  have hn : n = n0 := hn
  subst hn
  exact lv_lstore_n hx hb hd hi hl hb0 hL (fun ls hl => kk H locs ls hP hS hl)
theorem g_lstore (h : Okx l0 ρ cs G X cc own d) {i n0 : Nat} {x : Int64} (hn : X.2.2.2.2.2.2.2.2.2.2.1 = n0) (hd : decode cc pc = .ok (.lstore i, 2)) (hb0 : i + 1 < n0) (hL : (i, Value.long x) :: L.filter (fun q => !(q.1 == i) && (!(q.1 == i + 1) && !(q.1 + 1 == i && q.2.category == 2))) = L')
    (kk : gG ρ cs G X (pc + 2) L' st w) : gG ρ cs G X pc L (.long x :: st) w := by
  obtain ⟨p, l, e, R, s, m, args, below, meth, c, n, kc, ks, Q⟩ := X
  obtain ⟨hll, hx, hb, hml, hown, hts, hK, hin, hR, hO⟩ := h
  intro H locs ls hP hS hl
  have hn : n = n0 := hn
  subst hn
  exact lv_lstore hx hb hd hl hb0 hL (fun ls hl => kk H locs ls hP hS hl)
theorem g_astore_n (h : Okx l0 ρ cs G X cc own d) {k : Fin 4} {i n0 : Nat} {x : Nat} (hn : X.2.2.2.2.2.2.2.2.2.2.1 = n0) (hd : decode cc pc = .ok (.astore_n k, 1)) (hi : (k : Nat) = i) (hb0 : i < n0) (hL : (i, Value.ref x) :: L.filter (fun q => !(q.1 == i) && !(q.1 + 1 == i && q.2.category == 2)) = L')
    (kk : gG ρ cs G X (pc + 1) L' st w) : gG ρ cs G X pc L (.ref x :: st) w := by
  obtain ⟨p, l, e, R, s, m, args, below, meth, c, n, kc, ks, Q⟩ := X
  obtain ⟨hll, hx, hb, hml, hown, hts, hK, hin, hR, hO⟩ := h
  intro H locs ls hP hS hl
  have hn : n = n0 := hn
  subst hn
  exact lv_astore_n hx hb hd hi hl hb0 hL (fun ls hl => kk H locs ls hP hS hl)
theorem g_astore (h : Okx l0 ρ cs G X cc own d) {i n0 : Nat} {x : Nat} (hn : X.2.2.2.2.2.2.2.2.2.2.1 = n0) (hd : decode cc pc = .ok (.astore i, 2)) (hb0 : i < n0) (hL : (i, Value.ref x) :: L.filter (fun q => !(q.1 == i) && !(q.1 + 1 == i && q.2.category == 2)) = L')
    (kk : gG ρ cs G X (pc + 2) L' st w) : gG ρ cs G X pc L (.ref x :: st) w := by
  obtain ⟨p, l, e, R, s, m, args, below, meth, c, n, kc, ks, Q⟩ := X
  obtain ⟨hll, hx, hb, hml, hown, hts, hK, hin, hR, hO⟩ := h
  intro H locs ls hP hS hl
  have hn : n = n0 := hn
  subst hn
  exact lv_astore hx hb hd hl hb0 hL (fun ls hl => kk H locs ls hP hS hl)
theorem g_iinc (h : Okx l0 ρ cs G X cc own d) {i n0 k : Nat} {n : Int} {x v : Int32} (hn : X.2.2.2.2.2.2.2.2.2.2.1 = n0) (hd : decode cc pc = .ok (.iinc i n, 3)) (hk : L[k]? = some (i, .int x)) (hv : x + Int32.ofInt n = v) (hb0 : i < n0) (hL : (i, Value.int v) :: L.filter (fun q => !(q.1 == i) && !(q.1 + 1 == i && q.2.category == 2)) = L')
    (kk : gG ρ cs G X (pc + 3) L' st w) : gG ρ cs G X pc L st w := by
  obtain ⟨p, l, e, R, s, m, args, below, meth, c, n, kc, ks, Q⟩ := X
  obtain ⟨hll, hx, hb, hml, hown, hts, hK, hin, hR, hO⟩ := h
  intro H locs ls hP hS hl
  have hn : _ = n0 := hn
  subst hn
  exact lv_iinc hx hb hd hl hk hv hb0 hL (fun ls hl => kk H locs ls hP hS hl)
theorem g_loc (h : Okx l0 ρ cs G X cc own d) (kz : List Nat) (hL : lv_pick L kz = L')
    (kk : gG ρ cs G X pc L' st w) : gG ρ cs G X pc L st w := by
  obtain ⟨p, l, e, R, s, m, args, below, meth, c, n, kc, ks, Q⟩ := X
  obtain ⟨hll, hx, hb, hml, hown, hts, hK, hin, hR, hO⟩ := h
  intro H locs ls hP hS hl
  exact kk H locs ls hP hS (lv_sub hl kz hL)
theorem g_iadd (h : Okx l0 ρ cs G X cc own d) {x y : Int32} (hd : decode cc pc = .ok (.iadd, 1))
    (kk : gG ρ cs G X (pc + 1) L (.int (x + y) :: st) w) : gG ρ cs G X pc L (.int y :: .int x :: st) w := by
  obtain ⟨p, l, e, R, s, m, args, below, meth, c, n, kc, ks, Q⟩ := X
  obtain ⟨hll, hx, hb, hml, hown, hts, hK, hin, hR, hO⟩ := h
  intro H locs ls hP hS hl
  exact lv_iadd hx hb hd (kk H locs ls hP hS hl)
theorem g_isub (h : Okx l0 ρ cs G X cc own d) {x y : Int32} (hd : decode cc pc = .ok (.isub, 1))
    (kk : gG ρ cs G X (pc + 1) L (.int (x - y) :: st) w) : gG ρ cs G X pc L (.int y :: .int x :: st) w := by
  obtain ⟨p, l, e, R, s, m, args, below, meth, c, n, kc, ks, Q⟩ := X
  obtain ⟨hll, hx, hb, hml, hown, hts, hK, hin, hR, hO⟩ := h
  intro H locs ls hP hS hl
  exact lv_isub hx hb hd (kk H locs ls hP hS hl)
theorem g_imul (h : Okx l0 ρ cs G X cc own d) {x y : Int32} (hd : decode cc pc = .ok (.imul, 1))
    (kk : gG ρ cs G X (pc + 1) L (.int (x * y) :: st) w) : gG ρ cs G X pc L (.int y :: .int x :: st) w := by
  obtain ⟨p, l, e, R, s, m, args, below, meth, c, n, kc, ks, Q⟩ := X
  obtain ⟨hll, hx, hb, hml, hown, hts, hK, hin, hR, hO⟩ := h
  intro H locs ls hP hS hl
  exact lv_imul hx hb hd (kk H locs ls hP hS hl)
theorem g_iand (h : Okx l0 ρ cs G X cc own d) {x y : Int32} (hd : decode cc pc = .ok (.iand, 1))
    (kk : gG ρ cs G X (pc + 1) L (.int (x &&& y) :: st) w) : gG ρ cs G X pc L (.int y :: .int x :: st) w := by
  obtain ⟨p, l, e, R, s, m, args, below, meth, c, n, kc, ks, Q⟩ := X
  obtain ⟨hll, hx, hb, hml, hown, hts, hK, hin, hR, hO⟩ := h
  intro H locs ls hP hS hl
  exact lv_iand hx hb hd (kk H locs ls hP hS hl)
theorem g_ior (h : Okx l0 ρ cs G X cc own d) {x y : Int32} (hd : decode cc pc = .ok (.ior, 1))
    (kk : gG ρ cs G X (pc + 1) L (.int (x ||| y) :: st) w) : gG ρ cs G X pc L (.int y :: .int x :: st) w := by
  obtain ⟨p, l, e, R, s, m, args, below, meth, c, n, kc, ks, Q⟩ := X
  obtain ⟨hll, hx, hb, hml, hown, hts, hK, hin, hR, hO⟩ := h
  intro H locs ls hP hS hl
  exact lv_ior hx hb hd (kk H locs ls hP hS hl)
theorem g_ixor (h : Okx l0 ρ cs G X cc own d) {x y : Int32} (hd : decode cc pc = .ok (.ixor, 1))
    (kk : gG ρ cs G X (pc + 1) L (.int (x ^^^ y) :: st) w) : gG ρ cs G X pc L (.int y :: .int x :: st) w := by
  obtain ⟨p, l, e, R, s, m, args, below, meth, c, n, kc, ks, Q⟩ := X
  obtain ⟨hll, hx, hb, hml, hown, hts, hK, hin, hR, hO⟩ := h
  intro H locs ls hP hS hl
  exact lv_ixor hx hb hd (kk H locs ls hP hS hl)
theorem g_ishl (h : Okx l0 ρ cs G X cc own d) {x y : Int32} (hd : decode cc pc = .ok (.ishl, 1))
    (kk : gG ρ cs G X (pc + 1) L (.int (x <<< (y &&& 31)) :: st) w) : gG ρ cs G X pc L (.int y :: .int x :: st) w := by
  obtain ⟨p, l, e, R, s, m, args, below, meth, c, n, kc, ks, Q⟩ := X
  obtain ⟨hll, hx, hb, hml, hown, hts, hK, hin, hR, hO⟩ := h
  intro H locs ls hP hS hl
  exact lv_ishl hx hb hd (kk H locs ls hP hS hl)
theorem g_ishr (h : Okx l0 ρ cs G X cc own d) {x y : Int32} (hd : decode cc pc = .ok (.ishr, 1))
    (kk : gG ρ cs G X (pc + 1) L (.int (x >>> (y &&& 31)) :: st) w) : gG ρ cs G X pc L (.int y :: .int x :: st) w := by
  obtain ⟨p, l, e, R, s, m, args, below, meth, c, n, kc, ks, Q⟩ := X
  obtain ⟨hll, hx, hb, hml, hown, hts, hK, hin, hR, hO⟩ := h
  intro H locs ls hP hS hl
  exact lv_ishr hx hb hd (kk H locs ls hP hS hl)
theorem g_iushr (h : Okx l0 ρ cs G X cc own d) {x y : Int32} (hd : decode cc pc = .ok (.iushr, 1))
    (kk : gG ρ cs G X (pc + 1) L (.int ((x.toUInt32 >>> (y.toUInt32 &&& Int32.toUInt32 31)).toInt32) :: st) w) : gG ρ cs G X pc L (.int y :: .int x :: st) w := by
  obtain ⟨p, l, e, R, s, m, args, below, meth, c, n, kc, ks, Q⟩ := X
  obtain ⟨hll, hx, hb, hml, hown, hts, hK, hin, hR, hO⟩ := h
  intro H locs ls hP hS hl
  exact lv_iushr hx hb hd rfl (kk H locs ls hP hS hl)
theorem g_ineg (h : Okx l0 ρ cs G X cc own d) {x : Int32} (hd : decode cc pc = .ok (.ineg, 1))
    (kk : gG ρ cs G X (pc + 1) L (.int (-x) :: st) w) : gG ρ cs G X pc L (.int x :: st) w := by
  obtain ⟨p, l, e, R, s, m, args, below, meth, c, n, kc, ks, Q⟩ := X
  obtain ⟨hll, hx, hb, hml, hown, hts, hK, hin, hR, hO⟩ := h
  intro H locs ls hP hS hl
  exact lv_ineg hx hb hd (kk H locs ls hP hS hl)
theorem g_idiv (h : Okx l0 ρ cs G X cc own d) {x y : Int32} (hd : decode cc pc = .ok (.idiv, 1)) (hD : (if ¬ y = 0 then B else none) = some rr)
    (kk : B = some rr → gG ρ cs G X (pc + 1) L (.int (x / y) :: st) w) : gG ρ cs G X pc L (.int y :: .int x :: st) w := by
  obtain ⟨p, l, e, R, s, m, args, below, meth, c, n, kc, ks, Q⟩ := X
  obtain ⟨hll, hx, hb, hml, hown, hts, hK, hin, hR, hO⟩ := h
  intro H locs ls hP hS hl
  have hq := of_ite hD
  exact lv_idiv hx hb hd hq.1 (kk hq.2 H locs ls hP hS hl)
theorem g_irem (h : Okx l0 ρ cs G X cc own d) {x y : Int32} (hd : decode cc pc = .ok (.irem, 1)) (hD : (if ¬ y = 0 then B else none) = some rr)
    (kk : B = some rr → gG ρ cs G X (pc + 1) L (.int (x - x / y * y) :: st) w) : gG ρ cs G X pc L (.int y :: .int x :: st) w := by
  obtain ⟨p, l, e, R, s, m, args, below, meth, c, n, kc, ks, Q⟩ := X
  obtain ⟨hll, hx, hb, hml, hown, hts, hK, hin, hR, hO⟩ := h
  intro H locs ls hP hS hl
  have hq := of_ite hD
  exact lv_irem hx hb hd hq.1 (kk hq.2 H locs ls hP hS hl)
theorem g_ladd (h : Okx l0 ρ cs G X cc own d) {x y : Int64} (hd : decode cc pc = .ok (.ladd, 1))
    (kk : gG ρ cs G X (pc + 1) L (.long (x + y) :: st) w) : gG ρ cs G X pc L (.long y :: .long x :: st) w := by
  obtain ⟨p, l, e, R, s, m, args, below, meth, c, n, kc, ks, Q⟩ := X
  obtain ⟨hll, hx, hb, hml, hown, hts, hK, hin, hR, hO⟩ := h
  intro H locs ls hP hS hl
  exact lv_ladd hx hb hd (kk H locs ls hP hS hl)
theorem g_lsub (h : Okx l0 ρ cs G X cc own d) {x y : Int64} (hd : decode cc pc = .ok (.lsub, 1))
    (kk : gG ρ cs G X (pc + 1) L (.long (x - y) :: st) w) : gG ρ cs G X pc L (.long y :: .long x :: st) w := by
  obtain ⟨p, l, e, R, s, m, args, below, meth, c, n, kc, ks, Q⟩ := X
  obtain ⟨hll, hx, hb, hml, hown, hts, hK, hin, hR, hO⟩ := h
  intro H locs ls hP hS hl
  exact lv_lsub hx hb hd (kk H locs ls hP hS hl)
theorem g_lmul (h : Okx l0 ρ cs G X cc own d) {x y : Int64} (hd : decode cc pc = .ok (.lmul, 1))
    (kk : gG ρ cs G X (pc + 1) L (.long (x * y) :: st) w) : gG ρ cs G X pc L (.long y :: .long x :: st) w := by
  obtain ⟨p, l, e, R, s, m, args, below, meth, c, n, kc, ks, Q⟩ := X
  obtain ⟨hll, hx, hb, hml, hown, hts, hK, hin, hR, hO⟩ := h
  intro H locs ls hP hS hl
  exact lv_lmul hx hb hd (kk H locs ls hP hS hl)
theorem g_land (h : Okx l0 ρ cs G X cc own d) {x y : Int64} (hd : decode cc pc = .ok (.land, 1))
    (kk : gG ρ cs G X (pc + 1) L (.long (x &&& y) :: st) w) : gG ρ cs G X pc L (.long y :: .long x :: st) w := by
  obtain ⟨p, l, e, R, s, m, args, below, meth, c, n, kc, ks, Q⟩ := X
  obtain ⟨hll, hx, hb, hml, hown, hts, hK, hin, hR, hO⟩ := h
  intro H locs ls hP hS hl
  exact lv_land hx hb hd (kk H locs ls hP hS hl)
theorem g_lor (h : Okx l0 ρ cs G X cc own d) {x y : Int64} (hd : decode cc pc = .ok (.lor, 1))
    (kk : gG ρ cs G X (pc + 1) L (.long (x ||| y) :: st) w) : gG ρ cs G X pc L (.long y :: .long x :: st) w := by
  obtain ⟨p, l, e, R, s, m, args, below, meth, c, n, kc, ks, Q⟩ := X
  obtain ⟨hll, hx, hb, hml, hown, hts, hK, hin, hR, hO⟩ := h
  intro H locs ls hP hS hl
  exact lv_lor hx hb hd (kk H locs ls hP hS hl)
theorem g_ldiv (h : Okx l0 ρ cs G X cc own d) {x y : Int64} (hd : decode cc pc = .ok (.ldiv, 1)) (hD : (if ¬ y = 0 then B else none) = some rr)
    (kk : B = some rr → gG ρ cs G X (pc + 1) L (.long (x / y) :: st) w) : gG ρ cs G X pc L (.long y :: .long x :: st) w := by
  obtain ⟨p, l, e, R, s, m, args, below, meth, c, n, kc, ks, Q⟩ := X
  obtain ⟨hll, hx, hb, hml, hown, hts, hK, hin, hR, hO⟩ := h
  intro H locs ls hP hS hl
  have hq := of_ite hD
  exact lv_ldiv hx hb hd hq.1 (kk hq.2 H locs ls hP hS hl)
theorem g_lrem (h : Okx l0 ρ cs G X cc own d) {x y : Int64} (hd : decode cc pc = .ok (.lrem, 1)) (hD : (if ¬ y = 0 then B else none) = some rr)
    (kk : B = some rr → gG ρ cs G X (pc + 1) L (.long (x - x / y * y) :: st) w) : gG ρ cs G X pc L (.long y :: .long x :: st) w := by
  obtain ⟨p, l, e, R, s, m, args, below, meth, c, n, kc, ks, Q⟩ := X
  obtain ⟨hll, hx, hb, hml, hown, hts, hK, hin, hR, hO⟩ := h
  intro H locs ls hP hS hl
  have hq := of_ite hD
  exact lv_lrem hx hb hd hq.1 (kk hq.2 H locs ls hP hS hl)
theorem g_lshl (h : Okx l0 ρ cs G X cc own d) {x : Int64} {y : Int32} (hd : decode cc pc = .ok (.lshl, 1))
    (kk : gG ρ cs G X (pc + 1) L (.long (x <<< (y.toInt64 &&& 63)) :: st) w) : gG ρ cs G X pc L (.int y :: .long x :: st) w := by
  obtain ⟨p, l, e, R, s, m, args, below, meth, c, n, kc, ks, Q⟩ := X
  obtain ⟨hll, hx, hb, hml, hown, hts, hK, hin, hR, hO⟩ := h
  intro H locs ls hP hS hl
  exact lv_lshl hx hb hd rfl (kk H locs ls hP hS hl)
theorem g_lshr (h : Okx l0 ρ cs G X cc own d) {x : Int64} {y : Int32} (hd : decode cc pc = .ok (.lshr, 1))
    (kk : gG ρ cs G X (pc + 1) L (.long (x >>> (y.toInt64 &&& 63)) :: st) w) : gG ρ cs G X pc L (.int y :: .long x :: st) w := by
  obtain ⟨p, l, e, R, s, m, args, below, meth, c, n, kc, ks, Q⟩ := X
  obtain ⟨hll, hx, hb, hml, hown, hts, hK, hin, hR, hO⟩ := h
  intro H locs ls hP hS hl
  exact lv_lshr hx hb hd rfl (kk H locs ls hP hS hl)
theorem g_lushr (h : Okx l0 ρ cs G X cc own d) {x : Int64} {y : Int32} (hd : decode cc pc = .ok (.lushr, 1))
    (kk : gG ρ cs G X (pc + 1) L (.long ((x.toUInt64 >>> (y.toInt64.toUInt64 &&& Int64.toUInt64 63)).toInt64) :: st) w) : gG ρ cs G X pc L (.int y :: .long x :: st) w := by
  obtain ⟨p, l, e, R, s, m, args, below, meth, c, n, kc, ks, Q⟩ := X
  obtain ⟨hll, hx, hb, hml, hown, hts, hK, hin, hR, hO⟩ := h
  intro H locs ls hP hS hl
  exact lv_lushr hx hb hd rfl (kk H locs ls hP hS hl)
theorem g_i2l (h : Okx l0 ρ cs G X cc own d) {x : Int32} (hd : decode cc pc = .ok (.i2l, 1))
    (kk : gG ρ cs G X (pc + 1) L (.long x.toInt64 :: st) w) : gG ρ cs G X pc L (.int x :: st) w := by
  obtain ⟨p, l, e, R, s, m, args, below, meth, c, n, kc, ks, Q⟩ := X
  obtain ⟨hll, hx, hb, hml, hown, hts, hK, hin, hR, hO⟩ := h
  intro H locs ls hP hS hl
  exact lv_i2l hx hb hd rfl (kk H locs ls hP hS hl)
theorem g_l2i (h : Okx l0 ρ cs G X cc own d) {x : Int64} (hd : decode cc pc = .ok (.l2i, 1))
    (kk : gG ρ cs G X (pc + 1) L (.int x.toInt32 :: st) w) : gG ρ cs G X pc L (.long x :: st) w := by
  obtain ⟨p, l, e, R, s, m, args, below, meth, c, n, kc, ks, Q⟩ := X
  obtain ⟨hll, hx, hb, hml, hown, hts, hK, hin, hR, hO⟩ := h
  intro H locs ls hP hS hl
  exact lv_l2i hx hb hd rfl (kk H locs ls hP hS hl)
theorem g_i2b (h : Okx l0 ρ cs G X cc own d) {x : Int32} (hd : decode cc pc = .ok (.i2b, 1))
    (kk : gG ρ cs G X (pc + 1) L (.int (x.toInt8.toInt32) :: st) w) : gG ρ cs G X pc L (.int x :: st) w := by
  obtain ⟨p, l, e, R, s, m, args, below, meth, c, n, kc, ks, Q⟩ := X
  obtain ⟨hll, hx, hb, hml, hown, hts, hK, hin, hR, hO⟩ := h
  intro H locs ls hP hS hl
  exact lv_i2b hx hb hd rfl (kk H locs ls hP hS hl)
theorem g_i2s (h : Okx l0 ρ cs G X cc own d) {x : Int32} (hd : decode cc pc = .ok (.i2s, 1))
    (kk : gG ρ cs G X (pc + 1) L (.int (x.toInt16.toInt32) :: st) w) : gG ρ cs G X pc L (.int x :: st) w := by
  obtain ⟨p, l, e, R, s, m, args, below, meth, c, n, kc, ks, Q⟩ := X
  obtain ⟨hll, hx, hb, hml, hown, hts, hK, hin, hR, hO⟩ := h
  intro H locs ls hP hS hl
  exact lv_i2s hx hb hd rfl (kk H locs ls hP hS hl)
theorem g_i2c (h : Okx l0 ρ cs G X cc own d) {x : Int32} (hd : decode cc pc = .ok (.i2c, 1))
    (kk : gG ρ cs G X (pc + 1) L (.int ((x.toUInt32 % 65536).toInt32) :: st) w) : gG ρ cs G X pc L (.int x :: st) w := by
  obtain ⟨p, l, e, R, s, m, args, below, meth, c, n, kc, ks, Q⟩ := X
  obtain ⟨hll, hx, hb, hml, hown, hts, hK, hin, hR, hO⟩ := h
  intro H locs ls hP hS hl
  exact lv_i2c hx hb hd rfl (kk H locs ls hP hS hl)
theorem g_lcmp (h : Okx l0 ρ cs G X cc own d) {x y : Int64} (hd : decode cc pc = .ok (.lcmp, 1))
    (kk : gG ρ cs G X (pc + 1) L (.int (lg_cmp x y) :: st) w) : gG ρ cs G X pc L (.long y :: .long x :: st) w := by
  obtain ⟨p, l, e, R, s, m, args, below, meth, c, n, kc, ks, Q⟩ := X
  obtain ⟨hll, hx, hb, hml, hown, hts, hK, hin, hR, hO⟩ := h
  intro H locs ls hP hS hl
  exact W.lcmp hx hb hd (kk H locs ls hP hS hl)
theorem g_dup (h : Okx l0 ρ cs G X cc own d) {va : Value} (hd : decode cc pc = .ok (.dup, 1)) (h1 : va.category = 1)
    (kk : gG ρ cs G X (pc + 1) L (va :: va :: st) w) : gG ρ cs G X pc L (va :: st) w := by
  obtain ⟨p, l, e, R, s, m, args, below, meth, c, n, kc, ks, Q⟩ := X
  obtain ⟨hll, hx, hb, hml, hown, hts, hK, hin, hR, hO⟩ := h
  intro H locs ls hP hS hl
  exact lv_dup hx hb hd h1 (kk H locs ls hP hS hl)
theorem g_dup2 (h : Okx l0 ρ cs G X cc own d) {va vb : Value} (hd : decode cc pc = .ok (.dup2, 1)) (h1 : va.category = 1) (h2 : vb.category = 1)
    (kk : gG ρ cs G X (pc + 1) L (va :: vb :: va :: vb :: st) w) : gG ρ cs G X pc L (va :: vb :: st) w := by
  obtain ⟨p, l, e, R, s, m, args, below, meth, c, n, kc, ks, Q⟩ := X
  obtain ⟨hll, hx, hb, hml, hown, hts, hK, hin, hR, hO⟩ := h
  intro H locs ls hP hS hl
  exact lv_dup2_11 hx hb hd h1 h2 (kk H locs ls hP hS hl)
theorem g_dup_x1 (h : Okx l0 ρ cs G X cc own d) {va vb : Value} (hd : decode cc pc = .ok (.dup_x1, 1)) (h1 : va.category = 1) (h2 : vb.category = 1)
    (kk : gG ρ cs G X (pc + 1) L (va :: vb :: va :: st) w) : gG ρ cs G X pc L (va :: vb :: st) w := by
  obtain ⟨p, l, e, R, s, m, args, below, meth, c, n, kc, ks, Q⟩ := X
  obtain ⟨hll, hx, hb, hml, hown, hts, hK, hin, hR, hO⟩ := h
  intro H locs ls hP hS hl
  exact lv_dup_x1 hx hb hd h1 h2 (kk H locs ls hP hS hl)
theorem g_pop (h : Okx l0 ρ cs G X cc own d) {va : Value} (hd : decode cc pc = .ok (.pop, 1)) (h1 : va.category = 1)
    (kk : gG ρ cs G X (pc + 1) L st w) : gG ρ cs G X pc L (va :: st) w := by
  obtain ⟨p, l, e, R, s, m, args, below, meth, c, n, kc, ks, Q⟩ := X
  obtain ⟨hll, hx, hb, hml, hown, hts, hK, hin, hR, hO⟩ := h
  intro H locs ls hP hS hl
  exact lv_pop hx hb hd h1 (kk H locs ls hP hS hl)
theorem g_goto (h : Okx l0 ρ cs G X cc own d) {off : Int} {tgt : Nat} (hd : decode cc pc = .ok (.goto off, 3)) (ht : (pc : Int) + off = (tgt : Int))
    (kk : gG ρ cs G X tgt L st w) : gG ρ cs G X pc L st w := by
  obtain ⟨p, l, e, R, s, m, args, below, meth, c, n, kc, ks, Q⟩ := X
  obtain ⟨hll, hx, hb, hml, hown, hts, hK, hin, hR, hO⟩ := h
  intro H locs ls hP hS hl
  exact lv_goto hx hb hd ht (kk H locs ls hP hS hl)
theorem g_if_eq (h : Okx l0 ρ cs G X cc own d) {x : Int32} {off : Int} {tgt : Nat} (hd : decode cc pc = .ok (.ifCond .eq off, 3)) (ht : (pc : Int) + off = (tgt : Int)) (hD : (if x = 0 then B else E) = some rr)
    (kt : B = some rr → gG ρ cs G X tgt L st w) (kf : E = some rr → gG ρ cs G X (pc + 3) L st w) : gG ρ cs G X pc L (.int x :: st) w := by
  obtain ⟨p, l, e, R, s, m, args, below, meth, c, n, kc, ks, Q⟩ := X
  obtain ⟨hll, hx, hb, hml, hown, hts, hK, hin, hR, hO⟩ := h
  intro H locs ls hP hS hl
  exact lv_if_eq hx hb hd ht (fun q => kt (by rw [if_pos q] at hD; exact hD) H locs ls hP hS hl) (fun q => kf (by rw [if_neg q] at hD; exact hD) H locs ls hP hS hl)
theorem g_icmp_eq (h : Okx l0 ρ cs G X cc own d) {x y : Int32} {off : Int} {tgt : Nat} (hd : decode cc pc = .ok (.if_icmp .eq off, 3)) (ht : (pc : Int) + off = (tgt : Int)) (hD : (if x = y then B else E) = some rr)
    (kt : B = some rr → gG ρ cs G X tgt L st w) (kf : E = some rr → gG ρ cs G X (pc + 3) L st w) : gG ρ cs G X pc L (.int y :: .int x :: st) w := by
  obtain ⟨p, l, e, R, s, m, args, below, meth, c, n, kc, ks, Q⟩ := X
  obtain ⟨hll, hx, hb, hml, hown, hts, hK, hin, hR, hO⟩ := h
  intro H locs ls hP hS hl
  exact lv_icmp_eq hx hb hd ht (fun q => kt (by rw [if_pos q] at hD; exact hD) H locs ls hP hS hl) (fun q => kf (by rw [if_neg q] at hD; exact hD) H locs ls hP hS hl)
theorem g_if_ne (h : Okx l0 ρ cs G X cc own d) {x : Int32} {off : Int} {tgt : Nat} (hd : decode cc pc = .ok (.ifCond .ne off, 3)) (ht : (pc : Int) + off = (tgt : Int)) (hD : (if x = 0 then E else B) = some rr)
    (kt : B = some rr → gG ρ cs G X tgt L st w) (kf : E = some rr → gG ρ cs G X (pc + 3) L st w) : gG ρ cs G X pc L (.int x :: st) w := by
  obtain ⟨p, l, e, R, s, m, args, below, meth, c, n, kc, ks, Q⟩ := X
  obtain ⟨hll, hx, hb, hml, hown, hts, hK, hin, hR, hO⟩ := h
  intro H locs ls hP hS hl
  exact lv_if_ne hx hb hd ht (fun q => kt (by rw [if_neg q] at hD; exact hD) H locs ls hP hS hl) (fun q => kf (by rw [if_pos q] at hD; exact hD) H locs ls hP hS hl)
theorem g_icmp_ne (h : Okx l0 ρ cs G X cc own d) {x y : Int32} {off : Int} {tgt : Nat} (hd : decode cc pc = .ok (.if_icmp .ne off, 3)) (ht : (pc : Int) + off = (tgt : Int)) (hD : (if x = y then E else B) = some rr)
    (kt : B = some rr → gG ρ cs G X tgt L st w) (kf : E = some rr → gG ρ cs G X (pc + 3) L st w) : gG ρ cs G X pc L (.int y :: .int x :: st) w := by
  obtain ⟨p, l, e, R, s, m, args, below, meth, c, n, kc, ks, Q⟩ := X
  obtain ⟨hll, hx, hb, hml, hown, hts, hK, hin, hR, hO⟩ := h
  intro H locs ls hP hS hl
  exact lv_icmp_ne hx hb hd ht (fun q => kt (by rw [if_neg q] at hD; exact hD) H locs ls hP hS hl) (fun q => kf (by rw [if_pos q] at hD; exact hD) H locs ls hP hS hl)
theorem g_if_lt (h : Okx l0 ρ cs G X cc own d) {x : Int32} {off : Int} {tgt : Nat} (hd : decode cc pc = .ok (.ifCond .lt off, 3)) (ht : (pc : Int) + off = (tgt : Int)) (hD : (if x < 0 then B else E) = some rr)
    (kt : B = some rr → gG ρ cs G X tgt L st w) (kf : E = some rr → gG ρ cs G X (pc + 3) L st w) : gG ρ cs G X pc L (.int x :: st) w := by
  obtain ⟨p, l, e, R, s, m, args, below, meth, c, n, kc, ks, Q⟩ := X
  obtain ⟨hll, hx, hb, hml, hown, hts, hK, hin, hR, hO⟩ := h
  intro H locs ls hP hS hl
  exact lv_if_lt hx hb hd ht (fun q => kt (by rw [if_pos q] at hD; exact hD) H locs ls hP hS hl) (fun q => kf (by rw [if_neg q] at hD; exact hD) H locs ls hP hS hl)
theorem g_icmp_lt (h : Okx l0 ρ cs G X cc own d) {x y : Int32} {off : Int} {tgt : Nat} (hd : decode cc pc = .ok (.if_icmp .lt off, 3)) (ht : (pc : Int) + off = (tgt : Int)) (hD : (if x < y then B else E) = some rr)
    (kt : B = some rr → gG ρ cs G X tgt L st w) (kf : E = some rr → gG ρ cs G X (pc + 3) L st w) : gG ρ cs G X pc L (.int y :: .int x :: st) w := by
  obtain ⟨p, l, e, R, s, m, args, below, meth, c, n, kc, ks, Q⟩ := X
  obtain ⟨hll, hx, hb, hml, hown, hts, hK, hin, hR, hO⟩ := h
  intro H locs ls hP hS hl
  exact lv_icmp_lt hx hb hd ht (fun q => kt (by rw [if_pos q] at hD; exact hD) H locs ls hP hS hl) (fun q => kf (by rw [if_neg q] at hD; exact hD) H locs ls hP hS hl)
theorem g_if_ge (h : Okx l0 ρ cs G X cc own d) {x : Int32} {off : Int} {tgt : Nat} (hd : decode cc pc = .ok (.ifCond .ge off, 3)) (ht : (pc : Int) + off = (tgt : Int)) (hD : (if 0 ≤ x then B else E) = some rr)
    (kt : B = some rr → gG ρ cs G X tgt L st w) (kf : E = some rr → gG ρ cs G X (pc + 3) L st w) : gG ρ cs G X pc L (.int x :: st) w := by
  obtain ⟨p, l, e, R, s, m, args, below, meth, c, n, kc, ks, Q⟩ := X
  obtain ⟨hll, hx, hb, hml, hown, hts, hK, hin, hR, hO⟩ := h
  intro H locs ls hP hS hl
  exact lv_if_ge hx hb hd ht (fun q => kt (by rw [if_pos q] at hD; exact hD) H locs ls hP hS hl) (fun q => kf (by rw [if_neg q] at hD; exact hD) H locs ls hP hS hl)
theorem g_icmp_ge (h : Okx l0 ρ cs G X cc own d) {x y : Int32} {off : Int} {tgt : Nat} (hd : decode cc pc = .ok (.if_icmp .ge off, 3)) (ht : (pc : Int) + off = (tgt : Int)) (hD : (if y ≤ x then B else E) = some rr)
    (kt : B = some rr → gG ρ cs G X tgt L st w) (kf : E = some rr → gG ρ cs G X (pc + 3) L st w) : gG ρ cs G X pc L (.int y :: .int x :: st) w := by
  obtain ⟨p, l, e, R, s, m, args, below, meth, c, n, kc, ks, Q⟩ := X
  obtain ⟨hll, hx, hb, hml, hown, hts, hK, hin, hR, hO⟩ := h
  intro H locs ls hP hS hl
  exact lv_icmp_ge hx hb hd ht (fun q => kt (by rw [if_pos q] at hD; exact hD) H locs ls hP hS hl) (fun q => kf (by rw [if_neg q] at hD; exact hD) H locs ls hP hS hl)
theorem g_if_gt (h : Okx l0 ρ cs G X cc own d) {x : Int32} {off : Int} {tgt : Nat} (hd : decode cc pc = .ok (.ifCond .gt off, 3)) (ht : (pc : Int) + off = (tgt : Int)) (hD : (if 0 < x then B else E) = some rr)
    (kt : B = some rr → gG ρ cs G X tgt L st w) (kf : E = some rr → gG ρ cs G X (pc + 3) L st w) : gG ρ cs G X pc L (.int x :: st) w := by
  obtain ⟨p, l, e, R, s, m, args, below, meth, c, n, kc, ks, Q⟩ := X
  obtain ⟨hll, hx, hb, hml, hown, hts, hK, hin, hR, hO⟩ := h
  intro H locs ls hP hS hl
  exact lv_if_gt hx hb hd ht (fun q => kt (by rw [if_pos q] at hD; exact hD) H locs ls hP hS hl) (fun q => kf (by rw [if_neg q] at hD; exact hD) H locs ls hP hS hl)
theorem g_icmp_gt (h : Okx l0 ρ cs G X cc own d) {x y : Int32} {off : Int} {tgt : Nat} (hd : decode cc pc = .ok (.if_icmp .gt off, 3)) (ht : (pc : Int) + off = (tgt : Int)) (hD : (if y < x then B else E) = some rr)
    (kt : B = some rr → gG ρ cs G X tgt L st w) (kf : E = some rr → gG ρ cs G X (pc + 3) L st w) : gG ρ cs G X pc L (.int y :: .int x :: st) w := by
  obtain ⟨p, l, e, R, s, m, args, below, meth, c, n, kc, ks, Q⟩ := X
  obtain ⟨hll, hx, hb, hml, hown, hts, hK, hin, hR, hO⟩ := h
  intro H locs ls hP hS hl
  exact lv_icmp_gt hx hb hd ht (fun q => kt (by rw [if_pos q] at hD; exact hD) H locs ls hP hS hl) (fun q => kf (by rw [if_neg q] at hD; exact hD) H locs ls hP hS hl)
theorem g_if_le (h : Okx l0 ρ cs G X cc own d) {x : Int32} {off : Int} {tgt : Nat} (hd : decode cc pc = .ok (.ifCond .le off, 3)) (ht : (pc : Int) + off = (tgt : Int)) (hD : (if x ≤ 0 then B else E) = some rr)
    (kt : B = some rr → gG ρ cs G X tgt L st w) (kf : E = some rr → gG ρ cs G X (pc + 3) L st w) : gG ρ cs G X pc L (.int x :: st) w := by
  obtain ⟨p, l, e, R, s, m, args, below, meth, c, n, kc, ks, Q⟩ := X
  obtain ⟨hll, hx, hb, hml, hown, hts, hK, hin, hR, hO⟩ := h
  intro H locs ls hP hS hl
  exact lv_if_le hx hb hd ht (fun q => kt (by rw [if_pos q] at hD; exact hD) H locs ls hP hS hl) (fun q => kf (by rw [if_neg q] at hD; exact hD) H locs ls hP hS hl)
theorem g_icmp_le (h : Okx l0 ρ cs G X cc own d) {x y : Int32} {off : Int} {tgt : Nat} (hd : decode cc pc = .ok (.if_icmp .le off, 3)) (ht : (pc : Int) + off = (tgt : Int)) (hD : (if x ≤ y then B else E) = some rr)
    (kt : B = some rr → gG ρ cs G X tgt L st w) (kf : E = some rr → gG ρ cs G X (pc + 3) L st w) : gG ρ cs G X pc L (.int y :: .int x :: st) w := by
  obtain ⟨p, l, e, R, s, m, args, below, meth, c, n, kc, ks, Q⟩ := X
  obtain ⟨hll, hx, hb, hml, hown, hts, hK, hin, hR, hO⟩ := h
  intro H locs ls hP hS hl
  exact lv_icmp_le hx hb hd ht (fun q => kt (by rw [if_pos q] at hD; exact hD) H locs ls hP hS hl) (fun q => kf (by rw [if_neg q] at hD; exact hD) H locs ls hP hS hl)
theorem g_getI (h : Okx l0 ρ cs G X cc own d) {idx c f : Nat} (i k : Nat) (hf : FLk own idx c k) (hs : sh i = (7, c, f)) (hi : i < vN) (hv : (fspl.getD c [])[k]? = some 0) (hd : decode cc pc = .ok (.getfield idx, 3))
    (kk : gG ρ cs G X (pc + 3) L (.int (w.1 i k) :: st) w) : gG ρ cs G X pc L (.ref (ρ i) :: st) w := by
  obtain ⟨p, l, e, R, s, m, args, below, meth, c, n, kc, ks, Q⟩ := X
  obtain ⟨hll, hx, hb, hml, hown, hts, hK, hin, hR, hO⟩ := h
  intro H locs ls hP hS hl
  obtain ⟨q, hc, hk, hf⟩ := hf
  have hin' := vcls_in q (List.mem_of_getElem? hc)
  have he := cells_get (ρ := ρ) (cs := cs) (w := w) hi (cel_ob hs)
  rcases hf with hf | ⟨host, hf⟩
  · exact va_get hx hb hts hin' hown hK hP i he hc k hk (hts _ hf) (fun _ z => z) (v := .int (w.1 i k)) (by rw [obf_get hv]; exact congrArg some rfl) hd (kk H locs ls hP hS hl)
  · exact va_getN hx hb hts hin' hown hK hP i he hc k hk (va_Nw.use rfl (hO.2.2.2.2.2.2 _ hf)) (fun _ z => z) (v := .int (w.1 i k)) (by rw [obf_get hv]; exact congrArg some rfl) hd (kk H locs ls hP hS hl)
theorem g_getR (h : Okx l0 ρ cs G X cc own d) {idx c f : Nat} (i k : Nat) (t : Nat) (hf : FLk own idx c k) (hs : sh i = (7, c, f)) (hi : i < vN) (hv : (fspl.getD c [])[k]? = some (100 + t)) (hd : decode cc pc = .ok (.getfield idx, 3))
    (kk : gG ρ cs G X (pc + 3) L (.ref (ρ t) :: st) w) : gG ρ cs G X pc L (.ref (ρ i) :: st) w := by
  obtain ⟨p, l, e, R, s, m, args, below, meth, c, n, kc, ks, Q⟩ := X
  obtain ⟨hll, hx, hb, hml, hown, hts, hK, hin, hR, hO⟩ := h
  intro H locs ls hP hS hl
  obtain ⟨q, hc, hk, hf⟩ := hf
  have hin' := vcls_in q (List.mem_of_getElem? hc)
  have he := cells_get (ρ := ρ) (cs := cs) (w := w) hi (cel_ob hs)
  rcases hf with hf | ⟨host, hf⟩
  · exact va_get hx hb hts hin' hown hK hP i he hc k hk (hts _ hf) (fun _ z => z) (v := .ref (ρ t)) (by rw [obf_get hv]; exact congrArg some (by unfold fv; rw [if_neg (by omega), if_neg (by omega), if_neg (by omega), Nat.add_sub_cancel_left])) hd (kk H locs ls hP hS hl)
  · exact va_getN hx hb hts hin' hown hK hP i he hc k hk (va_Nw.use rfl (hO.2.2.2.2.2.2 _ hf)) (fun _ z => z) (v := .ref (ρ t)) (by rw [obf_get hv]; exact congrArg some (by unfold fv; rw [if_neg (by omega), if_neg (by omega), if_neg (by omega), Nat.add_sub_cancel_left])) hd (kk H locs ls hP hS hl)
theorem g_getQ (h : Okx l0 ρ cs G X cc own d) {idx c f : Nat} (i k : Nat) (t u : Nat) (hu : u < 90) (ht : i + u = t) (hf : FLk own idx c k) (hs : sh i = (7, c, f)) (hi : i < vN) (hv : (fspl.getD c [])[k]? = some (10 + u)) (hd : decode cc pc = .ok (.getfield idx, 3))
    (kk : gG ρ cs G X (pc + 3) L (.ref (ρ t) :: st) w) : gG ρ cs G X pc L (.ref (ρ i) :: st) w := by
  obtain ⟨p, l, e, R, s, m, args, below, meth, c, n, kc, ks, Q⟩ := X
  obtain ⟨hll, hx, hb, hml, hown, hts, hK, hin, hR, hO⟩ := h
  intro H locs ls hP hS hl
  obtain ⟨q, hc, hk, hf⟩ := hf
  have hin' := vcls_in q (List.mem_of_getElem? hc)
  have he := cells_get (ρ := ρ) (cs := cs) (w := w) hi (cel_ob hs)
  rcases hf with hf | ⟨host, hf⟩
  · exact va_get hx hb hts hin' hown hK hP i he hc k hk (hts _ hf) (fun _ z => z) (v := .ref (ρ t)) (by rw [obf_get hv]; exact congrArg some (by subst ht; unfold fv; rw [if_neg (by omega), if_neg (by omega), if_pos (by omega), Nat.add_sub_cancel_left])) hd (kk H locs ls hP hS hl)
  · exact va_getN hx hb hts hin' hown hK hP i he hc k hk (va_Nw.use rfl (hO.2.2.2.2.2.2 _ hf)) (fun _ z => z) (v := .ref (ρ t)) (by rw [obf_get hv]; exact congrArg some (by subst ht; unfold fv; rw [if_neg (by omega), if_neg (by omega), if_pos (by omega), Nat.add_sub_cancel_left])) hd (kk H locs ls hP hS hl)
theorem g_getZ (h : Okx l0 ρ cs G X cc own d) {idx c f : Nat} (i k : Nat) (j : Nat) (hj : j < 3) (hz : bq (w.2.2 j) = true) (hf : FLk own idx c k) (hs : sh i = (7, c, f)) (hi : i < vN) (hv : (fspl.getD c [])[k]? = some (5 + j)) (hd : decode cc pc = .ok (.getfield idx, 3))
    (kk : gG ρ cs G X (pc + 3) L (.ref (ρ (w.2.2 j)) :: st) w) : gG ρ cs G X pc L (.ref (ρ i) :: st) w := by
  obtain ⟨p, l, e, R, s, m, args, below, meth, c, n, kc, ks, Q⟩ := X
  obtain ⟨hll, hx, hb, hml, hown, hts, hK, hin, hR, hO⟩ := h
  intro H locs ls hP hS hl
  obtain ⟨q, hc, hk, hf⟩ := hf
  have hin' := vcls_in q (List.mem_of_getElem? hc)
  have he := cells_get (ρ := ρ) (cs := cs) (w := w) hi (cel_ob hs)
  rcases hf with hf | ⟨host, hf⟩
  · exact va_get hx hb hts hin' hown hK hP i he hc k hk (hts _ hf) (fun _ z => z) (v := .ref (ρ (w.2.2 j))) (by rw [obf_get hv]; exact congrArg some (by unfold fv; rw [if_neg (by omega), if_pos (by omega), Nat.add_sub_cancel_left]; unfold rfv; rw [if_neg (bq_ok hz).1])) hd (kk H locs ls hP hS hl)
  · exact va_getN hx hb hts hin' hown hK hP i he hc k hk (va_Nw.use rfl (hO.2.2.2.2.2.2 _ hf)) (fun _ z => z) (v := .ref (ρ (w.2.2 j))) (by rw [obf_get hv]; exact congrArg some (by unfold fv; rw [if_neg (by omega), if_pos (by omega), Nat.add_sub_cancel_left]; unfold rfv; rw [if_neg (bq_ok hz).1])) hd (kk H locs ls hP hS hl)
theorem g_putI (h : Okx l0 ρ cs G X cc own d) {idx c' f : Nat} {v : Int32} {K : Wd → Option α} (i k : Nat) (hf : FLk own idx c' k) (hp : FPk c' k "I") (hs : sh i = (7, c', f)) (hi : i < vN) (hv : (fspl.getD c' [])[k]? = some 0) (hd : decode cc pc = .ok (.putfield idx, 3)) (hD : bd (wI w i k v) K = some rr)
    (kk : ∀ w', K w' = some rr → gG ρ cs G X (pc + 3) L st w') : gG ρ cs G X pc L (.int v :: .ref (ρ i) :: st) w := by
  obtain ⟨p, l, e, R, s, m, args, below, meth, c, n, kc, ks, Q⟩ := X
  obtain ⟨hll, hx, hb, hml, hown, hts, hK, hin, hR, hO⟩ := h
  intro H locs ls hP hS hl
  obtain ⟨q, hc, hk, hf⟩ := hf
  obtain ⟨q', hc', hfin, hdd⟩ := hp
  cases hc.symm.trans hc'
  have hm := List.mem_of_getElem? hc
  have hin' := vcls_in q hm
  have he := cells_get (ρ := ρ) (cs := cs) (w := w) hi (cel_ob hs)
  have hset : ∀ v : Int32, (cells ρ cs w).set i (ρ i, .inr (c', (obf ρ (w.1 i) w.2.2 i c').set k (.int v))) = cells ρ cs (wI w i k v) := fun v => by
    rw [obf_set hv]
    refine cells_set ?_ (fun j hj => wI_ne hj)
    rw [cel_ob hs, wI_row]
    rfl
  have hl' : k < (obf ρ (w.1 i) w.2.2 i c').length := by rw [obf_len]; exact (List.getElem?_eq_some_iff.mp hv).1
  have hD' : K (wI w i k v) = some rr := hD
  have fin : ∀ (H1 : Heap) (locs1 : List Loc), va_P G vcls ((cells ρ cs w).set i (ρ i, .inr (c', (obf ρ (w.1 i) w.2.2 i c').set k (.int v)))) H1 → va_S (A0 ρ) s.heap H1 locs1 → W p l e R s m args below meth c H1 locs1 kc ks Q (F0 m (pc + 3) ls st) := fun H1 locs1 g1 g2 => kk _ hD' H1 locs1 ls (by rw [← hset v]; exact g1) g2 hl
  rcases hf with hf | ⟨host, hf⟩
  · exact va_put hx hb hts hin' (fun k => vty (q.2.1 k).2.2.1) (vcls_ty q hm) (vcls_nm q hm) hown hK hP (cells_D hin) hS i he hc k hk (hts _ hf) (fun _ z => z) hfin (by rw [hdd]; exact p_I) rfl rfl hl' hd (fun H1 locs1 g1 _ g2 => fin H1 locs1 g1 g2)
  · exact va_putN hx hb hts hin' (fun k => vty (q.2.1 k).2.2.1) (vcls_ty q hm) (vcls_nm q hm) hown hK hP (cells_D hin) hS i he hc k hk (va_Nw.use rfl (hO.2.2.2.2.2.2 _ hf)) (fun _ z => z) hfin (by rw [hdd]; exact p_I) rfl rfl hl' hd (fun H1 locs1 g1 _ g2 => fin H1 locs1 g1 g2)
theorem g_putZ (h : Okx l0 ρ cs G X cc own d) {idx c' f : Nat} {v : Int32} {K : Wd → Option α} (i k : Nat) (hf : FLk own idx c' k) (hp : FPk c' k "Z") (hs : sh i = (7, c', f)) (hi : i < vN) (hv : (fspl.getD c' [])[k]? = some 0) (hd : decode cc pc = .ok (.putfield idx, 3)) (hD : (if b01 v then bd (wI w i k v) K else none) = some rr)
    (kk : ∀ w', K w' = some rr → gG ρ cs G X (pc + 3) L st w') : gG ρ cs G X pc L (.int v :: .ref (ρ i) :: st) w := by
  obtain ⟨p, l, e, R, s, m, args, below, meth, c, n, kc, ks, Q⟩ := X
  obtain ⟨hll, hx, hb, hml, hown, hts, hK, hin, hR, hO⟩ := h
  intro H locs ls hP hS hl
  obtain ⟨q, hc, hk, hf⟩ := hf
  obtain ⟨q', hc', hfin, hdd⟩ := hp
  cases hc.symm.trans hc'
  have hm := List.mem_of_getElem? hc
  have hin' := vcls_in q hm
  have he := cells_get (ρ := ρ) (cs := cs) (w := w) hi (cel_ob hs)
  have hset : ∀ v : Int32, (cells ρ cs w).set i (ρ i, .inr (c', (obf ρ (w.1 i) w.2.2 i c').set k (.int v))) = cells ρ cs (wI w i k v) := fun v => by
    rw [obf_set hv]
    refine cells_set ?_ (fun j hj => wI_ne hj)
    rw [cel_ob hs, wI_row]
    rfl
  have hl' : k < (obf ρ (w.1 i) w.2.2 i c').length := by rw [obf_len]; exact (List.getElem?_eq_some_iff.mp hv).1
  have hq := of_ite hD
  have hD' : K (wI w i k v) = some rr := hq.2
  have fin : ∀ (H1 : Heap) (locs1 : List Loc), va_P G vcls ((cells ρ cs w).set i (ρ i, .inr (c', (obf ρ (w.1 i) w.2.2 i c').set k (.int v)))) H1 → va_S (A0 ρ) s.heap H1 locs1 → W p l e R s m args below meth c H1 locs1 kc ks Q (F0 m (pc + 3) ls st) := fun H1 locs1 g1 g2 => kk _ hD' H1 locs1 ls (by rw [← hset v]; exact g1) g2 hl
  rcases hf with hf | ⟨host, hf⟩
  · exact va_put hx hb hts hin' (fun k => vty (q.2.1 k).2.2.1) (vcls_ty q hm) (vcls_nm q hm) hown hK hP (cells_D hin) hS i he hc k hk (hts _ hf) (fun _ z => z) hfin (by rw [hdd]; exact p_Z) (b01_n hq.1) (b01_f hq.1) hl' hd (fun H1 locs1 g1 _ g2 => fin H1 locs1 g1 g2)
  · exact va_putN hx hb hts hin' (fun k => vty (q.2.1 k).2.2.1) (vcls_ty q hm) (vcls_nm q hm) hown hK hP (cells_D hin) hS i he hc k hk (va_Nw.use rfl (hO.2.2.2.2.2.2 _ hf)) (fun _ z => z) hfin (by rw [hdd]; exact p_Z) (b01_n hq.1) (b01_f hq.1) hl' hd (fun H1 locs1 g1 _ g2 => fin H1 locs1 g1 g2)
theorem g_iald (h : Okx l0 ρ cs G X cc own d) {n0 f : Nat} {i : Int32} (a : Nat) (hs : sh a = (1, n0, f)) (ha : a < vN) (hd : decode cc pc = .ok (.iaload, 1)) (hD : (if ib i n0 then B else none) = some rr)
    (kk : B = some rr → gG ρ cs G X (pc + 1) L (.int (w.1 a i.toNatClampNeg) :: st) w) : gG ρ cs G X pc L (.int i :: .ref (ρ a) :: st) w := by
  obtain ⟨p, l, e, R, s, m, args, below, meth, c, n, kc, ks, Q⟩ := X
  obtain ⟨hll, hx, hb, hml, hown, hts, hK, hin, hR, hO⟩ := h
  intro H locs ls hP hS hl
  have hq := of_ite hD
  have he : (cells ρ cs w)[a]? = some (ρ a, .inl (cs 0, n0, .inl (w.1 a))) := cells_get ha (by unfold cel; rw [hs]; rfl)
  exact va_iald hx hb hK hP a 0 he rfl (ib_in hq.1) hd (kk hq.2 H locs ls hP hS hl)
theorem g_bald (h : Okx l0 ρ cs G X cc own d) {n0 f : Nat} {i : Int32} (a : Nat) (hs : sh a = (2, n0, f)) (ha : a < vN) (hd : decode cc pc = .ok (.baload, 1)) (hD : (if ib i n0 then B else none) = some rr)
    (kk : B = some rr → gG ρ cs G X (pc + 1) L (.int (w.1 a i.toNatClampNeg) :: st) w) : gG ρ cs G X pc L (.int i :: .ref (ρ a) :: st) w := by
  obtain ⟨p, l, e, R, s, m, args, below, meth, c, n, kc, ks, Q⟩ := X
  obtain ⟨hll, hx, hb, hml, hown, hts, hK, hin, hR, hO⟩ := h
  intro H locs ls hP hS hl
  have hq := of_ite hD
  have he : (cells ρ cs w)[a]? = some (ρ a, .inl (cs 1, n0, .inl (w.1 a))) := cells_get ha (by unfold cel; rw [hs]; rfl)
  exact va_bald hx hb hK hP a 1 he rfl (ib_in hq.1) hd (kk hq.2 H locs ls hP hS hl)
theorem g_zald (h : Okx l0 ρ cs G X cc own d) {n0 f : Nat} {i : Int32} (a : Nat) (hs : sh a = (3, n0, f)) (ha : a < vN) (hd : decode cc pc = .ok (.baload, 1)) (hD : (if ib i n0 then B else none) = some rr)
    (kk : B = some rr → gG ρ cs G X (pc + 1) L (.int (w.1 a i.toNatClampNeg) :: st) w) : gG ρ cs G X pc L (.int i :: .ref (ρ a) :: st) w := by
  obtain ⟨p, l, e, R, s, m, args, below, meth, c, n, kc, ks, Q⟩ := X
  obtain ⟨hll, hx, hb, hml, hown, hts, hK, hin, hR, hO⟩ := h
  intro H locs ls hP hS hl
  have hq := of_ite hD
  have he : (cells ρ cs w)[a]? = some (ρ a, .inl (cs 2, n0, .inl (w.1 a))) := cells_get ha (by unfold cel; rw [hs]; rfl)
  exact va_zald hx hb hK hP a 2 he rfl (ib_in hq.1) hd (kk hq.2 H locs ls hP hS hl)
theorem g_lald (h : Okx l0 ρ cs G X cc own d) {n0 f : Nat} {i : Int32} (a : Nat) (hs : sh a = (4, n0, f)) (ha : a < vN) (hd : decode cc pc = .ok (.laload, 1)) (hD : (if ib i n0 then B else none) = some rr)
    (kk : B = some rr → gG ρ cs G X (pc + 1) L (.long (w.2.1 a i.toNatClampNeg) :: st) w) : gG ρ cs G X pc L (.int i :: .ref (ρ a) :: st) w := by
  obtain ⟨p, l, e, R, s, m, args, below, meth, c, n, kc, ks, Q⟩ := X
  obtain ⟨hll, hx, hb, hml, hown, hts, hK, hin, hR, hO⟩ := h
  intro H locs ls hP hS hl
  have hq := of_ite hD
  have he : (cells ρ cs w)[a]? = some (ρ a, .inl (cs 3, n0, .inr (.inl (w.2.1 a)))) := cells_get ha (by unfold cel; rw [hs]; rfl)
  exact va_lald hx hb hK hP a 3 he rfl (ib_in hq.1) hd (kk hq.2 H locs ls hP hS hl)
theorem g_pald (h : Okx l0 ρ cs G X cc own d) {n0 f : Nat} {i : Int32} {K : Nat → Option α} (a : Nat) (hs : sh a = (5, n0, f)) (ha : a < vN) (hd : decode cc pc = .ok (.aaload, 1)) (hD : (if ib i n0 then bd (f + 3 * i.toNatClampNeg) K else none) = some rr)
    (kk : ∀ t, t = f + 3 * i.toNatClampNeg → i.toNatClampNeg < n0 → K t = some rr → gG ρ cs G X (pc + 1) L (.ref (ρ t) :: st) w) : gG ρ cs G X pc L (.int i :: .ref (ρ a) :: st) w := by
  obtain ⟨p, l, e, R, s, m, args, below, meth, c, n, kc, ks, Q⟩ := X
  obtain ⟨hll, hx, hb, hml, hown, hts, hK, hin, hR, hO⟩ := h
  intro H locs ls hP hS hl
  have hq := of_ite hD
  have he : (cells ρ cs w)[a]? = some (ρ a, .inl (cs 4, n0, .inr (.inr (.inr (.inr (fun j => if j < n0 then some (ρ (f + 3 * j)) else none)))))) := cells_get ha (by unfold cel; rw [hs]; rfl)
  have hlt : i.toNatClampNeg < n0 := Nat.not_le.mp fun z => ib_in hq.1 (Or.inr z)
  refine va_aldq hx hb hK hP a 4 he rfl (ib_in hq.1) hd ?_
  rw [if_pos hlt]
  exact kk _ rfl hlt hq.2 H locs ls hP hS hl
theorem g_rald (h : Okx l0 ρ cs G X cc own d) {n0 f : Nat} {i : Int32} {K : Nat → Option α} (a : Nat) (hs : sh a = (6, n0, f)) (ha : a < vN) (hd : decode cc pc = .ok (.aaload, 1)) (hD : (if ib i n0 then bd (f + i.toNatClampNeg) K else none) = some rr)
    (kk : ∀ t, t = f + i.toNatClampNeg → i.toNatClampNeg < n0 → K t = some rr → gG ρ cs G X (pc + 1) L (.ref (ρ t) :: st) w) : gG ρ cs G X pc L (.int i :: .ref (ρ a) :: st) w := by
  obtain ⟨p, l, e, R, s, m, args, below, meth, c, n, kc, ks, Q⟩ := X
  obtain ⟨hll, hx, hb, hml, hown, hts, hK, hin, hR, hO⟩ := h
  intro H locs ls hP hS hl
  have hq := of_ite hD
  have he : (cells ρ cs w)[a]? = some (ρ a, .inl (cs 5, n0, .inr (.inr (.inr (.inr (fun j => if j < n0 then some (ρ (f + j)) else none)))))) := cells_get ha (by unfold cel; rw [hs]; rfl)
  have hlt : i.toNatClampNeg < n0 := Nat.not_le.mp fun z => ib_in hq.1 (Or.inr z)
  refine W.aald (v := va_rf (some (ρ (f + i.toNatClampNeg)))) (ty := .array .int) hx hb (hP a _ he) ((hK.2 5 _ rfl).1 n0 (fun j => va_rf (if j < n0 then some (ρ (f + j)) else none))) rfl (fun q => by cases q) (by show ¬ (i < 0 ∨ (arrV _ _ _).slots.size ≤ _); rw [arrV_size]; exact ib_in hq.1) (by show (arrV _ _ _).slots[_]? = _; rw [arrV_read _ _ hlt]; show some (va_rf (if i.toNatClampNeg < n0 then some (ρ (f + i.toNatClampNeg)) else none)) = _; rw [if_pos hlt]) rfl rfl hd ?_
  exact kk _ rfl hlt hq.2 H locs ls hP hS hl
theorem g_alen (h : Okx l0 ρ cs G X cc own d) {n0 f : Nat} {v : Int32} (a : Nat) (hs : sh a = (1, n0, f)) (ha : a < vN) (hv : Int32.ofNat n0 = v) (hd : decode cc pc = .ok (.arraylength, 1))
    (kk : gG ρ cs G X (pc + 1) L (.int v :: st) w) : gG ρ cs G X pc L (.ref (ρ a) :: st) w := by
  obtain ⟨p, l, e, R, s, m, args, below, meth, c, n, kc, ks, Q⟩ := X
  obtain ⟨hll, hx, hb, hml, hown, hts, hK, hin, hR, hO⟩ := h
  intro H locs ls hP hS hl
  have he : (cells ρ cs w)[a]? = some (ρ a, .inl (cs 0, n0, .inl (w.1 a))) := cells_get ha (by unfold cel; rw [hs]; rfl)
  exact va_alen hx hb hK hP a 0 he rfl hv hd (kk H locs ls hP hS hl)
theorem g_alenJ (h : Okx l0 ρ cs G X cc own d) {n0 f : Nat} {v : Int32} (a : Nat) (hs : sh a = (4, n0, f)) (ha : a < vN) (hv : Int32.ofNat n0 = v) (hd : decode cc pc = .ok (.arraylength, 1))
    (kk : gG ρ cs G X (pc + 1) L (.int v :: st) w) : gG ρ cs G X pc L (.ref (ρ a) :: st) w := by
  obtain ⟨p, l, e, R, s, m, args, below, meth, c, n, kc, ks, Q⟩ := X
  obtain ⟨hll, hx, hb, hml, hown, hts, hK, hin, hR, hO⟩ := h
  intro H locs ls hP hS hl
  have he : (cells ρ cs w)[a]? = some (ρ a, .inl (cs 3, n0, .inr (.inl (w.2.1 a)))) := cells_get ha (by unfold cel; rw [hs]; rfl)
  exact va_alen hx hb hK hP a 3 he rfl hv hd (kk H locs ls hP hS hl)
theorem g_iast (h : Okx l0 ρ cs G X cc own d) {n0 f : Nat} {i x : Int32} {K : Wd → Option α} (a : Nat) (hs : sh a = (1, n0, f)) (ha : a < vN) (hd : decode cc pc = .ok (.iastore, 1)) (hD : (if ib i n0 then bd (wI w a i.toNatClampNeg (x)) K else none) = some rr)
    (kk : ∀ w', K w' = some rr → gG ρ cs G X (pc + 1) L st w') : gG ρ cs G X pc L (.int x :: .int i :: .ref (ρ a) :: st) w := by
  obtain ⟨p, l, e, R, s, m, args, below, meth, c, n, kc, ks, Q⟩ := X
  obtain ⟨hll, hx, hb, hml, hown, hts, hK, hin, hR, hO⟩ := h
  intro H locs ls hP hS hl
  have hq := of_ite hD
  have he : (cells ρ cs w)[a]? = some (ρ a, .inl (cs 0, n0, .inl (w.1 a))) := cells_get ha (by unfold cel; rw [hs]; rfl)
  refine va_iast hx hb hK hP (cells_D hin) hS a 0 he rfl (ib_in hq.1) hd (fun H1 locs1 g1 _ g2 => kk _ hq.2 H1 locs1 ls ?_ g2 hl)
  rw [← cells_set (w' := wI w a i.toNatClampNeg (x)) (by unfold cel; rw [hs, wI_row]) (fun j hj => wI_ne hj)]
  exact g1
theorem g_bast (h : Okx l0 ρ cs G X cc own d) {n0 f : Nat} {i x : Int32} {K : Wd → Option α} (a : Nat) (hs : sh a = (2, n0, f)) (ha : a < vN) (hd : decode cc pc = .ok (.bastore, 1)) (hD : (if ib i n0 then bd (wI w a i.toNatClampNeg (vp_nar .byte x)) K else none) = some rr)
    (kk : ∀ w', K w' = some rr → gG ρ cs G X (pc + 1) L st w') : gG ρ cs G X pc L (.int x :: .int i :: .ref (ρ a) :: st) w := by
  obtain ⟨p, l, e, R, s, m, args, below, meth, c, n, kc, ks, Q⟩ := X
  obtain ⟨hll, hx, hb, hml, hown, hts, hK, hin, hR, hO⟩ := h
  intro H locs ls hP hS hl
  have hq := of_ite hD
  have he : (cells ρ cs w)[a]? = some (ρ a, .inl (cs 1, n0, .inl (w.1 a))) := cells_get ha (by unfold cel; rw [hs]; rfl)
  refine va_bast hx hb hK hP (cells_D hin) hS a 1 he rfl (ib_in hq.1) hd (fun H1 locs1 g1 _ g2 => kk _ hq.2 H1 locs1 ls ?_ g2 hl)
  rw [← cells_set (w' := wI w a i.toNatClampNeg (vp_nar .byte x)) (by unfold cel; rw [hs, wI_row]) (fun j hj => wI_ne hj)]
  exact g1
theorem g_zast (h : Okx l0 ρ cs G X cc own d) {n0 f : Nat} {i x : Int32} {K : Wd → Option α} (a : Nat) (hs : sh a = (3, n0, f)) (ha : a < vN) (hd : decode cc pc = .ok (.bastore, 1)) (hD : (if ib i n0 then bd (wI w a i.toNatClampNeg (vp_nar .boolean x)) K else none) = some rr)
    (kk : ∀ w', K w' = some rr → gG ρ cs G X (pc + 1) L st w') : gG ρ cs G X pc L (.int x :: .int i :: .ref (ρ a) :: st) w := by
  obtain ⟨p, l, e, R, s, m, args, below, meth, c, n, kc, ks, Q⟩ := X
  obtain ⟨hll, hx, hb, hml, hown, hts, hK, hin, hR, hO⟩ := h
  intro H locs ls hP hS hl
  have hq := of_ite hD
  have he : (cells ρ cs w)[a]? = some (ρ a, .inl (cs 2, n0, .inl (w.1 a))) := cells_get ha (by unfold cel; rw [hs]; rfl)
  refine va_zast hx hb hK hP (cells_D hin) hS a 2 he rfl (ib_in hq.1) hd (fun H1 locs1 g1 _ g2 => kk _ hq.2 H1 locs1 ls ?_ g2 hl)
  rw [← cells_set (w' := wI w a i.toNatClampNeg (vp_nar .boolean x)) (by unfold cel; rw [hs, wI_row]) (fun j hj => wI_ne hj)]
  exact g1
theorem g_last (h : Okx l0 ρ cs G X cc own d) {n0 f : Nat} {i : Int32} {x : Int64} {K : Wd → Option α} (a : Nat) (hs : sh a = (4, n0, f)) (ha : a < vN) (hd : decode cc pc = .ok (.lastore, 1)) (hD : (if ib i n0 then bd (wJ w a i.toNatClampNeg x) K else none) = some rr)
    (kk : ∀ w', K w' = some rr → gG ρ cs G X (pc + 1) L st w') : gG ρ cs G X pc L (.long x :: .int i :: .ref (ρ a) :: st) w := by
  obtain ⟨p, l, e, R, s, m, args, below, meth, c, n, kc, ks, Q⟩ := X
  obtain ⟨hll, hx, hb, hml, hown, hts, hK, hin, hR, hO⟩ := h
  intro H locs ls hP hS hl
  have hq := of_ite hD
  have he : (cells ρ cs w)[a]? = some (ρ a, .inl (cs 3, n0, .inr (.inl (w.2.1 a)))) := cells_get ha (by unfold cel; rw [hs]; rfl)
  refine va_last hx hb hK hP (cells_D hin) hS a 3 he rfl (ib_in hq.1) hd (fun H1 locs1 g1 _ g2 => kk _ hq.2 H1 locs1 ls ?_ g2 hl)
  rw [← cells_set (w' := wJ w a i.toNatClampNeg x) (by unfold cel; rw [hs, wJ_row]) (fun j hj => wJ_ne hj)]
  exact g1
theorem g_bdI {K : Int32 → Option α} {x : Int32} (hD : bd x K = some rr) (kk : ∀ y, K y = some rr → gG ρ cs G X pc L (.int y :: st) w) : gG ρ cs G X pc L (.int x :: st) w := kk x hD
theorem g_bdJ {K : Int64 → Option α} {x : Int64} (hD : bd x K = some rr) (kk : ∀ y, K y = some rr → gG ρ cs G X pc L (.long y :: st) w) : gG ρ cs G X pc L (.long x :: st) w := kk x hD
end GR
