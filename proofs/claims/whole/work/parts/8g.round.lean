/-! positions without their MOVES, in order; round -/
def eqN (Q P : Nat → Nat) : Nat → Nat → Bool
  | 0, _ => true
  | n + 1, i => decide (Q i = P i) && eqN Q P n (i + 1)
def eqB (Q P : Nat → Nat) : Bool := eqN Q P 15 0
def fdI (o : Option Nat) : Int32 := match o with | none => -1 | some j => nI j
theorem eqN_iff {Q P : Nat → Nat} : ∀ n i, eqN Q P n i = true ↔ ∀ j, i ≤ j → j < i + n → Q j = P j := by
  intro n
  induction n with
  | zero => intro i; exact ⟨fun _ j h1 h2 => by omega, fun _ => rfl⟩
  | succ n ih =>
    intro i
    unfold eqN
    rw [Bool.and_eq_true, ih, decide_eq_true_eq]
    refine ⟨fun h j h1 h2 => ?_, fun h => ⟨h i (Nat.le_refl _) (by omega), fun j h1 h2 => h j (by omega) (by omega)⟩⟩
    by_cases e : j = i
    · subst e; exact h.1
    · exact h.2 j (by omega) (by omega)
theorem eqB_N {Q P : Nat → Nat} : eqB Q P = eqN Q P 15 0 := rfl
def okQ (P : Nat → Nat) : Prop := ∀ i, i < 15 → P i < 2 ^ 31
theorem okQ_of {c L : Nat} {P : Nat → Nat} (hB : okB c L (P 14) P) : okQ P := by
  intro i hi
  by_cases h : i = 14
  · subst h
    have := hB.2.2.2.1
    omega
  · have := le_tot (P := P) (i := i) (by omega)
    have := hB.2.2.2.2.2
    omega
def gQ (l : List (Nat → Nat)) (i : Nat) : Nat → Nat := l.getD i (fun _ => 0)
theorem gQ_get {l : List (Nat → Nat)} {i : Nat} (h : i < l.length) : l[i]? = some (gQ l i) := by
  unfold gQ
  rw [List.getD_eq_getElem?_getD, List.getElem?_eq_getElem h]
  rfl
/-- the first place from i on, among n, where P lies -/
def fdS (l : List (Nat → Nat)) (P : Nat → Nat) : Nat → Nat → Option Nat
  | 0, _ => none
  | n + 1, i => if eqB (gQ l i) P = true then some i else fdS l P n (i + 1)
theorem fdS_lt {l : List (Nat → Nat)} {P : Nat → Nat} : ∀ n i j, fdS l P n i = some j → i ≤ j ∧ j < i + n := by
  intro n
  induction n with
  | zero => intro i j h; cases h
  | succ n ih =>
    intro i j h
    unfold fdS at h
    split at h
    · cases h; omega
    · have := ih _ _ h
      omega
/-- the class's shelf -/
def shC (w : Wd) (l : List (Nat → Nat)) : Prop := w.1 98 1 = nI l.length ∧ ∀ i Q, l[i]? = some Q → okQ Q ∧ ∀ k, k < 15 → w.1 99 (15 * i + k) = nI (Q k)
section SHE
variable {w : Wd} {q c : Nat} {P : Nat → Nat} {l : List (Nat → Nat)}
theorem shC_keep {w' : Wd} (h : shC w l) (h98 : w'.1 98 = w.1 98) (h99 : w'.1 99 = w.1 99) : shC w' l := by
  unfold shC
  rw [h98, h99]
  exact h
theorem c_shAt (hat : isAt w q c P) (hok : okQ P) (h : shC w l) (hl : l.length ≤ 216) {i : Nat} (hi : i < l.length) : D_X8_isAt (nI i) q w = some (if eqB (gQ l i) P = true then 1 else 0, w) := by
  obtain ⟨q1, q2⟩ := h.2 i _ (gQ_get hi)
  have hee : ∀ k, k < 15 → (nI (gQ l i k) = nI (P k) ↔ gQ l i k = P k) := fun k hk => nI_eq (q1 k hk) (hok k hk)
  have n15 : (15 : Int32) = nI 15 := n15
  have hin : ∀ k, k < 15 → ib (nI (i * 15) + nI k) 3240 = true ∧ (nI (i * 15) + nI k).toNatClampNeg = 15 * i + k := by
    intro k hk
    rw [nI_add]
    exact ⟨ib_nI (by omega) (by decide), by rw [nI_clamp (by omega)]; omega⟩
  have key : ∀ (n j fu : Nat), n + j = 12 → n < fu → L_X8_isAt_8 q (nI (i * 15)) J_X8_isAt_x34_1 (J_X8_isAt_x42_2 (nI (i * 15)) q) fu (nI j) w = some (if eqN (gQ l i) P (n + 3) j = true then 1 else 0, w) := by
    intro n
    induction n with
    | zero =>
      intro j fu hj hf
      obtain ⟨fu, rfl⟩ : ∃ n', fu = n' + 1 := ⟨fu - 1, by omega⟩
      have ej : j = 12 := by omega
      subst ej
      unfold L_X8_isAt_8
      rw [n12, if_pos (nI_le (by omega) (by omega))]
      unfold J_X8_isAt_x42_2
      have z0 : (0 : Int32).toNatClampNeg = 0 := by decide
      have z1 : (1 : Int32).toNatClampNeg = 1 := by decide
      have i12 := hin 12 (by decide)
      have i13 := hin 13 (by decide)
      have i14 := hin 14 (by decide)
      have e13 : nI (i * 15) + nI 12 + 1 = nI (i * 15) + nI 13 := by rw [nI_add, nI_1, nI_add]
      have e14 : nI (i * 15) + nI 12 + 2 = nI (i * 15) + nI 14 := by rw [nI_add, nI_2', nI_add, nI_add]
      rw [n12, e13, e14, i12.2, i13.2, i14.2, z0, z1, q2 12 (by decide), q2 13 (by decide), q2 14 (by decide), at_P hat (i := 0) (by decide), at_P hat (i := 1) (by decide), isAt_m hat, if_pos i12.1, if_pos (by decide)]
      show _ = some (if (decide (gQ l i 12 = P 12) && (decide (gQ l i 13 = P 13) && (decide (gQ l i 14 = P 14) && true))) = true then 1 else 0, w)
      by_cases c0 : gQ l i 12 = P 12
      · rw [if_pos ((hee 12 (by decide)).mpr c0), if_pos i13.1, if_pos (by decide)]
        by_cases c1 : gQ l i 13 = P 13
        · rw [if_pos ((hee 13 (by decide)).mpr c1), if_pos i14.1]
          by_cases c2 : gQ l i 14 = P 14
          · rw [if_pos ((hee 14 (by decide)).mpr c2)]
            simp [c0, c1, c2]
          · rw [if_neg (fun z => c2 ((hee 14 (by decide)).mp z))]
            simp [c2]
        · rw [if_neg (fun z => c1 ((hee 13 (by decide)).mp z))]
          simp [c1]
      · rw [if_neg (fun z => c0 ((hee 12 (by decide)).mp z))]
        simp [c0]
    | succ n ih =>
      intro j fu hj hf
      obtain ⟨fu, rfl⟩ : ∃ n', fu = n' + 1 := ⟨fu - 1, by omega⟩
      have ij := hin j (by omega)
      unfold L_X8_isAt_8
      rw [n12, if_neg (nI_ge (by omega) (by omega)), if_pos ij.1, if_pos (ib_nI (by omega) (by decide)), ij.2, nI_clamp (by omega), q2 j (by omega), isAt_s hat j (by omega), show n + 1 + 3 = (n + 3) + 1 by omega]
      show _ = some (if (decide (gQ l i j = P j) && eqN (gQ l i) P (n + 3) (j + 1)) = true then 1 else 0, w)
      by_cases cj : gQ l i j = P j
      · rw [if_pos ((hee j (by omega)).mpr cj), bd_eq, nI_1, ih (j + 1) fu (by omega) (by omega)]
        simp [cj]
      · rw [if_neg (fun z => cj ((hee j (by omega)).mp z))]
        simp [cj]
        rfl
  have := key 12 0 FU rfl (by unfold FU; omega)
  rw [nI_0] at this
  unfold D_X8_isAt
  rw [n15, pk_mul, bd_eq, this, eqB_N]
theorem c_find (hat : isAt w q c P) (hok : okQ P) (h : shC w l) (hl : l.length ≤ 216) : D_X8_find q w = some (fdI (fdS l P l.length 0), w) := by
  have key : ∀ (n i fu : Nat), n + i = l.length → n < fu → L_X8_find_2 q J_X8_find_x19_1 J_X8_find_x27_2 fu (nI i) w = some (fdI (fdS l P n i), w) := by
    intro n
    induction n with
    | zero =>
      intro i fu hi hf
      obtain ⟨fu, rfl⟩ : ∃ n', fu = n' + 1 := ⟨fu - 1, by omega⟩
      unfold L_X8_find_2
      rw [h.1, if_pos (nI_le (by omega) (by omega))]
      rfl
    | succ n ih =>
      intro i fu hi hf
      obtain ⟨fu, rfl⟩ : ∃ n', fu = n' + 1 := ⟨fu - 1, by omega⟩
      unfold L_X8_find_2 fdS
      rw [h.1, if_neg (nI_ge (by omega) (by omega)), c_shAt hat hok h hl (by omega), bc_eq]
      by_cases ce : eqB (gQ l i) P = true
      · rw [if_pos ce, if_neg (by decide), if_pos ce]
        rfl
      · rw [if_neg ce, if_pos rfl, if_neg ce, bd_eq, nI_1]
        exact ih (i + 1) fu (by omega) (by omega)
  have := key l.length 0 FU (by omega) (by unfold FU; omega)
  rw [nI_0] at this
  exact this
theorem c_put (hat : isAt w q c P) (hok : okQ P) (h : shC w l) (hl : l.length < 216) (hq : q + 2 < 75) : ∃ w1, D_X8_put q w = some w1 ∧ shC w1 (l ++ [P]) ∧ but [98, 99] w w1 := by
  have z0 : (0 : Int32).toNatClampNeg = 0 := by decide
  have z1 : (1 : Int32).toNatClampNeg = 1 := by decide
  have z12 : (12 : Int32).toNatClampNeg = 12 := by decide
  have n15 : (15 : Int32) = nI 15 := n15
  have hcp : cpb 0 (nI (l.length * 15)) 12 12 3240 = true := by
    unfold cpb
    rw [nI_clamp (by omega), z0, z12]
    have : (0 : Int32) ≤ nI (l.length * 15) := nI_pos' (by omega)
    simp [this]
    omega
  have hin : ∀ k, k < 15 → ib (nI (l.length * 15) + nI k) 3240 = true ∧ (nI (l.length * 15) + nI k).toNatClampNeg = 15 * l.length + k := by
    intro k hk
    rw [nI_add]
    exact ⟨ib_nI (by omega) (by decide), by rw [nI_clamp (by omega)]; omega⟩
  have e13 : nI (l.length * 15) + nI 12 + 1 = nI (l.length * 15) + nI 13 := by rw [nI_add, nI_1, nI_add]
  have e14 : nI (l.length * 15) + nI 12 + 2 = nI (l.length * 15) + nI 14 := by rw [nI_add, nI_2', nI_add, nI_add]
  generalize hW : wI (wI (wI (wI (wC w (q + 1) 99 0 (nI (l.length * 15)) 12) 99 (15 * l.length + 12) (nI (P 12))) 99 (15 * l.length + 13) (nI (P 13))) 99 (15 * l.length + 14) (nI (P 14))) 98 1 (nI (l.length + 1)) = W
  have b1 : but [98, 99] w W := by
    rw [← hW, wC_wR]
    exact but_tr (but_tr (but_tr (but_tr (but_wR (by simp)) (but_wI (by simp))) (but_wI (by simp))) (but_wI (by simp))) (but_wI (by simp))
  refine ⟨W, ?_, ⟨by rw [← hW, wI_at, List.length_append]; rfl, fun i Q hi => ?_⟩, b1⟩
  · unfold D_X8_put
    rw [h.1, show (216 : Int32) = nI 216 from by decide +kernel, if_neg (nI_ge (by omega) (by decide)), n15, pk_mul, bd_eq, if_pos hcp, bd_eq, if_pos (by decide), n12, if_pos (hin 12 (by decide)).1, (hin 12 (by decide)).2, bd_eq, if_pos (by decide), e13, if_pos (hin 13 (by decide)).1, (hin 13 (by decide)).2, bd_eq, e14, if_pos (hin 14 (by decide)).1, (hin 14 (by decide)).2, bd_eq, bd_eq, z0, z1]
    have f1 : (wC w (q + 1) 99 0 (nI (l.length * 15)) (nI 12)).1 (q + 2) 0 = nI (P 12) := by
      rw [wC_wR, wR_ne (by omega)]
      exact at_P hat (i := 0) (by decide)
    have f2 : ∀ v, (wI (wC w (q + 1) 99 0 (nI (l.length * 15)) (nI 12)) 99 (15 * l.length + 12) v).1 (q + 2) 1 = nI (P 13) := by
      intro v
      rw [wI_r (by omega), wC_wR, wR_ne (by omega)]
      exact at_P hat (i := 1) (by decide)
    have f3 : ∀ v v2, (wI (wI (wC w (q + 1) 99 0 (nI (l.length * 15)) (nI 12)) 99 (15 * l.length + 12) v) 99 (15 * l.length + 13) v2).1 q 3 = nI (P 14) := by
      intro v v2
      rw [wI_r (by omega), wI_r (by omega), wC_wR, wR_ne (by omega)]
      exact isAt_m hat
    rw [f1, f2, f3, wI_r (show (98 : Nat) ≠ 99 by decide), wI_r (show (98 : Nat) ≠ 99 by decide), wI_r (show (98 : Nat) ≠ 99 by decide), wC_wR, wR_ne (show (98 : Nat) ≠ 99 by decide), h.1, nI_1, ← hW, wC_wR, n12]
  · have f99 : ∀ k, W.1 99 k = if k = 15 * l.length + 14 then nI (P 14) else if k = 15 * l.length + 13 then nI (P 13) else if k = 15 * l.length + 12 then nI (P 12) else if 15 * l.length ≤ k ∧ k < 15 * l.length + 12 then nI (P (k - 15 * l.length)) else w.1 99 k := by
      intro k
      rw [← hW, wI_r (by decide)]
      by_cases k4 : k = 15 * l.length + 14
      · rw [if_pos k4, k4, wI_at]
      · rw [if_neg k4, wI_at_ne k4]
        by_cases k3 : k = 15 * l.length + 13
        · rw [if_pos k3, k3, wI_at]
        · rw [if_neg k3, wI_at_ne k3]
          by_cases k2 : k = 15 * l.length + 12
          · rw [if_pos k2, k2, wI_at]
          · rw [if_neg k2, wI_at_ne k2, wC_wR, wR_self, nI_clamp (by omega), z0, z12]
            unfold va_cpy
            rw [show l.length * 15 = 15 * l.length by omega]
            by_cases k1 : 15 * l.length ≤ k ∧ k < 15 * l.length + 12
            · rw [if_pos k1, if_pos k1, Nat.zero_add, isAt_s hat _ (by omega)]
            · rw [if_neg k1, if_neg k1]
    by_cases e : i = l.length
    · subst e
      rw [List.getElem?_append_right (Nat.le_refl _), Nat.sub_self] at hi
      cases hi
      refine ⟨hok, fun k hk => ?_⟩
      rw [f99]
      by_cases k4 : k = 14
      · subst k4; rw [if_pos rfl]
      · rw [if_neg (by omega)]
        by_cases k3 : k = 13
        · subst k3; rw [if_pos rfl]
        · rw [if_neg (by omega)]
          by_cases k2 : k = 12
          · subst k2; rw [if_pos rfl]
          · rw [if_neg (by omega), if_pos (by omega), show 15 * l.length + k - 15 * l.length = k by omega]
    · have hb : i < (l ++ [P]).length := (List.getElem?_eq_some_iff.mp hi).1
      rw [List.length_append, show [P].length = 1 from rfl] at hb
      rw [List.getElem?_append_left (by omega)] at hi
      obtain ⟨q1, q2⟩ := h.2 i Q hi
      refine ⟨q1, fun k hk => ?_⟩
      rw [f99, if_neg (by omega), if_neg (by omega), if_neg (by omega), if_neg (by omega)]
      exact q2 k hk
end SHE
/-- the reference's row of positions -/
def goM (u : Wd) (l : List (Nat → Nat)) : Prop := ∀ i Q, l[i]? = some Q → okQ Q ∧ ∀ k, k < 15 → u.1 150 (16 * i + k) = nI (Q k)
section GOM
variable {u : Wd} {P : Nat → Nat} {l : List (Nat → Nat)}
theorem m_isGone (h : goM u (l ++ [P])) (hl : l.length ≤ 60) {i : Nat} (hi : i < l.length) : D_X12_isGone (nI i) (nI l.length) u = some (if eqB (gQ l i) P = true then 1 else 0, u) := by
  have hx : (l ++ [P])[i]? = some (gQ l i) := by rw [List.getElem?_append_left hi]; exact gQ_get hi
  have hy : (l ++ [P])[l.length]? = some P := by rw [List.getElem?_append_right (Nat.le_refl _), Nat.sub_self]; rfl
  obtain ⟨a1, a2⟩ := h i _ hx
  obtain ⟨b1, b2⟩ := h l.length _ hy
  have hee : ∀ k, k < 15 → (nI (gQ l i k) = nI (P k) ↔ gQ l i k = P k) := fun k hk => nI_eq (a1 k hk) (b1 k hk)
  have key : ∀ (n j fu : Nat), n + j = 15 → n < fu → L_X12_isGone_2 (nI i) (nI l.length) J_X12_isGone_x33_1 J_X12_isGone_x41_2 fu (nI j) u = some (if eqN (gQ l i) P n j = true then 1 else 0, u) := by
    intro n
    induction n with
    | zero =>
      intro j fu hj hf
      obtain ⟨fu, rfl⟩ : ∃ n', fu = n' + 1 := ⟨fu - 1, by omega⟩
      unfold L_X12_isGone_2
      rw [n15, if_pos (nI_le (by omega) (by omega))]
      rfl
    | succ n ih =>
      intro j fu hj hf
      obtain ⟨fu, rfl⟩ : ∃ n', fu = n' + 1 := ⟨fu - 1, by omega⟩
      unfold L_X12_isGone_2
      rw [n15, if_neg (nI_ge (by omega) (by omega)), n16, pk_mul, pk_mul, nI_add, nI_add, if_pos (ib_nI (by omega) (by decide)), if_pos (ib_nI (by omega) (by decide)), nI_clamp (by omega), nI_clamp (by omega), a2 j (by omega), b2 j (by omega)]
      show _ = some (if (decide (gQ l i j = P j) && eqN (gQ l i) P n (j + 1)) = true then 1 else 0, u)
      by_cases cj : gQ l i j = P j
      · rw [if_pos ((hee j (by omega)).mpr cj), bd_eq, nI_1, ih (j + 1) fu (by omega) (by omega)]
        simp [cj]
      · rw [if_neg (fun z => cj ((hee j (by omega)).mp z))]
        simp [cj]
        rfl
  have := key 15 0 FU rfl (by unfold FU; omega)
  rw [nI_0] at this
  unfold D_X12_isGone
  rw [this, eqB_N]
theorem m_goneLoop {k14 : Int32 → Wd → Option (Int32 × Wd)} {k15 : Wd → Option (Int32 × Wd)} (h : goM u (l ++ [P])) (hl : l.length ≤ 60) : ∀ (n i fu : Nat), n + i = l.length → n < fu → L_X12_round_68 (nI l.length) k14 k15 fu (nI i) u = match fdS l P n i with | none => k15 u | some j => k14 (nI j) u := by
  intro n
  induction n with
  | zero =>
    intro i fu hi hf
    obtain ⟨fu, rfl⟩ : ∃ n', fu = n' + 1 := ⟨fu - 1, by omega⟩
    unfold L_X12_round_68
    rw [if_pos (nI_le (by omega) (by omega))]
    rfl
  | succ n ih =>
    intro i fu hi hf
    obtain ⟨fu, rfl⟩ : ∃ n', fu = n' + 1 := ⟨fu - 1, by omega⟩
    unfold L_X12_round_68 fdS
    rw [if_neg (nI_ge (by omega) (by omega)), m_isGone h hl (by omega), bc_eq]
    by_cases ce : eqB (gQ l i) P = true
    · rw [if_pos ce, if_neg (by decide), if_pos ce]
    · rw [if_neg ce, if_pos rfl, if_neg ce, bd_eq, nI_1]
      exact ih (i + 1) fu (by omega) (by omega)
theorem m_layGone (hok : okQ P) (h : goM u l) (hl : l.length ≤ 60) (hP : u.1 129 = eP P) : ∃ u1, D_X12_lay 129 150 (nI (16 * l.length)) u = some u1 ∧ goM u1 (l ++ [P]) ∧ sameR [150] [] [] [] u u1 := by
  have e := d_layG (w := u) (a := 129) (b := 150) (k0 := 16 * l.length) (by decide) (by decide) (by show 16 * l.length + 16 ≤ 976; omega) (by decide) (by decide)
  refine ⟨_, e, fun i Q hi => ?_, sameR_wR (by simp) (by decide)⟩
  by_cases ei : i = l.length
  · subst ei
    rw [List.getElem?_append_right (Nat.le_refl _), Nat.sub_self] at hi
    cases hi
    refine ⟨hok, fun k hk => ?_⟩
    rw [wR_self, if_pos (by omega), show 16 * l.length + k - 16 * l.length = k by omega, hP]
    rfl
  · have hb : i < (l ++ [P]).length := (List.getElem?_eq_some_iff.mp hi).1
    rw [List.length_append, show [P].length = 1 from rfl] at hb
    rw [List.getElem?_append_left (by omega)] at hi
    obtain ⟨q1, q2⟩ := h i Q hi
    refine ⟨q1, fun k hk => ?_⟩
    rw [wR_self, if_neg (by omega)]
    exact q2 k hk
end GOM
section RO
variable {w w0 : Wd} {c L : Nat} {P P0 : Nat → Nat} {hs : List (Nat → Nat)} {tx rl : List Nat} {cd : List Int32} {V : (Nat → Int32) → Int32} {kp : Nat → Option (Nat → Nat)} {cl si : List (Int32 × Int32)} {rw : List Int64}
theorem aC_play2 (m : CR w0 c L P0 hs tx cd kp cl si rw) (okr : okRl rl cd V) (hB : okB c L (P 14) P) (h : aC w0 w c P) : ∃ w1, D_X4_play 6 106 (w.1 75 18) w = some (if overS c P = true then 0 else 1, w1) ∧ aC w0 w1 c (rlS c L P V) ∧ but [6, 7, 8, 51, 52, 53, 85, 86, 108] w w1 := by
  have hj : JR w 106 V := JR_q (JR_of m.2.2.2.2.2.2.2.2.2.1 okr) h.1 (by decide) (by decide)
  obtain ⟨w1, e1, a1, b1, at1⟩ := c_play (q := 6) (o := 106) (by decide) (by decide) (by decide) hB h.2 (h.1.2 m.2.2.1 51 (by decide)) hj
  refine ⟨w1, ?_, ⟨qC_tr h.1 (qC_at2 (r := 6) (s := 51) (by decide) (by decide) b1 (by decide) (by decide) ⟨_, _, a1⟩ at1), a1⟩, b1⟩
  rw [h.1.1.1 75 (by decide), m.2.1, e1]
theorem aM_go2 {u0 u : Wd} (n : MR u0 c L P0 hs tx rl kp cl si rw) (okr : okRl rl cd V) (hB : okB c L (P 14) P) (h : aM u0 u P) : ∃ u1, D_X12_goRule 129 u = some (if overS c P = true then 0 else 1, u1) ∧ aM u0 u1 (rlS c L P V) ∧ sameR (129 :: EW) FW [] [0] u u1 := by
  obtain ⟨u1, g1, s1, i1, i2⟩ := m_goRule (a := 129) (V := V) (by decide) (by decide) (by decide) rfl hB h.2 (h.1.2 (arrM_of n) 130 (by decide)) ((h.1.1.2.1 1 (by decide)).trans n.1) ((h.1.1.2.1 2 (by decide)).trans n.2.1) (ruM_q (ruM_of n okr) h.1)
  exact ⟨u1, g1, ⟨qM_tr h.1 (qM_sub (qM_at2 (r := 129) (s := 130) s1 (by decide) (by decide) (by decide) ⟨_, i1⟩ i2) (by decide) (by simp)), i1⟩, s1⟩
theorem goM_same {u u' : Wd} {l : List (Nat → Nat)} {E F T Z : List Nat} (h : goM u l) (s : sameR E F T Z u u') (h0 : 150 ∉ E) : goM u' l := by
  intro i Q hi
  rw [s.1 150 h0 (by decide)]
  exact h i Q hi
end RO
theorem q_round : Quest D_X11_round D_X12_round := by
  intro w c L P hs tx rl cd V kp cl si rw B m ok okr
  have hB := okB_of ok
  have n60 : (60 : Int32) = nI 60 := by decide +kernel
  have key : ∀ (k n fu : Nat) (Q : Nat → Nat) (l : List (Nat → Nat)), k + n = 61 → k < fu → l.length = n → okB c L (Q 14) Q → ∃ r rw', rw'.length ≤ 20 ∧ (∀ w', aC w w' c Q → shC w' l → ∃ w1, L_X11_round_31 J_X11_round_x59_1 J_X11_round_x78_2 J_X11_round_x106_3 fu (nI n) w' = some (r, w1) ∧ CR w1 c L P hs tx cd kp cl si rw' ∧ onC w w1) ∧ ∀ u u', MR u c L P hs tx rl kp cl si rw → aM u u' Q → goM u' l → ∃ u1, L_X12_round_31 J_X12_round_x48_3 J_X12_round_x85_4 J_X12_round_x110_5 fu (nI n) u' = some (r, u1) ∧ MR u1 c L P hs tx rl kp cl si rw' ∧ onM u u1 := by
    intro k
    induction k with
    | zero =>
      intro n fu Q l hn hf hl hQ
      obtain ⟨fu, rfl⟩ : ∃ n', fu = n' + 1 := ⟨fu - 1, by omega⟩
      refine ⟨-2, rw, okS_rw ok, fun w' h _ => ⟨w', ?_, CR_q0 m h.1⟩, fun u u' n' h _ => ⟨u', ?_, MR_q0 n' h.1⟩⟩
      · unfold L_X11_round_31
        rw [n60, if_pos (nI_lt (by omega) (by omega))]
        rfl
      · unfold L_X12_round_31
        rw [n60, if_pos (nI_lt (by omega) (by omega))]
        rfl
    | succ k ih =>
      intro n fu Q l hn hf hl hQ
      obtain ⟨fu, rfl⟩ : ∃ n', fu = n' + 1 := ⟨fu - 1, by omega⟩
      have h60 : ¬ (60 : Int32) < nI n := by
        rw [n60]
        exact nI_nlt (by omega) (by omega)
      by_cases ho : overS c Q = true
      · refine ⟨-2, rw, okS_rw ok, fun w' h _ => ?_, fun u u' n' h _ => ?_⟩
        · obtain ⟨w1, e1, a1⟩ := aC_play m okr hQ h
          obtain ⟨k1, k2⟩ := CR_q0 m a1.1
          refine ⟨w1, ?_, k1, k2⟩
          unfold L_X11_round_31
          rw [if_neg h60, e1, bc_eq, if_pos (by rw [if_pos ho])]
          rfl
        · obtain ⟨u1, g1, a1⟩ := aM_go n' okr hQ h
          obtain ⟨k1, k2⟩ := MR_q0 n' a1.1
          refine ⟨u1, ?_, k1, k2⟩
          unfold L_X12_round_31
          rw [if_neg h60, g1, bc_eq, if_pos (by rw [if_pos ho])]
          rfl
      · have hQ' := (rlS_ok (V := V) hQ).1
        have hok := okQ_of hQ'
        have hC1 : ∀ w', aC w w' c Q → shC w' l → ∃ w1, L_X11_round_31 J_X11_round_x59_1 J_X11_round_x78_2 J_X11_round_x106_3 (fu + 1) (nI n) w' = (if fdI (fdS l (rlS c L Q V) l.length 0) < 0 then (bv (D_X8_put 6 w1) fun w14 => bd (nI n + 1) fun x15 => L_X11_round_31 J_X11_round_x59_1 J_X11_round_x78_2 J_X11_round_x106_3 fu x15 w14) else J_X11_round_x78_2 (nI n) (fdI (fdS l (rlS c L Q V) l.length 0)) w1) ∧ aC w w1 c (rlS c L Q V) ∧ shC w1 l := by
          intro w' h hsh
          obtain ⟨w1, e1, a1, b1⟩ := aC_play2 m okr hQ h
          have sh1 := shC_keep hsh (b1.1 98 (by decide)) (b1.1 99 (by decide))
          refine ⟨w1, ?_, a1, sh1⟩
          generalize hR : L_X11_round_31 J_X11_round_x59_1 J_X11_round_x78_2 J_X11_round_x106_3 fu = R
          unfold L_X11_round_31
          rw [if_neg h60, e1, bc_eq, if_neg (by rw [if_neg ho]; decide), c_find a1.2 hok sh1 (by omega), bc_eq, hR]
        have hM1 : ∀ u u', MR u c L P hs tx rl kp cl si rw → aM u u' Q → goM u' l → ∃ u1, L_X12_round_31 J_X12_round_x48_3 J_X12_round_x85_4 J_X12_round_x110_5 (fu + 1) (nI n) u' = (match fdS l (rlS c L Q V) l.length 0 with | none => J_X12_round_x104_2 (L_X12_round_31 J_X12_round_x48_3 J_X12_round_x85_4 J_X12_round_x110_5 fu) (nI n) u1 | some j => J_X12_round_x85_1 J_X12_round_x85_4 (nI n) (nI j) u1) ∧ aM u u1 (rlS c L Q V) ∧ goM u1 (l ++ [rlS c L Q V]) := by
          intro u u' n' h hg
          obtain ⟨u1, g1, a1, s1⟩ := aM_go2 n' okr hQ h
          obtain ⟨u2, g2, z2, s2⟩ := m_layGone hok (goM_same hg s1 (by decide)) (by omega) a1.2.1
          have q2 : qM FM0 [] u1 u2 := qM_any (E := [150]) (F := FM0) (T := []) (Z := []) (sameR_sub s2 (fun _ z => z) (by simp) (by simp) (by simp)) (by decide) (by decide) (by simp)
          refine ⟨u2, ?_, ⟨qM_tr a1.1 q2, isM_same a1.2 s2 (by decide) (by decide)⟩, z2⟩
          have gl := m_goneLoop (k14 := J_X12_round_x85_1 J_X12_round_x85_4 (nI n)) (k15 := J_X12_round_x104_2 (L_X12_round_31 J_X12_round_x48_3 J_X12_round_x85_4 J_X12_round_x110_5 fu) (nI n)) z2 (by omega) l.length 0 FU (by omega) (by unfold FU; omega)
          rw [nI_0, hl] at gl
          rw [hl] at g2 ⊢
          generalize hR : L_X12_round_31 J_X12_round_x48_3 J_X12_round_x85_4 J_X12_round_x110_5 fu = R at gl ⊢
          unfold L_X12_round_31
          rw [if_neg h60, g1, bc_eq, if_neg (by rw [if_neg ho]; decide), n16, pk_mul, g2, bv_eq, hR]
          exact gl
        cases hfd : fdS l (rlS c L Q V) l.length 0 with
        | some j =>
          have hj := fdS_lt _ _ _ hfd
          rw [hfd] at hC1 hM1
          refine ⟨nI n, [(nI j).toInt64], by simp, fun w' h hsh => ?_, fun u u' n' h hg => ?_⟩
          · obtain ⟨w1, e1, a1, -⟩ := hC1 w' h hsh
            obtain ⟨w2, t1, t2, t3⟩ := d_tell1 w1 (nI j).toInt64
            obtain ⟨k1, k2⟩ := CR_q m (qC_tr (qC_up a1.1) (qC_hi t3 (by decide) (by decide) (by decide))) t2
            refine ⟨w2, ?_, k1, k2⟩
            rw [e1, show fdI (some j) = nI j from rfl, if_neg (nI_pos (by omega))]
            unfold J_X11_round_x78_2
            rw [t1, bv_eq]
          · obtain ⟨u1, e1, a1, -⟩ := hM1 u u' n' h hg
            obtain ⟨u2, g2, r2, s2⟩ := d_tellM (row0M u1) (by decide) (nI j).toInt64
            obtain ⟨k1, k2⟩ := MR_q n' (qM_tr (qM_up a1.1) (qM_tr (qM_f (k := 6) (v := 0) (by decide)) (qM_tell s2))) r2
            refine ⟨u2, ?_, k1, k2⟩
            rw [e1]
            simp only
            unfold J_X12_round_x85_1 J_X12_round_x85_4
            rw [bd_eq, g2, bv_eq]
        | none =>
          rw [hfd] at hC1 hM1
          obtain ⟨r, rw', hr, hC, hM⟩ := ih (n + 1) fu (rlS c L Q V) (l ++ [rlS c L Q V]) (by omega) (by omega) (by simp [hl]) hQ'
          refine ⟨r, rw', hr, fun w' h hsh => ?_, fun u u' n' h hg => ?_⟩
          · obtain ⟨w1, e1, a1, sh1⟩ := hC1 w' h hsh
            obtain ⟨w2, e2, sh2, b2⟩ := c_put a1.2 hok sh1 (by omega) (by decide)
            have q2 : qC EC0 [] w1 w2 := qC_hi (E' := [98, 99]) (T' := []) (same_but b2) (by decide) (by decide) (by simp)
            obtain ⟨w3, e3, k3⟩ := hC w2 ⟨qC_tr a1.1 q2, at_but b2 (by decide) (by decide) (by decide) a1.2⟩ sh2
            refine ⟨w3, ?_, k3⟩
            rw [e1, if_pos (by decide), e2, bv_eq, bd_eq, nI_1, e3]
          · obtain ⟨u1, e1, a1, g1⟩ := hM1 u u' n' h hg
            obtain ⟨u2, e2, k2⟩ := hM u u1 n' a1 g1
            refine ⟨u2, ?_, k2⟩
            rw [e1]
            simp only
            unfold J_X12_round_x104_2
            rw [bd_eq, nI_1, e2]
  obtain ⟨r, rw', hr, hC, hM⟩ := key 60 1 FU P [P] rfl (by unfold FU; omega) rfl hB
  refine ⟨r, rw', hr, ?_, fun u n => ?_⟩
  · have hq0 : qC EC0 [] w (wI w 98 1 0) := qC_wI (by decide) (by decide)
    have a0 : isAt (wI w 98 1 0) 0 c P := isAt_wI (by decide) m.1
    obtain ⟨w1, e1, sh1, b1⟩ := c_put (l := []) a0 (okQ_of hB) ⟨by rw [wI_at]; rfl, fun i Q h => by simp at h⟩ (by decide) (by decide)
    have q1 : qC EC0 [] (wI w 98 1 0) w1 := qC_hi (E' := [98, 99]) (T' := []) (same_but b1) (by decide) (by decide) (by simp)
    have q01 := qC_tr hq0 q1
    have at1 : isAt w1 0 c P := qC_now0 m.1 q01
    obtain ⟨c6, P6, z6⟩ := q01.2 m.2.2.1 6 (by decide)
    have b2 : but [6, 7, 8] w1 (pW w1 6 c P) := pW_but
    have sh2 : shC (pW w1 6 c P) [P] := shC_keep sh1 (b2.1 98 (by decide)) (b2.1 99 (by decide))
    obtain ⟨w3, e3, k3⟩ := hC (pW w1 6 c P) ⟨qC_tr q01 (qC_at (r := 6) (by decide) b2 (by decide) (by decide) ⟨_, _, pW_at _ _ _ _⟩), pW_at _ _ _ _⟩ sh2
    refine ⟨w3, ?_, k3⟩
    unfold D_X11_round D_X8_clear
    rw [bd_eq, bv_eq, e1, bv_eq, d_take (by decide) (by decide) (by decide) z6 at1, bv_eq, nI_1', e3]
  · obtain ⟨n', on'⟩ := MR_7 n
    obtain ⟨u1, g1, a1⟩ := aM_start n'
    obtain ⟨u2, g2, z2, s2⟩ := m_layGone (l := []) (okQ_of hB) (fun i Q h => by simp at h) (by decide) a1.2.1
    have q2 : qM FM0 [] u1 u2 := qM_any (E := [150]) (F := FM0) (T := []) (Z := []) (sameR_sub s2 (fun _ z => z) (by simp) (by simp) (by simp)) (by decide) (by decide) (by simp)
    obtain ⟨u3, g3, k3, k4⟩ := hM _ u2 n' ⟨qM_tr a1.1 q2, isM_same a1.2 s2 (by decide) (by decide)⟩ z2
    refine ⟨u3, ?_, k3, onM_tr on' k4⟩
    have g2' : D_X12_lay 129 150 0 u1 = some u2 := g2
    unfold D_X12_round
    rw [bd_eq, g1, bv_eq, g2', bv_eq, nI_1', g3]
