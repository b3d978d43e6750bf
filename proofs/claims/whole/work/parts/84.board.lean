/-! THE TEXT is read as a board -/
def rdT (w : Wd) (T : Nat) (S : List Nat) : Prop := w.2.2 0 = 121 ∧ w.1 119 9 = nI S.length ∧ w.1 119 10 = nI T ∧ T ≤ 80 ∧ S.length ≤ 80 ∧ ∀ i x, S[i]? = some x → x < 256 ∧ w.1 121 i = (nI x).toInt8.toInt32
def cT (T : Nat) (S : List Nat) (i : Nat) : Nat := if i < T then S.getD i 300 else 300
theorem getD_lt {S : List Nat} {i : Nat} (h : i < S.length) : S[i]? = some (S.getD i 300) := by
  rw [List.getD_eq_getElem?_getD, List.getElem?_eq_getElem h]
  rfl
theorem getD_ge {S : List Nat} {i d : Nat} (h : S.length ≤ i) : S.getD i d = d := by
  rw [List.getD_eq_getElem?_getD, List.getElem?_eq_none h]
  rfl
section RT
variable {w u : Wd} {T : Nat} {S tx : List Nat} {i : Nat}
theorem rdT_same {E F Z : List Nat} {u' : Wd} (H : rdT u T S) (s : sameR E F [] Z u u') (h121 : 121 ∉ E) (h9 : 9 ∉ F) (h10 : 10 ∉ F) (hz : 0 ∉ Z) : rdT u' T S := by
  obtain ⟨h1, h2, h3, h4, h5, h6⟩ := H
  refine ⟨(s.2.2.2 0 hz).trans h1, (s.2.1 9 h9).trans h2, (s.2.1 10 h10).trans h3, h4, h5, ?_⟩
  rw [s.1 121 h121 (by decide)]
  exact h6
theorem cT_lt (H : rdT u T S) : cT T S i = 300 ∨ (cT T S i < 256 ∧ i < T ∧ i < S.length ∧ S[i]? = some (cT T S i)) := by
  unfold cT
  by_cases h1 : i < T
  · rw [if_pos h1]
    by_cases h2 : i < S.length
    · exact Or.inr ⟨(H.2.2.2.2.2 i _ (getD_lt h2)).1, h1, h2, getD_lt h2⟩
    · exact Or.inl (getD_ge (by omega))
  · rw [if_neg h1]
    exact Or.inl rfl
theorem here_T (H : rdT u T S) (ha : u.1 119 11 = nI i) (hi : i ≤ 80) : D_X12_here u = some (hv (cT T S i), u) := by
  obtain ⟨h1, h2, h3, h4, h5, h6⟩ := H
  unfold D_X12_here
  rw [h2, ha, h3, h1]
  by_cases c1 : S.length ≤ i
  · rw [if_pos (nI_le c1 (by omega))]
    unfold cT
    rw [getD_ge c1]
    simp [hv]
  · rw [if_neg (nI_ge (by omega) (by omega))]
    by_cases c2 : T ≤ i
    · rw [if_pos (nI_le c2 (by omega))]
      unfold cT
      rw [if_neg (by omega)]
      rfl
    · rw [if_neg (nI_ge (by omega) (by omega)), if_pos (by decide), show ln 121 = 80 from rfl, if_pos (ib_nI (by omega) (by decide)), nI_clamp (by omega)]
      obtain ⟨k1, k2⟩ := h6 i _ (getD_lt (by omega))
      rw [k2, byte255 _ k1]
      have e : cT T S i = S.getD i 300 := if_pos (by omega)
      rw [e]
      unfold hv
      rw [if_pos k1]
theorem fine_y {u : Wd} (h : u.1 119 12 = -1) : D_X12_fine u = some (1, u) := by
  unfold D_X12_fine
  rw [if_pos h]
theorem fine_n {u : Wd} {q : Nat} (h : u.1 119 12 = nI q) (hq : q ≤ 100) : D_X12_fine u = some (0, u) := by
  unfold D_X12_fine
  rw [if_neg (by rw [h]; exact nI_nm hq)]
theorem fault_y {u : Wd} {x : Int32} (h : u.1 119 12 = -1) : D_X12_fault x u = some (wI u 119 12 x) := by
  unfold D_X12_fault
  rw [fine_y h, bc_eq, if_neg (by decide), bd_eq]
theorem fault_n {u : Wd} {x : Int32} {q : Nat} (h : u.1 119 12 = nI q) (hq : q ≤ 100) : D_X12_fault x u = some u := by
  unfold D_X12_fault
  rw [fine_n h hq, bc_eq, if_pos rfl]
theorem byteL : ∀ x, x < 128 → (nI x).toInt8.toInt32 = nI x := by decide +kernel
theorem oneOf_T (H : rdT u T S) (ha : u.1 119 11 = nI i) (hf : u.1 119 12 = -1) (hi : i ≤ 80) {a m : Nat} (h48 : 48 ≤ a) (hm : 1 ≤ m) (h58 : a + m ≤ 58) : D_X12_oneOf (nI a) (nI m) u = if a ≤ cT T S i ∧ cT T S i < a + m then some (nI (cT T S i - a), wI u 119 11 (nI (i + 1))) else some (0, wI u 119 12 (nI i)) := by
  have hin : D_X12_in (hv (cT T S i)) (nI a) (nI a + nI m - 1) u = some (if a ≤ cT T S i ∧ cT T S i < a + m then 1 else 0, u) := by
    rw [nI_add, nI_m1 (by omega)]
    rcases cT_lt (i := i) H with h | ⟨h, -, -, -⟩
    · rw [h, if_neg (by omega), show hv 300 = (-1 : Int32) from rfl]
      unfold D_X12_in
      rw [if_pos (by rw [Int32.lt_iff_toInt_lt, nI_toInt (by omega)]; have : (-1 : Int32).toInt = -1 := (by decide); omega)]
    · rw [show hv (cT T S i) = nI (cT T S i) from if_pos h, d_in (by omega) (by omega) (by omega)]
      by_cases c1 : a ≤ cT T S i ∧ cT T S i < a + m
      · rw [if_pos c1, if_pos (by omega)]
      · rw [if_neg c1, if_neg (by omega)]
  unfold D_X12_oneOf
  rw [fine_y hf, bc_eq, if_neg (by decide), here_T H ha hi, bc_eq, hin, bc_eq]
  by_cases c1 : a ≤ cT T S i ∧ cT T S i < a + m
  · rw [if_pos c1, if_pos c1, if_neg (by decide), bd_eq, ha, nI_1, wI_at, nI_m1 (by omega), Nat.add_sub_cancel]
    have hz : (wI u 119 11 (nI (i + 1))).2.2 0 = 121 := H.1
    rcases cT_lt (i := i) H with h | ⟨h, h1, h2, h3⟩
    · omega
    · rw [hz, if_pos (by decide), show ln 121 = 80 from rfl, if_pos (ib_nI (by have := H.2.2.2.1; omega) (by decide)), nI_clamp (by omega), wI_r (by decide), (H.2.2.2.2.2 i _ h3).2, byteL _ (by omega), pk_sub c1.1]
  · rw [if_neg c1, if_neg c1, if_pos rfl, ha, fault_y hf, bv_eq]
theorem right_T (H : rdT u T S) (ha : u.1 119 11 = nI i) (hi : i ≤ 80) : (u.1 119 12 = -1 → S.length ≤ i → D_X12_wasRight u = some (1, u)) ∧ (u.1 119 12 = -1 → i < S.length → D_X12_wasRight u = some (0, wI u 119 12 (nI i))) ∧ ∀ q, q ≤ 100 → u.1 119 12 = nI q → D_X12_wasRight u = some (0, u) := by
  have h5 := H.2.2.2.2.1
  refine ⟨fun hf hl => ?_, fun hf hl => ?_, fun q hq hf => ?_⟩
  · unfold D_X12_wasRight
    rw [H.2.1, ha, if_pos (nI_le hl (by omega)), fine_y hf, bc_eq, if_pos (by decide)]
  · unfold D_X12_wasRight
    rw [H.2.1, ha, if_neg (nI_ge hl (by omega)), fault_y hf, bv_eq, fine_n (q := i) wI_at (by omega), bc_eq, if_pos (by decide)]
  · unfold D_X12_wasRight
    rw [H.2.1, ha, fault_n hf hq, bv_eq, fine_n hf hq, bc_eq, if_pos (show b01 0 = true by decide)]
    split <;> rfl
theorem begin_T {u : Wd} (h : textM u tx) (hl : tx.length ≤ 80) (hx : ∀ x ∈ tx, x < 256) (hT : T ≤ 80) : ∃ u1, D_X12_beginText (nI T) u = some u1 ∧ rdT u1 T tx ∧ u1.1 119 11 = nI 0 ∧ u1.1 119 12 = -1 ∧ textM u1 [] ∧ sameR [] [4, 9, 10, 11, 12] [] [0] u u1 := by
  refine ⟨wI (wI (wI (wI (wI (wZ u 0 121) 119 9 (nI tx.length)) 119 10 (nI T)) 119 11 0) 119 12 (-1)) 119 4 0, ?_, ⟨rfl, ?_, ?_, hT, hl, fun i x hi => ⟨hx x (List.mem_of_getElem? hi), ?_⟩⟩, ?_, ?_, ⟨?_, fun i x hi => by simp at hi⟩, ?_⟩
  · unfold D_X12_beginText D_X12_begin
    rw [bd_eq, bd_eq, bd_eq, bd_eq, bd_eq, bv_eq, bd_eq, h.1]
  · rw [wI_at_ne (by decide), wI_at_ne (by decide), wI_at_ne (by decide), wI_at_ne (by decide), wI_at]
  · rw [wI_at_ne (by decide), wI_at_ne (by decide), wI_at_ne (by decide), wI_at]
  · rw [wI_r (by decide), wI_r (by decide), wI_r (by decide), wI_r (by decide), wI_r (by decide)]
    exact h.2 i x hi
  · rw [wI_at_ne (by decide), wI_at_ne (by decide), wI_at, nI_0]
  · rw [wI_at_ne (by decide), wI_at]
  · rw [wI_at]; rfl
  · exact sameR_tr (sameR_tr (sameR_tr (sameR_tr (sameR_tr (sameR_z (by simp)) (sameR_f (by simp))) (sameR_f (by simp))) (sameR_f (by simp))) (sameR_f (by simp))) (sameR_f (by simp))
theorem c_at (h : textC w tx) (hl : tx.length ≤ 80) (hi : i < 2 ^ 30) : D_X9_at (nI i) w = some (nI (tx.getD i 0), w) := by
  unfold D_X9_at
  rw [if_neg (nI_pos (by omega)), h.1]
  by_cases c1 : tx.length ≤ i
  · rw [if_pos (nI_le c1 (by omega)), getD_ge c1, nI_0]
  · have hx : tx[i]? = some (tx.getD i 0) := by
      rw [List.getD_eq_getElem?_getD, List.getElem?_eq_getElem (by omega)]
      rfl
    rw [if_neg (nI_ge (by omega) (by omega)), if_pos (ib_nI (by omega) (by decide)), nI_clamp (by omega), h.2 i _ hx]
theorem c_digitAt (h : textC w tx) (hl : tx.length ≤ 80) (hx : ∀ x ∈ tx, x < 256) (hi : i < 2 ^ 30) : D_X9_digitAt (nI i) w = some (if 48 ≤ tx.getD i 300 ∧ tx.getD i 300 < 58 then nI (tx.getD i 300 - 48) else -1, w) := by
  unfold D_X9_digitAt
  rw [c_at h hl hi, bc_eq, show (48 : Int32) = nI 48 from by decide +kernel, show (57 : Int32) = nI 57 from by decide +kernel]
  by_cases c1 : tx.length ≤ i
  · rw [getD_ge c1, getD_ge c1, if_pos (by decide), if_neg (by omega)]
  · have e : tx.getD i 0 = tx.getD i 300 := by
      rw [List.getD_eq_getElem?_getD, List.getD_eq_getElem?_getD, List.getElem?_eq_getElem (by omega)]
      rfl
    have h256 : tx.getD i 300 < 256 := hx _ (List.mem_of_getElem? (getD_lt (by omega)))
    rw [e]
    by_cases d1 : tx.getD i 300 < 48
    · rw [if_pos (nI_lt d1 (by decide)), if_neg (by omega)]
    · rw [if_neg (nI_nlt (by omega) (by omega))]
      by_cases d2 : 57 < tx.getD i 300
      · rw [if_pos (nI_lt d2 (by omega)), if_neg (by omega)]
      · rw [if_neg (nI_nlt (by omega) (by decide)), if_pos (by omega), pk_sub (by omega)]
end RT
/-- the first of n signs from i on that is no digit -/
def bdW (tx : List Nat) : Nat → Nat → Option Nat
  | 0, _ => none
  | n + 1, i => if 48 ≤ tx.getD i 300 ∧ tx.getD i 300 < 58 then bdW tx n (i + 1) else some i
theorem bdW_some {tx : List Nat} : ∀ n i j, bdW tx n i = some j → i ≤ j ∧ j < i + n := by
  intro n
  induction n with
  | zero => intro i j h; cases h
  | succ n ih =>
    intro i j h
    unfold bdW at h
    split at h
    · have := ih _ _ h
      omega
    · cases h
      omega
theorem bdW_none {tx : List Nat} : ∀ n i, bdW tx n i = none → ∀ j, i ≤ j → j < i + n → 48 ≤ tx.getD j 300 ∧ tx.getD j 300 < 58 := by
  intro n
  induction n with
  | zero => intro i h j h1 h2; omega
  | succ n ih =>
    intro i h j h1 h2
    unfold bdW at h
    split at h
    · rename_i hd
      by_cases e : j = i
      · subst e; exact hd
      · exact ih _ h j (by omega) (by omega)
    · cases h
section BD
variable {w u : Wd} {tx : List Nat} {c : Nat}
theorem c_bdloop {k5 : Int32 → Wd → Option (Int32 × Wd)} {k6 : Wd → Option (Int32 × Wd)} (h : textC w tx) (hl : tx.length ≤ 80) (hx : ∀ x ∈ tx, x < 256) {W : Nat} (hW : W < 100) : ∀ (n i fu : Nat), n + i = W → n < fu → L_X11_wrongInBoard_30 (nI W) k5 k6 fu (nI i) w = match bdW tx n i with | none => k6 w | some j => k5 (nI j) w := by
  intro n
  induction n with
  | zero =>
    intro i fu hi hf
    obtain ⟨fu, rfl⟩ : ∃ n', fu = n' + 1 := ⟨fu - 1, by omega⟩
    unfold L_X11_wrongInBoard_30
    rw [if_pos (nI_le (by omega) (by omega))]
    rfl
  | succ n ih =>
    intro i fu hi hf
    obtain ⟨fu, rfl⟩ : ∃ n', fu = n' + 1 := ⟨fu - 1, by omega⟩
    unfold L_X11_wrongInBoard_30 bdW
    rw [if_neg (nI_ge (by omega) (by omega)), c_digitAt h hl hx (by omega), bc_eq]
    by_cases c1 : 48 ≤ tx.getD i 300 ∧ tx.getD i 300 < 58
    · rw [if_pos c1, if_pos c1, if_pos (nI_pos' (by omega)), bd_eq, nI_1]
      exact ih (i + 1) fu (by omega) (by omega)
    · rw [if_neg c1, if_neg c1, if_neg (by decide)]
/-- what board() makes of THE TEXT: the place of the wrong sign, or nothing -/
def bdS (tx : List Nat) : Option Nat := if 50 ≤ tx.getD 0 300 ∧ tx.getD 0 300 < 55 then (match bdW tx (2 * (tx.getD 0 300 - 48)) 1 with | some j => some j | none => if tx.length ≤ 1 + 2 * (tx.getD 0 300 - 48) then none else some (1 + 2 * (tx.getD 0 300 - 48))) else some 0
theorem bdS_le {tx : List Nat} {j : Nat} (h : bdS tx = some j) : j ≤ 13 := by
  unfold bdS at h
  split at h
  · rename_i h0
    cases hb : bdW tx (2 * (tx.getD 0 300 - 48)) 1 with
    | some i =>
      rw [hb] at h
      cases h
      have := bdW_some _ _ _ hb
      omega
    | none =>
      rw [hb] at h
      simp only at h
      split at h
      · cases h
      · cases h
        omega
  · cases h
    omega
theorem c_wrongB (h : textC w tx) (hl : tx.length ≤ 80) (hx : ∀ x ∈ tx, x < 256) : D_X11_wrongInBoard w = some ((match bdS tx with | none => -1 | some j => nI j), w) := by
  have h0 := c_digitAt (i := 0) h hl hx (by decide)
  rw [nI_0] at h0
  unfold D_X11_wrongInBoard bdS
  rw [h0, bc_eq]
  by_cases c1 : 48 ≤ tx.getD 0 300 ∧ tx.getD 0 300 < 58
  · rw [if_pos c1]
    by_cases c2 : tx.getD 0 300 < 50
    · rw [if_pos (by rw [nI_2']; exact nI_lt (by omega) (by decide)), if_neg (by omega)]
      exact congrArg (fun x => some (x, w)) nI_0.symm
    · rw [if_neg (by rw [nI_2']; exact nI_nlt (by omega) (by omega))]
      by_cases c3 : tx.getD 0 300 < 55
      · rw [if_pos (by rw [show (6 : Int32) = nI 6 from by decide +kernel]; exact nI_le (by omega) (by decide)), if_pos (by omega), bd_eq, nI_2', pk_mul, nI_1', nI_add, c_bdloop h hl hx (by omega) (2 * (tx.getD 0 300 - 48)) 1 FU (by omega) (by unfold FU; omega)]
        cases hb : bdW tx (2 * (tx.getD 0 300 - 48)) 1 with
        | some j => rfl
        | none =>
          show J_X11_wrongInBoard_x54_2 _ w = _
          unfold J_X11_wrongInBoard_x54_2
          rw [h.1]
          by_cases c4 : tx.length ≤ 1 + 2 * (tx.getD 0 300 - 48)
          · rw [if_pos (nI_le c4 (by omega))]
            simp only [if_pos c4]
            exact congrArg (fun x => some (x, w)) (by decide +kernel)
          · rw [if_neg (nI_ge (by omega) (by omega))]
            simp only [if_neg c4]
      · rw [if_neg (by rw [show (6 : Int32) = nI 6 from by decide +kernel]; exact nI_ge (by omega) (by omega)), if_neg (by omega)]
        exact congrArg (fun x => some (x, w)) nI_0.symm
  · rw [if_neg c1, if_pos (by decide), if_neg (by omega)]
    exact congrArg (fun x => some (x, w)) nI_0.symm
theorem m_bdloop {k : Wd → Option (Int32 × Wd)} (hc : c ≤ 6) : ∀ (n i fu : Nat) (u : Wd), n + i = 2 * c → n < fu → rdT u 13 tx → u.1 119 11 = nI (i + 1) → u.1 119 12 = -1 → (∀ j, j < i → u.1 123 j = nI (tx.getD (j + 1) 300 - 48)) → ∃ u1, L_X12_board_23 (nI c) k fu (nI i) u = k u1 ∧ sameR [123] [11, 12] [] [] u u1 ∧ (bdW tx n (i + 1) = none → u1.1 119 11 = nI (2 * c + 1) ∧ u1.1 119 12 = -1 ∧ ∀ j, j < 2 * c → u1.1 123 j = nI (tx.getD (j + 1) 300 - 48)) ∧ ∀ j, bdW tx n (i + 1) = some j → u1.1 119 11 = nI j ∧ u1.1 119 12 = nI j := by
  intro n
  induction n with
  | zero =>
    intro i fu u hi hf H ha hfi ht
    obtain ⟨fu, rfl⟩ : ∃ n', fu = n' + 1 := ⟨fu - 1, by omega⟩
    refine ⟨u, ?_, sameR_rf u, fun _ => ⟨by rw [ha, show i = 2 * c by omega], hfi, fun j hj => ht j (by omega)⟩, fun j hj => by cases hj⟩
    unfold L_X12_board_23
    rw [nI_2', pk_mul, if_pos (nI_le (by omega) (by omega))]
  | succ n ih =>
    intro i fu u hi hf H ha hfi ht
    obtain ⟨fu, rfl⟩ : ∃ n', fu = n' + 1 := ⟨fu - 1, by omega⟩
    have e13 : cT 13 tx (i + 1) = tx.getD (i + 1) 300 := if_pos (by omega)
    have ho := oneOf_T H ha hfi (by omega) (a := 48) (m := 10) (by decide) (by decide) (by decide)
    rw [e13] at ho
    have h48 : (48 : Int32) = nI 48 := by decide +kernel
    have h10 : (10 : Int32) = nI 10 := by decide +kernel
    by_cases c1 : 48 ≤ tx.getD (i + 1) 300 ∧ tx.getD (i + 1) 300 < 58
    · rw [if_pos c1] at ho
      have s1 : sameR [123] [11, 12] [] [] u (wI (wI u 119 11 (nI (i + 1 + 1))) 123 i (nI (tx.getD (i + 1) 300 - 48))) := sameR_tr (sameR_f (by simp)) (sameR_r (by simp) (by decide))
      obtain ⟨u1, g1, g2, g3, g4⟩ := ih (i + 1) fu _ (by omega) (by omega) (rdT_same H s1 (by decide) (by decide) (by decide) (by simp)) (by rw [wI_r (by decide), wI_at]) (by rw [wI_r (by decide), wI_at_ne (by decide)]; exact hfi) (fun j hj => by
        by_cases e : j = i
        · subst e
          exact wI_at
        · rw [wI_at_ne e, wI_r (by decide)]
          exact ht j (by omega))
      have e : bdW tx (n + 1) (i + 1) = bdW tx n (i + 1 + 1) := if_pos c1
      rw [e]
      refine ⟨u1, ?_, sameR_tr s1 g2, g3, g4⟩
      unfold L_X12_board_23
      rw [nI_2', pk_mul, if_neg (nI_ge (by omega) (by omega)), fine_y hfi, bc_eq, if_neg (by decide), h48, h10, ho, bc_eq, if_pos (ib_nI (by omega) (by decide)), bd_eq, bd_eq, nI_clamp (by omega), nI_1, g1]
    · rw [if_neg c1] at ho
      have s1 : sameR [123] [11, 12] [] [] u (wI (wI u 119 12 (nI (i + 1))) 123 i 0) := sameR_tr (sameR_f (by simp)) (sameR_r (by simp) (by decide))
      have f12 : (wI (wI u 119 12 (nI (i + 1))) 123 i 0).1 119 12 = nI (i + 1) := by rw [wI_r (by decide), wI_at]
      have e : bdW tx (n + 1) (i + 1) = some (i + 1) := if_neg c1
      rw [e]
      refine ⟨_, ?_, s1, fun h => (nomatch h), fun j hj => ?_⟩
      · obtain ⟨fu, rfl⟩ : ∃ n', fu = n' + 1 := ⟨fu - 1, by omega⟩
        unfold L_X12_board_23
        rw [nI_2', pk_mul, if_neg (nI_ge (by omega) (by omega)), fine_y hfi, bc_eq, if_neg (by decide), h48, h10, ho, bc_eq, if_pos (ib_nI (by omega) (by decide)), bd_eq, bd_eq, nI_clamp (by omega), nI_1]
        unfold L_X12_board_23
        rw [nI_2', pk_mul, fine_n f12 (by omega), bc_eq, if_pos rfl]
        split <;> rfl
      · cases hj
        exact ⟨by rw [wI_r (by decide), wI_at_ne (by decide)]; exact ha, f12⟩
end BD
