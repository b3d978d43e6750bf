/-! the reference's reading, sign by sign -/
def RW (w : Wd) (i : Nat) (e : Int32) : Wd := wI (wI w 119 11 (nI i)) 119 12 e
def rdH (w : Wd) (S : List Nat) : Prop := bq (w.2.2 0) = true ∧ 40 ≤ ln (w.2.2 0) ∧ ln (w.2.2 0) < 100 ∧ w.2.2 0 ≠ 119 ∧ w.1 119 9 = nI S.length ∧ w.1 119 10 = nI 40 ∧ S.length ≤ 80 ∧ ∀ i x, i < 40 → S[i]? = some x → x < 256 ∧ w.1 (w.2.2 0) i = (nI x).toInt8.toInt32
def hv (c : Nat) : Int32 := if c < 256 then nI c else -1
theorem byte255 : ∀ x, x < 256 → (nI x).toInt8.toInt32 &&& 255 = nI x := by decide +kernel
theorem byteD : ∀ x, x < 58 → 48 ≤ x → (nI x).toInt8.toInt32 - 48 = nI (x - 48) := by decide +kernel
theorem hv_eq {c k : Nat} {x : Int32} (hx : x = nI k) (hk : k < 256) : hv c = x ↔ c = k := by
  subst hx
  unfold hv
  by_cases h : c < 256
  · rw [if_pos h, nI_eq (by omega) (by omega)]
  · rw [if_neg h]
    have hm : ∀ k, k < 256 → (-1 : Int32) ≠ nI k := by decide +kernel
    exact ⟨fun z => absurd z (hm k hk), fun z => by omega⟩
section RD
variable {w : Wd} {S : List Nat} {i q : Nat} {e : Int32}
theorem RW_11 : (RW w i e).1 119 11 = nI i := by
  unfold RW
  rw [wI_at_ne (by decide), wI_at]
theorem RW_12 : (RW w i e).1 119 12 = e := wI_at
theorem RW_f {k : Nat} (h1 : k ≠ 11) (h2 : k ≠ 12) : (RW w i e).1 119 k = w.1 119 k := by
  unfold RW
  rw [wI_at_ne h2, wI_at_ne h1]
theorem RW_r {a : Nat} (h : a ≠ 119) : (RW w i e).1 a = w.1 a := by
  unfold RW
  rw [wI_wR (wI w 119 11 _), wR_ne h, wI_wR, wR_ne h]
theorem RW_z : (RW w i e).2 = w.2 := rfl
theorem RW_set11 {j : Nat} : wI (RW w i e) 119 11 (nI j) = RW w j e := by
  unfold RW
  rw [wI_wR, wI_wR (wI w 119 11 _), wI_wR w, wR_self, wR_self, wR_wR, wR_wR, wI_wR (wI w 119 11 _), wI_wR w, wR_self, wR_wR]
  congr 1
  funext k
  unfold upd
  by_cases h1 : k = 11
  · subst h1; simp
  · by_cases h2 : k = 12
    · subst h2; simp
    · simp [h1, h2]
theorem RW_set12 {x : Int32} : wI (RW w i e) 119 12 x = RW w i x := by
  unfold RW
  rw [wI_wR, wI_wR (wI w 119 11 _), wR_self, wR_wR, upd_upd, ← wI_wR]
theorem here_ok (H : rdH w S) (hi : i ≤ 40) : D_X12_here (RW w i e) = some (hv (ch S i), RW w i e) := by
  obtain ⟨h1, h2, h2', h3, h4, h5, h6, h7⟩ := H
  unfold D_X12_here
  rw [RW_11, RW_f (by decide) (by decide), RW_f (by decide) (by decide), h4, h5]
  by_cases hl : i < S.length
  · rw [if_neg (nI_ge hl (by omega))]
    by_cases h40 : i < 40
    · have e1 : S[i]? = some S[i] := List.getElem?_eq_getElem hl
      obtain ⟨b1, b2⟩ := h7 i _ h40 e1
      rw [if_neg (nI_ge h40 (by omega)), RW_z, if_pos h1, if_pos (ib_nI (by omega) (by omega)), nI_clamp (by omega), RW_r h3, b2, byte255 _ b1]
      unfold hv ch
      rw [if_pos h40, e1]
      simp only [Option.getD_some]
      rw [if_pos b1]
    · rw [if_pos (nI_le (by omega) (by omega))]
      unfold hv ch
      rw [if_neg h40, if_neg (by decide)]
  · rw [if_pos (nI_le (by omega) (by omega))]
    unfold hv ch
    rw [List.getElem?_eq_none (by omega)]
    by_cases h40 : i < 40
    · rw [if_pos h40, Option.getD_none, if_neg (by decide)]
    · rw [if_neg h40, if_neg (by decide)]
theorem fine_ok : D_X12_fine (RW w i (-1)) = some (1, RW w i (-1)) := by
  unfold D_X12_fine
  rw [RW_12, if_pos rfl]
theorem nI_nm {q : Nat} (hq : q ≤ 100) : nI q ≠ (-1 : Int32) := by
  have hm : ∀ k, k ≤ 100 → nI k ≠ (-1 : Int32) := by decide +kernel
  exact hm q hq
theorem fine_no (hq : q ≤ 100) : D_X12_fine (RW w i (nI q)) = some (0, RW w i (nI q)) := by
  unfold D_X12_fine
  rw [RW_12, if_neg (nI_nm hq)]
theorem fault_ok : D_X12_fault (nI q) (RW w i (-1)) = some (RW w i (nI q)) := by
  unfold D_X12_fault
  rw [fine_ok, bc_eq, if_neg (by decide), bd_eq, RW_set12]
theorem fault_no {x : Int32} (hq : q ≤ 100) : D_X12_fault x (RW w i (nI q)) = some (RW w i (nI q)) := by
  unfold D_X12_fault
  rw [fine_no hq, bc_eq, if_pos rfl]
theorem passes_ok (H : rdH w S) (hi : i ≤ 40) {k : Nat} {x : Int32} (hx : x = nI k) (hk : k < 256) : D_X12_passes x (RW w i (-1)) = if ch S i = k then some (1, RW w (i + 1) (-1)) else some (0, RW w i (-1)) := by
  unfold D_X12_passes
  rw [fine_ok, bc_eq, if_neg (by decide), here_ok H hi, bc_eq]
  by_cases h : ch S i = k
  · rw [if_pos ((hv_eq hx hk).mpr h), if_pos h, bd_eq, RW_11, nI_1, RW_set11]
  · rw [if_neg (fun z => h ((hv_eq hx hk).mp z)), if_neg h]
theorem passes_no {x : Int32} (hq : q ≤ 100) : D_X12_passes x (RW w i (nI q)) = some (0, RW w i (nI q)) := by
  unfold D_X12_passes
  rw [fine_no hq, bc_eq, if_pos rfl]
theorem ch_256 (H : rdH w S) : ch S i = 300 ∨ (ch S i < 256 ∧ i < 40 ∧ S[i]? = some (ch S i)) := by
  by_cases h : ch S i = 300
  · exact Or.inl h
  · obtain ⟨h1, h2⟩ := ch_at rfl h
    exact Or.inr ⟨(H.2.2.2.2.2.2.2 i _ h1 h2).1, h1, h2⟩
theorem in_dig (H : rdH w S) {u : Wd} : D_X12_in (hv (ch S i)) 48 57 u = some (if 48 ≤ ch S i ∧ ch S i ≤ 57 then 1 else 0, u) := by
  unfold D_X12_in
  rcases ch_256 (i := i) H with h | ⟨h, -⟩
  · rw [h, if_neg (by decide : ¬ (48 ≤ 300 ∧ 300 ≤ 57)), if_pos (by decide)]
  · have e1 : hv (ch S i) = nI (ch S i) := by unfold hv; rw [if_pos h]
    rw [e1, show (48 : Int32) = nI 48 from by decide +kernel, show (57 : Int32) = nI 57 from by decide +kernel]
    by_cases a : ch S i < 48
    · rw [if_pos (nI_lt a (by omega)), if_neg (by omega)]
    · rw [if_neg (nI_nlt (by omega) (by omega))]
      by_cases b : 57 < ch S i
      · rw [if_pos (nI_lt b (by omega)), if_neg (by omega)]
      · rw [if_neg (nI_nlt (by omega) (by omega)), if_pos (by omega)]
theorem oneOf_ok (H : rdH w S) {x : Nat} (hx : ch S i = x) (hd : 48 ≤ x ∧ x ≤ 57) : D_X12_oneOf 48 10 (RW w i (-1)) = some (nI (x - 48), RW w (i + 1) (-1)) := by
  obtain ⟨h40, hs⟩ := ch_at hx (by omega)
  obtain ⟨b1, b2⟩ := H.2.2.2.2.2.2.2 i _ h40 hs
  have e57 : (48 + 10 - 1 : Int32) = 57 := by decide +kernel
  unfold D_X12_oneOf
  rw [fine_ok, bc_eq, if_neg (by decide), here_ok H (by omega), bc_eq, e57, in_dig H, bc_eq, if_pos (show 48 ≤ ch S i ∧ ch S i ≤ 57 by rw [hx]; exact hd), if_neg (by decide), bd_eq, RW_11, nI_1, RW_set11, RW_z, if_pos H.1, RW_11, nI_pred, if_pos (ib_nI (by have := H.2.1; omega) (by have := H.2.2.1; omega)), nI_clamp (by omega), RW_r H.2.2.2.1, b2, byteD x (by omega) hd.1]
theorem letter_ok (h : ch S i < 256) {u : Wd} : D_X12_letterOf (hv (ch S i)) u = some (if lof (ch S i) = 7 then -1 else nI (lof (ch S i)), u) := by
  have e1 : hv (ch S i) = nI (ch S i) := by unfold hv; rw [if_pos h]
  have key : ∀ x, x < 256 → (if (nI x) = (116 : Int32) then (0 : Int32) else if (nI x) = (97 : Int32) then 1 else if (nI x) = (112 : Int32) then 2 else if (nI x) = (110 : Int32) then 3 else if (nI x) = (108 : Int32) then 4 else if (nI x) = (101 : Int32) then 5 else if (nI x) = (111 : Int32) then 6 else -1) = (if lof x = 7 then -1 else nI (lof x)) := by decide +kernel
  rw [e1, ← key _ h]
  unfold D_X12_letterOf
  split
  · rfl
  · split
    · rfl
    · split
      · rfl
      · split
        · rfl
        · split
          · rfl
          · split
            · rfl
            · split
              · rfl
              · rfl
theorem letter_no {u : Wd} (h : ch S i = 300) : D_X12_letterOf (hv (ch S i)) u = some (-1, u) := by
  rw [h]
  unfold D_X12_letterOf
  rfl
/-- a number's further digits -/
theorem number_loop (H : rdH w S) {dp : Nat} {cm : Nat → Bool} {W : List Nat} {O : List Int32} : ∀ (m c j v n : Nat), m + c = 3 → m < n → 1 ≤ c → v < 10 ^ c → cl S j = some (false, c, dp, cm, W, O ++ [nI v]) → ∃ v' j' c', L_X12_number_11 3 J_X12_number_x57_1 n (nI v) (nI c) (RW w j (-1)) = some (nI v', RW w j' (-1)) ∧ v' < 1000 ∧ j ≤ j' ∧ cl S j' = some (false, c', dp, cm, W, O ++ [nI v']) ∧ (48 ≤ ch S j' → ch S j' ≤ 57 → c' = 3) := by
  intro m
  induction m with
  | zero =>
    intro c j v n hc hn h1 hv' hcl
    obtain ⟨n, rfl⟩ : ∃ n', n = n' + 1 := ⟨n - 1, by omega⟩
    have : c = 3 := by omega
    subst this
    refine ⟨v, j, 3, ?_, by omega, Nat.le_refl _, hcl, fun _ _ => rfl⟩
    unfold L_X12_number_11
    rw [if_pos (by decide)]
    rfl
  | succ m ih =>
    intro c j v n hc hn h1 hv' hcl
    obtain ⟨n, rfl⟩ : ∃ n', n = n' + 1 := ⟨n - 1, by omega⟩
    have hj := (cl_le hcl).2
    unfold L_X12_number_11
    rw [if_neg (by rw [show (3 : Int32) = nI 3 from by decide +kernel]; exact nI_ge (by omega) (by omega)), fine_ok, bc_eq, if_neg (by decide), here_ok H hj, bc_eq, in_dig H, bc_eq]
    by_cases hd : 48 ≤ ch S j ∧ ch S j ≤ 57
    · rw [if_pos hd, if_neg (by decide), oneOf_ok H rfl hd, bc_eq, bd_eq, bd_eq, nI_1, show (10 : Int32) = nI 10 from by decide +kernel, pk_mul, nI_add]
      have hv2 : 10 * v + (ch S j - 48) < 10 ^ (c + 1) := by
        rw [Nat.pow_succ]
        omega
      have hcl' : cl S (j + 1) = some (false, c + 1, dp, cm, W, O ++ [nI (10 * v + (ch S j - 48))]) := by
        refine cl_step hcl rfl (by omega) ?_
        rw [acc_dig2 hd (by omega), addD_app, show nI v * 10 = nI (10 * v) from by rw [show (10 : Int32) = nI 10 from by decide +kernel, pk_mul, Nat.mul_comm], nI_add]
      obtain ⟨v', j', c', e1, e2, e3, e4, e5⟩ := ih (c + 1) (j + 1) _ n (by omega) (by omega) (by omega) hv2 hcl'
      exact ⟨v', j', c', e1, e2, by omega, e4, e5⟩
    · rw [if_neg hd, if_pos rfl]
      refine ⟨v, j, c, rfl, ?_, Nat.le_refl _, hcl, fun a b => absurd ⟨a, b⟩ hd⟩
      rcases (by omega : c = 1 ∨ c = 2) with h | h <;> subst h <;> omega
theorem number_ok (H : rdH w S) {dg dp : Nat} {cm : Nat → Bool} {W : List Nat} {O : List Int32} (hcl : cl S i = some (true, dg, dp, cm, W, O)) (hd : 48 ≤ ch S i ∧ ch S i ≤ 57) : ∃ v' j' c', D_X12_number 3 (RW w i (-1)) = some (nI v', RW w j' (-1)) ∧ v' < 1000 ∧ i < j' ∧ cl S j' = some (false, c', dp, cm, W, O ++ [nI v']) ∧ (48 ≤ ch S j' → ch S j' ≤ 57 → c' = 3) := by
  have hcl' : cl S (i + 1) = some (false, 1, dp, cm, W, O ++ [nI (ch S i - 48)]) := cl_step hcl rfl (by omega) (acc_dig hd)
  obtain ⟨v', j', c', e1, e2, e3, e4, e5⟩ := number_loop H 2 1 (i + 1) (ch S i - 48) FU (by omega) (by unfold FU; omega) (by omega) (by omega) hcl'
  refine ⟨v', j', c', ?_, e2, by omega, e4, e5⟩
  unfold D_X12_number
  rw [oneOf_ok H rfl hd, bc_eq, show (1 : Int32) = nI 1 from nI_1']
  exact e1
end RD
