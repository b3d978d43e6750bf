/-! the reference remembers a position -/
theorem n16 : (16 : Int32) = nI 16 := by decide +kernel
theorem n176 : (176 : Int32) = nI 176 := by decide +kernel
theorem loop_shift {w : Wd} {a : Nat} {k : Wd → Option Wd} {F : Nat → Int32} : ∀ (m i n : Nat), i + m = 176 → m < n →
    L_X12_remember_11 a k n (nI i) (wR w 127 (fun j => if j < i then F (j + 16) else F j)) = k (wR w 127 (fun j => if j < 176 then F (j + 16) else F j)) := by
  intro m
  induction m with
  | zero =>
    intro i n hi hn
    obtain ⟨n, rfl⟩ : ∃ n', n = n' + 1 := ⟨n - 1, by omega⟩
    have : i = 176 := by omega
    subst this
    unfold L_X12_remember_11
    rw [n176, if_pos (nI_le (Nat.le_refl _) (by omega))]
  | succ m ih =>
    intro i n hi hn
    obtain ⟨n, rfl⟩ : ∃ n', n = n' + 1 := ⟨n - 1, by omega⟩
    unfold L_X12_remember_11
    rw [n176, if_neg (nI_ge (by omega) (by omega)), n16, nI_add, if_pos (ib_nI (by omega) (by omega)), if_pos (ib_nI (by omega) (by omega)), bd_eq, bd_eq, nI_clamp (by omega), nI_clamp (by omega), wI_wR, wR_self, wR_wR, nI_1]
    have e : upd (fun j => if j < i then F (j + 16) else F j) i ((fun j => if j < i then F (j + 16) else F j) (i + 16)) = (fun j => if j < i + 1 then F (j + 16) else F j) := by
      funext j
      unfold upd
      show (if j = i then (if i + 16 < i then F (i + 16 + 16) else F (i + 16)) else (if j < i then F (j + 16) else F j)) = _
      by_cases h : j = i
      · subst h
        rw [if_pos rfl, if_neg (by omega), if_pos (by omega)]
      · rw [if_neg h]
        by_cases h2 : j < i
        · rw [if_pos h2, if_pos (by omega)]
        · rw [if_neg h2, if_neg (by omega)]
    rw [e]
    exact ih (i + 1) n (by omega) (by omega)
theorem m_keepOne {w : Wd} {a h : Nat} (ha : a ≠ 127) (ha2 : a ≠ 119) (hla : ln a = 16) (hh : w.1 119 23 = nI h) (hl : h < 12) :
    J_X12_remember_j49_2 a w = some (wI (wR w 127 (fun j => if 16 * h ≤ j ∧ j < 16 * h + 16 then w.1 a (j - 16 * h) else w.1 127 j)) 119 23 (nI (h + 1))) := by
  unfold J_X12_remember_j49_2
  have l127 : ln 127 = 192 := rfl
  rw [hh, n16, pk_mul, d_layG ha (by omega) (by omega) (by omega) (by omega), bv_eq, bd_eq, wR_ne (show (119 : Nat) ≠ 127 by decide), hh, nI_1]
theorem m_remember {w : Wd} {a : Nat} {P : Nat → Nat} {hs : List (Nat → Nat)} (ha : a ≠ 127) (ha2 : a ≠ 119) (hla : ln a = 16) (hP : w.1 a = eP P) (hh : histM w hs) (hl : hs.length ≤ 12) :
    ∃ w1, D_X12_remember a w = some w1 ∧ histM w1 (pushS hs P) ∧ (∀ b, b ≠ 127 → b ≠ 119 → w1.1 b = w.1 b) ∧ (∀ k, k ≠ 23 → w1.1 119 k = w.1 119 k) ∧ w1.2 = w.2 := by
  obtain ⟨h1, h2⟩ := hh
  unfold D_X12_remember
  rw [bd_eq, h1]
  simp only [nI_is n12 (show hs.length < 2 ^ 31 by omega) (show 12 < 2 ^ 31 by omega)]
  by_cases hlen : hs.length = 12
  · rw [if_pos hlen]
    have e := loop_shift (w := w) (a := a) (k := J_X12_remember_x39_1 (J_X12_remember_j49_2 a)) (F := w.1 127) 176 0 FU (by omega) (by unfold FU; omega)
    have e0 : (fun j => if j < 0 then w.1 127 (j + 16) else w.1 127 j) = w.1 127 := by
      funext j
      rw [if_neg (by omega)]
    rw [e0, wR_id, nI_0] at e
    rw [e]
    unfold J_X12_remember_x39_1
    rw [bd_eq, wR_ne (show (119 : Nat) ≠ 127 by decide), h1, hlen, nI_1', pk_sub (by omega)]
    have hk := m_keepOne (w := wI (wR w 127 (fun j => if j < 176 then w.1 127 (j + 16) else w.1 127 j)) 119 23 (nI (12 - 1))) (a := a) (h := 11) ha ha2 hla wI_at (by omega)
    refine ⟨_, hk, ⟨?_, fun i Q hi k hk16 => ?_⟩, fun b hb hb2 => ?_, fun k hk => ?_, rfl⟩
    · rw [wI_at]
      unfold pushS
      rw [if_neg (by omega)]
      simp [hlen]
    · rw [wI_wR, wR_ne (show (127 : Nat) ≠ 119 by decide), wR_self]
      show (if 16 * 11 ≤ 16 * i + k ∧ 16 * i + k < 16 * 11 + 16 then _ else _) = nI (Q k)
      unfold pushS at hi
      rw [if_neg (by omega)] at hi
      have ht : hs.tail.length = 11 := by simp [hlen]
      have hb : i < (hs.tail ++ [P]).length := (List.getElem?_eq_some_iff.mp hi).1
      rw [List.length_append, ht, show [P].length = 1 from rfl] at hb
      by_cases hi2 : i < 11
      · rw [if_neg (by omega), wI_wR, wR_ne (show (127 : Nat) ≠ 119 by decide), wR_self]
        show (if 16 * i + k < 176 then _ else _) = _
        rw [if_pos (by omega)]
        rw [List.getElem?_append_left (by omega), List.getElem?_tail] at hi
        have := h2 (i + 1) Q hi k hk16
        rw [show 16 * i + k + 16 = 16 * (i + 1) + k by omega]
        exact this
      · have hi3 : i = 11 := by omega
        subst hi3
        rw [List.getElem?_append_right (by omega), ht, Nat.sub_self] at hi
        cases hi
        rw [if_pos (by omega), show 16 * 11 + k - 16 * 11 = k by omega, wI_wR, wR_ne ha2, wR_ne ha, hP]
        rfl
    · rw [wI_wR, wR_ne hb2, wR_ne hb, wI_wR, wR_ne hb2, wR_ne hb]
    · rw [wI_at_ne hk, wR_ne (show (119 : Nat) ≠ 127 by decide), wI_at_ne hk, wR_ne (show (119 : Nat) ≠ 127 by decide)]
  · rw [if_neg hlen]
    have hk := m_keepOne (w := w) (a := a) (h := hs.length) ha ha2 hla h1 (by omega)
    refine ⟨_, hk, ⟨?_, fun i Q hi k hk16 => ?_⟩, fun b hb hb2 => ?_, fun k hk => ?_, rfl⟩
    · rw [wI_at]
      unfold pushS
      rw [if_pos (by omega)]
      simp
    · rw [wI_wR, wR_ne (show (127 : Nat) ≠ 119 by decide), wR_self]
      show (if 16 * hs.length ≤ 16 * i + k ∧ 16 * i + k < 16 * hs.length + 16 then _ else _) = nI (Q k)
      unfold pushS at hi
      rw [if_pos (by omega)] at hi
      have hb : i < (hs ++ [P]).length := (List.getElem?_eq_some_iff.mp hi).1
      rw [List.length_append, show [P].length = 1 from rfl] at hb
      by_cases hi2 : i < hs.length
      · rw [if_neg (by omega)]
        rw [List.getElem?_append_left hi2] at hi
        exact h2 i Q hi k hk16
      · have hi3 : i = hs.length := by omega
        subst hi3
        rw [List.getElem?_append_right (Nat.le_refl _), Nat.sub_self] at hi
        cases hi
        rw [if_pos (by omega), show 16 * hs.length + k - 16 * hs.length = k by omega, hP]
        rfl
    · rw [wI_wR, wR_ne hb2, wR_ne hb]
    · rw [wI_at_ne hk, wR_ne (show (119 : Nat) ≠ 127 by decide)]
