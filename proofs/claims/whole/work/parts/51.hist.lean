/-! what can be undone: both sides remember a position, the class brings one back -/
def pushS (hs : List (Nat → Nat)) (P : Nat → Nat) : List (Nat → Nat) := if hs.length < 12 then hs ++ [P] else hs.tail ++ [P]
theorem pushS_len {hs : List (Nat → Nat)} {P : Nat → Nat} (h : hs.length ≤ 12) : (pushS hs P).length ≤ 12 ∧ 0 < (pushS hs P).length := by
  unfold pushS
  split
  · simp; omega
  · simp; omega
theorem pW_but {w : Wd} {q c : Nat} {P : Nat → Nat} : but [q, q + 1, q + 2] w (pW w q c P) := by
  refine ⟨fun a ha => ?_, rfl⟩
  simp only [List.mem_cons, List.not_mem_nil, or_false, not_or] at ha
  exact pW_ne ha.1 ha.2.1 ha.2.2
theorem isAt_wI {w : Wd} {q c i k : Nat} {P : Nat → Nat} {v : Int32} (hi : q + 2 < i) (h : isAt w q c P) : isAt (wI w i k v) q c P := by
  unfold isAt
  rw [wI_wR, wR_ne (by omega), wR_ne (by omega), wR_ne (by omega)]
  exact h
theorem isAt_pW {w : Wd} {q r c c' : Nat} {P Q : Nat → Nat} (hq : isPos q) (hr : isPos r) (hne : q ≠ r) (h : isAt w q c P) : isAt (pW w r c' Q) q c P := by
  have h1 := hq.2
  have h2 := hr.2
  unfold isAt
  rw [pW_ne (by omega) (by omega) (by omega), pW_ne (by omega) (by omega) (by omega), pW_ne (by omega) (by omega) (by omega)]
  exact h
theorem imin12 : ∀ n, n ≤ 12 → imin (nI n + 1) 12 = nI (if n < 12 then n + 1 else 12) := by decide +kernel
theorem c_pushR {w : Wd} {c r : Nat} {P : Nat → Nat} {hs : List (Nat → Nat)} (hr : isPos r) (hr15 : r < 15) (h0 : isAt w r c P) (hp : posC w) (hh : histC w c hs) :
    ∃ w1 q1, isPos q1 ∧ 15 ≤ q1 ∧ q1 < 51 ∧ D_X0_push r w = some w1 ∧ histC w1 c (pushS hs P) ∧ posC w1 ∧ but [q1, q1 + 1, q1 + 2, 78] w w1 := by
  obtain ⟨nx, n1, n2, n3, n4, n5⟩ := hh
  have hq1 : isPos (15 + 3 * nx) := ⟨by omega, by omega⟩
  obtain ⟨c', P', hat⟩ := hp _ hq1
  have e := d_take (w := w) (q := 15 + 3 * nx) (r := r) hq1.2 hr.2 (by omega) hat h0
  have e78 : (pW w (15 + 3 * nx) c P).1 78 = w.1 78 := pW_ne (by omega) (by omega) (by omega)
  have hj : ∀ x : Nat, x = (nx + 1) % 12 → J_X0_push_j35_1 (nI x) (pW w (15 + 3 * nx) c P) = some (wI (wI (pW w (15 + 3 * nx) c P) 78 1 (nI ((nx + 1) % 12))) 78 2 (nI (if hs.length < 12 then hs.length + 1 else 12))) := by
    intro x hx
    subst hx
    unfold J_X0_push_j35_1
    rw [bd_eq, bd_eq, wI_at_ne (by decide), e78, n4, imin12 _ n2]
  refine ⟨wI (wI (pW w (15 + 3 * nx) c P) 78 1 (nI ((nx + 1) % 12))) 78 2 (nI (if hs.length < 12 then hs.length + 1 else 12)), 15 + 3 * nx, hq1, by omega, by omega, ?_, ?_, ?_, ?_⟩
  · unfold D_X0_push
    rw [n3, if_pos (ib_nI n1 (by omega)), bd_eq, nI_clamp (by omega), e, bv_eq, bd_eq, e78, n3, nI_1, show (12 : Int32) = nI 12 from n12]
    simp only [nI_leI (show 12 < 2 ^ 31 by omega) (show nx + 1 < 2 ^ 31 by omega)]
    by_cases h12 : 12 ≤ nx + 1
    · rw [if_pos h12, nI_0']
      exact hj 0 (by omega)
    · rw [if_neg h12]
      exact hj (nx + 1) (by omega)
  · have hat' : ∀ q Q, isPos q → isAt (pW w (15 + 3 * nx) c P) q c Q → isAt (wI (wI (pW w (15 + 3 * nx) c P) 78 1 (nI ((nx + 1) % 12))) 78 2 (nI (if hs.length < 12 then hs.length + 1 else 12))) q c Q := by
      intro q Q hq z
      have := hq.1
      exact isAt_wI (by omega) (isAt_wI (by omega) z)
    refine ⟨(nx + 1) % 12, Nat.mod_lt _ (by decide), (pushS_len n2).1, ?_, ?_, ?_⟩
    · rw [wI_at_ne (by decide), wI_at]
    · rw [wI_at]
      unfold pushS
      split
      · simp
      · have : hs.length = 12 := by omega
        simp [this]
    · intro i Q hi
      have hpos : ∀ k : Nat, isPos (15 + 3 * (k % 12)) := fun k => by
        have := Nat.mod_lt k (show 12 > 0 by decide)
        exact ⟨by omega, by omega⟩
      refine hat' _ Q (hpos _) ?_
      unfold pushS at hi ⊢
      by_cases hl : hs.length < 12
      · rw [if_pos hl] at hi ⊢
        rw [List.length_append, show [P].length = 1 from rfl]
        by_cases hi2 : i < hs.length
        · rw [List.getElem?_append_left hi2] at hi
          have es : ((nx + 1) % 12 + 12 - (hs.length + 1) + i) % 12 = (nx + 12 - hs.length + i) % 12 := by omega
          rw [es]
          exact isAt_pW (hpos _) hq1 (by omega) (n5 i Q hi)
        · have hb : i < (hs ++ [P]).length := (List.getElem?_eq_some_iff.mp hi).1
          rw [List.length_append, show [P].length = 1 from rfl] at hb
          have hi3 : i = hs.length := by omega
          subst hi3
          rw [List.getElem?_append_right (Nat.le_refl _), Nat.sub_self] at hi
          cases hi
          have es : ((nx + 1) % 12 + 12 - (hs.length + 1) + hs.length) % 12 = nx := by omega
          rw [es]
          exact pW_at _ _ _ _
      · have hl12 : hs.length = 12 := by omega
        rw [if_neg hl] at hi ⊢
        have hlt : (hs.tail ++ [P]).length = 12 := by simp [hl12]
        rw [hlt]
        by_cases hi2 : i < 11
        · rw [List.getElem?_append_left (by simp [hl12]; exact hi2), List.getElem?_tail] at hi
          have es : ((nx + 1) % 12 + 12 - 12 + i) % 12 = (nx + 12 - hs.length + (i + 1)) % 12 := by omega
          rw [es]
          exact isAt_pW (hpos _) hq1 (by omega) (n5 (i + 1) Q hi)
        · have hb : i < (hs.tail ++ [P]).length := (List.getElem?_eq_some_iff.mp hi).1
          have hi3 : i = 11 := by omega
          subst hi3
          have h11 : hs.tail.length = 11 := by simp [hl12]
          rw [List.getElem?_append_right (by omega), h11, Nat.sub_self] at hi
          cases hi
          have es : ((nx + 1) % 12 + 12 - 12 + 11) % 12 = nx := by omega
          rw [es]
          exact pW_at _ _ _ _
  · intro q hq
    have hq' := hq.1
    by_cases hqe : q = 15 + 3 * nx
    · subst hqe
      exact ⟨c, P, isAt_wI (by omega) (isAt_wI (by omega) (pW_at _ _ _ _))⟩
    · obtain ⟨c2, P2, z⟩ := hp q hq
      exact ⟨c2, P2, isAt_wI (by omega) (isAt_wI (by omega) (isAt_pW hq hq1 hqe z))⟩
  · have b1 : but [15 + 3 * nx, 15 + 3 * nx + 1, 15 + 3 * nx + 2, 78] w (pW w (15 + 3 * nx) c P) := by
      refine ⟨fun a ha => pW_but.1 a (fun z => ha ?_), rfl⟩
      simp only [List.mem_cons, List.not_mem_nil, or_false] at z ⊢
      rcases z with z | z | z
      · exact Or.inl z
      · exact Or.inr (Or.inl z)
      · exact Or.inr (Or.inr (Or.inl z))
    exact but_tr (but_tr b1 (but_wI (by simp))) (but_wI (by simp))
theorem c_push {w : Wd} {c : Nat} {P : Nat → Nat} {hs : List (Nat → Nat)} (h0 : isAt w 0 c P) (hp : posC w) (hh : histC w c hs) :
    ∃ w1 q1, isPos q1 ∧ 15 ≤ q1 ∧ q1 < 51 ∧ D_X0_push 0 w = some w1 ∧ histC w1 c (pushS hs P) ∧ posC w1 ∧ but [q1, q1 + 1, q1 + 2, 78] w w1 := c_pushR (by decide) (by decide) h0 hp hh
