/-! pit, store, row of the reference: what they answer, and whether they are lost -/
section TH
variable {u : Wd} {c L : Nat} {P : Nat → Nat} {hs : List (Nat → Nat)} {tx rl : List Nat} {kp : Nat → Option (Nat → Nat)} {cl si : List (Int32 × Int32)} {rw : List Int64}
theorem m_lostMR {k : Nat} {v : Int32} (n : MR u c L P hs tx rl kp cl si rw) : MR (wI (wI u 119 7 0) 119 7 v) c L P hs tx rl kp cl si rw ∧ onM u (wI (wI u 119 7 0) 119 7 v) := by
  obtain ⟨n1, o1⟩ := MR_7 n
  obtain ⟨n2, o2⟩ := MR_q0 n1 (qM_f (k := 7) (v := v) (by decide))
  exact ⟨n2, onM_tr o1 o2⟩
theorem m_lost (u : Wd) : ∃ r, D_X12_lost u = some (r, wI u 119 7 1) := ⟨_, rfl⟩
theorem m_pit (n : MR u c L P hs tx rl kp cl si rw) (hc2 : 2 ≤ c) (h6 : c ≤ 6) : (∀ x : Int32, (x < 0 ∨ nI (2 * c) ≤ x) → ∃ r, D_X12_pit x u = some (r, wI (wI u 119 7 0) 119 7 1)) ∧ ∀ i, i < 2 * c → D_X12_pit (nI i) u = some (nI (P i), wI u 119 7 0) := by
  refine ⟨fun x hx => ?_, fun i hi => ?_⟩
  · obtain ⟨r, hr⟩ := m_lost (wI u 119 7 0)
    refine ⟨r, ?_⟩
    unfold D_X12_pit
    rw [bd_eq, d_pits12 (MR_7 n).1.1, bc_eq, d_in0_no (by omega) (by omega) hx, bc_eq, if_pos rfl, hr, bc_eq]
  · unfold D_X12_pit
    rw [bd_eq, d_pits12 (MR_7 n).1.1, bc_eq, d_in0 hi (by omega), bc_eq, if_neg (by decide), if_pos (ib_nI (by omega) (by decide)), nI_clamp (by omega), (MR_7 n).1.2.2.1.1, eP_at]
theorem m_store (n : MR u c L P hs tx rl kp cl si rw) : (∀ x : Int32, (x < nI 0 ∨ nI 1 < x) → ∃ r, D_X12_store x u = some (r, wI (wI u 119 7 0) 119 7 1)) ∧ ∀ i, i ≤ 1 → D_X12_store (nI i) u = some (nI (P (12 + i)), wI u 119 7 0) := by
  refine ⟨fun x hx => ?_, fun i hi => ?_⟩
  · obtain ⟨r, hr⟩ := m_lost (wI u 119 7 0)
    refine ⟨r, ?_⟩
    unfold D_X12_store
    rw [bd_eq, nI_1', in_no0 (by decide) hx, bc_eq, if_pos rfl, hr, bc_eq, ← nI_1']
  · unfold D_X12_store
    rw [bd_eq, nI_1', in_yes0 hi (by decide), bc_eq, if_neg (by decide), n12, nI_add, if_pos (ib_nI (by omega) (by decide)), nI_clamp (by omega), (MR_7 n).1.2.2.1.1, eP_at]
theorem m_rowAt (n : MR u c L P hs tx rl kp cl si rw) (hl : rw.length ≤ 20) : (∀ x : Int32, (x < 0 ∨ nI rw.length ≤ x) → ∃ r, D_X12_row x u = some (r, wI (wI u 119 7 0) 119 7 1)) ∧ ∀ i v, rw[i]? = some v → D_X12_row (nI i) u = some (v, wI u 119 7 0) := by
  have hr6 := (MR_7 n).1.2.2.2.2.2.1
  refine ⟨fun x hx => ?_, fun i v hv => ?_⟩
  · obtain ⟨r, hr⟩ := m_lost (wI u 119 7 0)
    refine ⟨r.toInt64, ?_⟩
    have hin : D_X12_in x 0 (nI rw.length - 1) (wI u 119 7 0) = some (0, wI u 119 7 0) := by
      by_cases h0 : rw.length = 0
      · unfold D_X12_in
        by_cases hx0 : x < 0
        · rw [if_pos hx0]
        · rw [if_neg hx0, h0, if_pos]
          rw [Int32.lt_iff_toInt_lt]
          rw [Int32.not_lt, Int32.le_iff_toInt_le] at hx0
          have e1 : (nI 0 - 1 : Int32).toInt = -1 := by decide +kernel
          have e2 : (0 : Int32).toInt = 0 := by decide
          omega
      · exact d_in0_no (by omega) (by omega) hx
    unfold D_X12_row
    rw [bd_eq, hr6.1, hin, bc_eq, if_pos rfl, hr, bc_eq]
  · have hi : i < rw.length := (List.getElem?_eq_some_iff.mp hv).1
    unfold D_X12_row
    rw [bd_eq, hr6.1, d_in0 hi (by omega), bc_eq, if_neg (by decide), if_pos (ib_nI (by omega) (by decide)), nI_clamp (by omega), hr6.2 i v hv]
end TH
