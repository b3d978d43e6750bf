/-! the ROW, on both sides -/
/-- w' is w but for the rows of numbers in S, the rows of longs in T -/
def same (S T : List Nat) (w w' : Wd) : Prop := (∀ a, a ∉ S → w'.1 a = w.1 a) ∧ (∀ a, a ∉ T → w'.2.1 a = w.2.1 a) ∧ w'.2.2 = w.2.2
theorem same_rf {S T : List Nat} (w : Wd) : same S T w w := ⟨fun _ _ => rfl, fun _ _ => rfl, rfl⟩
theorem same_tr {S T : List Nat} {w w1 w2 : Wd} (h1 : same S T w w1) (h2 : same S T w1 w2) : same S T w w2 :=
  ⟨fun a ha => (h2.1 a ha).trans (h1.1 a ha), fun a ha => (h2.2.1 a ha).trans (h1.2.1 a ha), h2.2.2.trans h1.2.2⟩
theorem same_up {S T S' T' : List Nat} {w w1 : Wd} (h : same S T w w1) (hS : ∀ a, a ∈ S → a ∈ S') (hT : ∀ a, a ∈ T → a ∈ T') : same S' T' w w1 :=
  ⟨fun a ha => h.1 a (fun z => ha (hS a z)), fun a ha => h.2.1 a (fun z => ha (hT a z)), h.2.2⟩
theorem same_wI {S T : List Nat} {w : Wd} {i k : Nat} {v : Int32} (hi : i ∈ S) : same S T w (wI w i k v) := by
  refine ⟨fun a ha => ?_, fun _ _ => rfl, rfl⟩
  have : a ≠ i := fun e => ha (e ▸ hi)
  rw [wI_wR, wR_ne this]
theorem same_wJ {S T : List Nat} {w : Wd} {i k : Nat} {v : Int64} (hi : i ∈ T) : same S T w (wJ w i k v) := by
  refine ⟨fun _ _ => rfl, fun a ha => ?_, rfl⟩
  have : a ≠ i := fun e => ha (e ▸ hi)
  funext b
  simp [wJ, this]
theorem wI_at {w : Wd} {i k : Nat} {v : Int32} : (wI w i k v).1 i k = v := by simp [wI]
theorem wI_at_ne {w : Wd} {i k j : Nat} {v : Int32} (h : j ≠ k) : (wI w i k v).1 i j = w.1 i j := by simp [wI, h]
theorem wJ_at {w : Wd} {i k : Nat} {v : Int64} : (wJ w i k v).2.1 i k = v := by simp [wJ]
theorem wJ_at_ne {w : Wd} {i k j : Nat} {v : Int64} (h : j ≠ k) : (wJ w i k v).2.1 i j = w.2.1 i j := by simp [wJ, h]
def rowC (w : Wd) (l : List Int64) : Prop := w.1 82 1 = nI l.length ∧ ∀ i v, l[i]? = some v → w.2.1 83 i = v
def rowM (w : Wd) (l : List Int64) : Prop := w.1 119 6 = nI l.length ∧ ∀ i v, l[i]? = some v → w.2.1 122 i = v
theorem d_clear (w : Wd) : ∃ w', D_X3_clear w = some w' ∧ rowC w' [] ∧ same [82] [83] w w' := by
  refine ⟨_, rfl, ⟨?_, fun i v h => by simp at h⟩, same_wI (by simp)⟩
  rw [wI_at, nI_0']
  rfl
theorem d_add {w : Wd} {l : List Int64} (h : rowC w l) (hl : l.length < 20) (x : Int64) : ∃ w', D_X3_add x w = some w' ∧ rowC w' (l ++ [x]) ∧ same [82] [83] w w' := by
  refine ⟨wI (wJ w 83 l.length x) 82 1 (nI (l.length + 1)), ?_, ⟨?_, fun i v hv => ?_⟩, same_tr (same_wJ (by simp)) (same_wI (by simp))⟩
  · unfold D_X3_add
    rw [h.1, show (20 : Int32) = nI 20 from by decide +kernel, if_neg (nI_ge hl (by omega)), if_pos (ib_nI hl (by omega)), bd_eq, bd_eq, nI_clamp (by omega)]
    show some (wI (wJ w 83 l.length x) 82 1 (w.1 82 1 + 1)) = _
    rw [h.1, nI_1]
  · rw [wI_at, List.length_append]
    rfl
  · show (wJ w 83 l.length x).2.1 83 i = v
    by_cases e : i = l.length
    · subst e
      rw [List.getElem?_append_right (Nat.le_refl _), Nat.sub_self] at hv
      cases hv
      exact wJ_at
    · rw [wJ_at_ne e]
      have hi : i < (l ++ [x]).length := (List.getElem?_eq_some_iff.mp hv).1
      rw [List.length_append] at hi
      have hi' : i < l.length := by
        have : [x].length = 1 := rfl
        omega
      rw [List.getElem?_append_left hi'] at hv
      exact h.2 i v hv
theorem d_tell1 (w : Wd) (x : Int64) : ∃ w', D_X3_tell x w = some w' ∧ rowC w' [x] ∧ same [82] [83] w w' := by
  obtain ⟨w1, e1, r1, s1⟩ := d_clear w
  obtain ⟨w2, e2, r2, s2⟩ := d_add r1 (by decide) x
  exact ⟨w2, by unfold D_X3_tell; rw [e1, bv_eq, e2, bv_eq], r2, same_tr s1 s2⟩
theorem d_tell2 (w : Wd) (x y : Int64) : ∃ w', D_X3_tell_ x y w = some w' ∧ rowC w' [x, y] ∧ same [82] [83] w w' := by
  obtain ⟨w1, e1, r1, s1⟩ := d_tell1 w x
  obtain ⟨w2, e2, r2, s2⟩ := d_add r1 (by simp) y
  exact ⟨w2, by unfold D_X3_tell_; rw [e1, bv_eq, e2, bv_eq], r2, same_tr s1 s2⟩
theorem d_tell3 (w : Wd) (x y z : Int64) : ∃ w', D_X3_tell__ x y z w = some w' ∧ rowC w' [x, y, z] ∧ same [82] [83] w w' := by
  obtain ⟨w1, e1, r1, s1⟩ := d_tell2 w x y
  obtain ⟨w2, e2, r2, s2⟩ := d_add r1 (by simp) z
  exact ⟨w2, by unfold D_X3_tell__; rw [e1, bv_eq, e2, bv_eq], r2, same_tr s1 s2⟩
/-- w' is w but for rows, and of the reference's object for the fields in F -/
def sameM (S T F : List Nat) (w w' : Wd) : Prop := same (119 :: S) T w w' ∧ ∀ k, k ∉ F → w'.1 119 k = w.1 119 k
theorem sameM_tr {S T F : List Nat} {w w1 w2 : Wd} (h1 : sameM S T F w w1) (h2 : sameM S T F w1 w2) : sameM S T F w w2 :=
  ⟨same_tr h1.1 h2.1, fun k hk => (h2.2 k hk).trans (h1.2 k hk)⟩
theorem sameM_rf {S T F : List Nat} (w : Wd) : sameM S T F w w := ⟨same_rf w, fun _ _ => rfl⟩
theorem sameM_wI {S T F : List Nat} {w : Wd} {k : Nat} {v : Int32} (hk : k ∈ F) : sameM S T F w (wI w 119 k v) :=
  ⟨same_wI (by simp), fun j hj => wI_at_ne (fun e => hj (e ▸ hk))⟩
theorem d_tellM {w : Wd} {l : List Int64} (h : rowM w l) (hl : l.length < 24) (x : Int64) : ∃ w', D_X12_tell x w = some w' ∧ rowM w' (l ++ [x]) ∧ sameM [] [122] [6] w w' := by
  refine ⟨wI (wJ w 122 l.length x) 119 6 (nI (l.length + 1)), ?_, ⟨?_, fun i v hv => ?_⟩, sameM_tr ⟨same_wJ (by simp), fun _ _ => rfl⟩ (sameM_wI (by simp))⟩
  · unfold D_X12_tell
    rw [h.1, if_pos (ib_nI hl (by omega)), bd_eq, bd_eq, nI_clamp (by omega)]
    show some (wI (wJ w 122 l.length x) 119 6 (w.1 119 6 + 1)) = _
    rw [h.1, nI_1]
  · rw [wI_at, List.length_append]
    rfl
  · show (wJ w 122 l.length x).2.1 122 i = v
    by_cases e : i = l.length
    · subst e
      rw [List.getElem?_append_right (Nat.le_refl _), Nat.sub_self] at hv
      cases hv
      exact wJ_at
    · rw [wJ_at_ne e]
      have hi : i < (l ++ [x]).length := (List.getElem?_eq_some_iff.mp hv).1
      rw [List.length_append] at hi
      have hi' : i < l.length := by
        have : [x].length = 1 := rfl
        omega
      rw [List.getElem?_append_left hi'] at hv
      exact h.2 i v hv
theorem row0M (w : Wd) : rowM (wI w 119 6 0) [] := ⟨by rw [wI_at, nI_0']; rfl, fun i v h => by simp at h⟩
