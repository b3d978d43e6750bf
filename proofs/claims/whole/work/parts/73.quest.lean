/-! what one question changes: rows that no later call reads before it has laid them anew -/
abbrev EC0 : List Nat := [3, 4, 5, 6, 7, 8, 51, 52, 53, 54, 55, 56, 57, 58, 59, 60, 61, 62, 63, 64, 65, 66, 67, 68, 69, 70, 71, 72, 73, 74, 84, 85, 86, 87, 89, 90, 91, 92, 93, 94, 95, 96, 97, 98, 99, 100, 101, 102, 103, 104, 105, 108, 111, 118]
abbrev EC1 : List Nat := 82 :: EC0
def qC (E T : List Nat) (w w' : Wd) : Prop := same E T w w' ∧ (posC w → posC w')
section QC
variable {E T : List Nat} {w w' : Wd}
theorem qC_rf (w : Wd) : qC E T w w := ⟨same_rf w, fun h => h⟩
theorem qC_tr {w1 w2 : Wd} (h1 : qC E T w w1) (h2 : qC E T w1 w2) : qC E T w w2 := ⟨same_tr h1.1 h2.1, fun h => h2.2 (h1.2 h)⟩
theorem qC_up (h : qC EC0 [] w w') : qC EC1 [83] w w' := ⟨same_sub h.1 (fun a z => List.mem_cons_of_mem _ z) (by simp), h.2⟩
theorem posC_at {r : Nat} (hr : isPos r) (h : same E T w w') (hE2 : ∀ a ∈ E, a = r ∨ a = r + 1 ∨ a = r + 2 ∨ 75 ≤ a) (hat : ∃ c P, isAt w' r c P) : posC w → posC w' := by
  intro m q hq
  by_cases e : q = r
  · subst e
    exact hat
  · obtain ⟨c, P, z⟩ := m q hq
    have h1 := hq.2
    have h2 := hr.2
    have h3 := hq.1
    exact ⟨c, P, isAt_same z h (fun a ha => by have := hE2 a ha; omega)⟩
theorem posC_at2 {r s : Nat} (hr : isPos r) (hs : isPos s) (h : same E T w w') (hE2 : ∀ a ∈ E, (a = r ∨ a = r + 1 ∨ a = r + 2) ∨ (a = s ∨ a = s + 1 ∨ a = s + 2) ∨ 75 ≤ a) (hat : ∃ c P, isAt w' r c P) (hat2 : ∃ c P, isAt w' s c P) : posC w → posC w' := by
  intro m q hq
  by_cases e : q = r
  · subst e
    exact hat
  · by_cases e2 : q = s
    · subst e2
      exact hat2
    · obtain ⟨c, P, z⟩ := m q hq
      have h1 := hq.2
      have h2 := hr.2
      have h3 := hq.1
      have h4 := hs.2
      exact ⟨c, P, isAt_same z h (fun a ha => by have := hE2 a ha; omega)⟩
theorem qC_hi {E' T' : List Nat} (h : same E' T' w w') (hE : ∀ a ∈ E', a ∈ E) (hE2 : ∀ a ∈ E', 75 ≤ a) (hT : ∀ a ∈ T', a ∈ T) : qC E T w w' := ⟨same_sub h hE hT, fun m => posC_same m h hE2⟩
theorem qC_at {E' : List Nat} {r : Nat} (hr : isPos r) (h : but E' w w') (hE : ∀ a ∈ E', a ∈ E) (hE2 : ∀ a ∈ E', a = r ∨ a = r + 1 ∨ a = r + 2 ∨ 75 ≤ a) (hat : ∃ c P, isAt w' r c P) : qC E T w w' := ⟨same_sub (T := []) (same_but h) hE (by simp), posC_at hr (same_but (T := []) h) hE2 hat⟩
theorem qC_at2 {E' : List Nat} {r s : Nat} (hr : isPos r) (hs : isPos s) (h : but E' w w') (hE : ∀ a ∈ E', a ∈ E) (hE2 : ∀ a ∈ E', (a = r ∨ a = r + 1 ∨ a = r + 2) ∨ (a = s ∨ a = s + 1 ∨ a = s + 2) ∨ 75 ≤ a) (hat : ∃ c P, isAt w' r c P) (hat2 : ∃ c P, isAt w' s c P) : qC E T w w' := ⟨same_sub (T := []) (same_but h) hE (by simp), posC_at2 hr hs (same_but (T := []) h) hE2 hat hat2⟩
theorem qC_wI {i k : Nat} {v : Int32} (hi : i ∈ E) (h75 : 75 ≤ i) : qC E T w (wI w i k v) := qC_hi (E' := [i]) (T' := []) (same_wI (by simp)) (by simpa using hi) (by simpa using h75) (by simp)
end QC
theorem qC_now {w w' : Wd} {c : Nat} {P : Nat → Nat} (m : isAt w 0 c P) (h : qC EC1 [83] w w') : isAt w' 0 c P := isAt_same m h.1 (by decide)
theorem qC_now0 {w w' : Wd} {c : Nat} {P : Nat → Nat} (m : isAt w 0 c P) (h : qC EC0 [] w w') : isAt w' 0 c P := isAt_same m h.1 (by decide)
theorem EC1_ok : ∀ a ∈ EC1, 3 ≤ a ∧ scr a ∧ a < 119 := by
  unfold scr
  decide
section CQ
variable {w w' : Wd} {c L : Nat} {P : Nat → Nat} {hs : List (Nat → Nat)} {tx : List Nat} {cd : List Int32} {kp : Nat → Option (Nat → Nat)} {cl si : List (Int32 × Int32)} {rw rw' : List Int64}
theorem CR_q (m : CR w c L P hs tx cd kp cl si rw) (h : qC EC1 [83] w w') (hr : rowC w' rw') : CR w' c L P hs tx cd kp cl si rw' ∧ onC w w' :=
  ⟨CR_chg m (fun a _ hs => h.1.1 a (fun z => hs (EC1_ok a z).2.1)) (qC_now m.1 h) (h.2 m.2.2.1) hr, onC_same h.1 (fun a z => (EC1_ok a z).2.2) (by simp)⟩
theorem CR_q0 (m : CR w c L P hs tx cd kp cl si rw) (h : qC EC0 [] w w') : CR w' c L P hs tx cd kp cl si rw ∧ onC w w' :=
  CR_q m (qC_up h) (rowC_same m.2.2.2.2.2.1 h.1 (by decide) (by decide))
end CQ
/-! the same of the reference -/
abbrev EM : List Nat := [126, 128, 129, 130, 131, 133, 134, 135, 136, 137, 138, 139, 140, 141, 143, 144, 145, 146, 147, 148, 149, 150, 151, 156, 157]
abbrev FM0 : List Nat := [7, 9, 10, 11, 12, 17, 19, 20, 21, 28, 32, 33, 36, 38, 49, 50]
abbrev FM1 : List Nat := 6 :: FM0
def qM (F T : List Nat) (w w' : Wd) : Prop := sameR EM F T [0] w w' ∧ (arrM w → arrM w')
section QM
variable {E F T Z : List Nat} {w w' : Wd}
theorem qM_rf (w : Wd) : qM F T w w := ⟨sameR_rf w, fun h => h⟩
theorem qM_tr {w1 w2 : Wd} (h1 : qM F T w w1) (h2 : qM F T w1 w2) : qM F T w w2 := ⟨sameR_tr h1.1 h2.1, fun h => h2.2 (h1.2 h)⟩
theorem qM_up (h : qM FM0 [] w w') : qM FM1 [122] w w' := ⟨sameR_sub h.1 (fun _ z => z) (fun a z => List.mem_cons_of_mem _ z) (by simp) (fun _ z => z), h.2⟩
theorem qM_f {k : Nat} {v : Int32} (hk : k ∈ F) : qM F T w (wI w 119 k v) := ⟨sameR_f hk, fun m => arrM_same (E := []) (F := [k]) (T := []) (Z := []) m (sameR_f (by simp)) (by simp)⟩
theorem qM_any (h : sameR E F T Z w w') (hE : ∀ a ∈ E, a ∈ EM) (hE2 : ∀ a ∈ E, a ≠ 128 ∧ a ≠ 129 ∧ a ≠ 130 ∧ (a < 133 ∨ 140 ≤ a)) (hZ : ∀ a ∈ Z, a ∈ [0]) : qM F T w w' := ⟨sameR_sub h hE (fun _ z => z) (fun _ z => z) hZ, fun m => arrM_same m h hE2⟩
theorem arrM_at {r : Nat} (m : arrM w) (h : sameR E F T Z w w') (hE2 : ∀ a ∈ E, a = r ∨ (a ≠ 128 ∧ a ≠ 129 ∧ a ≠ 130 ∧ (a < 133 ∨ 140 ≤ a))) (hat : ∃ Q, isM w' r Q) : arrM w' := by
  intro a ha
  by_cases e : a = r
  · subst e
    exact hat
  · obtain ⟨Q, hQ⟩ := m a ha
    exact ⟨Q, isM_same hQ h (fun z => by have := hE2 a z; omega) (by omega)⟩
theorem arrM_at2 {r s : Nat} (m : arrM w) (h : sameR E F T Z w w') (hE2 : ∀ a ∈ E, a = r ∨ a = s ∨ (a ≠ 128 ∧ a ≠ 129 ∧ a ≠ 130 ∧ (a < 133 ∨ 140 ≤ a))) (hat : ∃ Q, isM w' r Q) (hat2 : ∃ Q, isM w' s Q) : arrM w' := by
  intro a ha
  by_cases e : a = r
  · subst e
    exact hat
  · by_cases e2 : a = s
    · subst e2
      exact hat2
    · obtain ⟨Q, hQ⟩ := m a ha
      exact ⟨Q, isM_same hQ h (fun z => by have := hE2 a z; omega) (by omega)⟩
theorem qM_at {r : Nat} (h : sameR E F T Z w w') (hE : ∀ a ∈ E, a ∈ EM) (hE2 : ∀ a ∈ E, a = r ∨ (a ≠ 128 ∧ a ≠ 129 ∧ a ≠ 130 ∧ (a < 133 ∨ 140 ≤ a))) (hZ : ∀ a ∈ Z, a ∈ [0]) (hat : ∃ Q, isM w' r Q) : qM F T w w' := ⟨sameR_sub h hE (fun _ z => z) (fun _ z => z) hZ, fun m => arrM_at m h hE2 hat⟩
theorem qM_at2 {r s : Nat} (h : sameR E F T Z w w') (hE : ∀ a ∈ E, a ∈ EM) (hE2 : ∀ a ∈ E, a = r ∨ a = s ∨ (a ≠ 128 ∧ a ≠ 129 ∧ a ≠ 130 ∧ (a < 133 ∨ 140 ≤ a))) (hZ : ∀ a ∈ Z, a ∈ [0]) (hat : ∃ Q, isM w' r Q) (hat2 : ∃ Q, isM w' s Q) : qM F T w w' := ⟨sameR_sub h hE (fun _ z => z) (fun _ z => z) hZ, fun m => arrM_at2 m h hE2 hat hat2⟩
theorem qM_sub {F' T' : List Nat} (h : qM F T w w') (hF : ∀ a ∈ F, a ∈ F') (hT : ∀ a ∈ T, a ∈ T') : qM F' T' w w' := ⟨sameR_sub h.1 (fun _ z => z) hF hT (fun _ z => z), h.2⟩
theorem qM_tell (h : sameM [] [122] [6] w w') : qM FM1 [122] w w' := by
  have : sameR [] [6] [122] [] w w' := ⟨fun a _ h9 => h.1.1 a (by simp [h9]), h.2, h.1.2.1, fun k _ => by rw [h.1.2.2]⟩
  exact qM_sub (qM_any this (by simp) (by simp) (by simp)) (by decide) (by decide)
end QM
theorem qM_now {w w' : Wd} {P : Nat → Nat} (m : isM w 120 P) (h : qM FM1 [122] w w') : isM w' 120 P := isM_same m h.1 (by decide) (by decide)
theorem qM_now0 {w w' : Wd} {P : Nat → Nat} (m : isM w 120 P) (h : qM FM0 [] w w') : isM w' 120 P := isM_same m h.1 (by decide) (by decide)
section MQ
variable {w w' : Wd} {c L : Nat} {P : Nat → Nat} {hs : List (Nat → Nat)} {tx rl : List Nat} {kp : Nat → Option (Nat → Nat)} {cl si : List (Int32 × Int32)} {rw rw' : List Int64}
theorem MR_q (m : MR w c L P hs tx rl kp cl si rw) (h : qM FM1 [122] w w') (hr : rowM w' rw') : MR w' c L P hs tx rl kp cl si rw' ∧ onM w w' := by
  obtain ⟨m1, m2, m3, m4, m5, m6, m7, m8, m9, m10, m11⟩ := m
  exact ⟨⟨(h.1.2.1 1 (by decide)).trans m1, (h.1.2.1 2 (by decide)).trans m2, qM_now m3 h, histM_same m4 h.1 (by decide) (by decide), textM_same m5 h.1 (by decide) (by decide), hr, keptM_same m7 h.1 (by decide) (by decide) (by decide) (by decide), heardM_same m8 h.1 (by decide) (by decide) (by decide), sawM_same m9 h.1 (by decide) (by decide) (by decide), ruleM_same m10 h.1 (by decide) (by decide) (by decide) (by decide) (by decide), h.2 m11⟩, onM_sameR h.1 (by decide) (by decide) (by decide)⟩
theorem MR_q0 (m : MR w c L P hs tx rl kp cl si rw) (h : qM FM0 [] w w') : MR w' c L P hs tx rl kp cl si rw ∧ onM w w' :=
  MR_q m (qM_up h) (rowM_same m.2.2.2.2.2.1 h.1 (by decide) (by decide))
end MQ
