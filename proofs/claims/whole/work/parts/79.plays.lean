/-! calls that change the position: what they stand on; plays -/
def cameM (B : Nat) (w : Wd) : Prop := ∃ cm, cm ≤ B ∧ w.1 119 51 = nI cm
def Two (f g : Wd → Option (Int32 × Wd)) : Prop := ∀ (w : Wd) (c L : Nat) (P : Nat → Nat) (hs : List (Nat → Nat)) (tx rl : List Nat) (cd : List Int32) (V : (Nat → Int32) → Int32) (kp : Nat → Option (Nat → Nat)) (cl si : List (Int32 × Int32)) (rw : List Int64) (B : Nat), B < 90000 → CR w c L P hs tx cd kp cl si rw → okS c L P hs tx kp cl si rw B → okRl rl cd V → ∃ (r : Int32) (c' L' : Nat) (P' : Nat → Nat) (hs' : List (Nat → Nat)) (tx' rl' : List Nat) (cd' : List Int32) (V' : (Nat → Int32) → Int32) (kp' : Nat → Option (Nat → Nat)) (cl' si' : List (Int32 × Int32)) (rw' : List Int64), okS c' L' P' hs' tx' kp' cl' si' rw' (B + 108) ∧ okRl rl' cd' V' ∧ (∃ w1, f w = some (r, w1) ∧ CR w1 c' L' P' hs' tx' cd' kp' cl' si' rw' ∧ onC w w1) ∧ ∀ u, MR u c L P hs tx rl kp cl si rw → cameM B u → ∃ u1, g u = some (r, u1) ∧ MR u1 c' L' P' hs' tx' rl' kp' cl' si' rw' ∧ onM0 u u1 ∧ cameM (B + 108) u1
section TW
variable {c L : Nat} {P : Nat → Nat} {hs : List (Nat → Nat)} {tx rl : List Nat} {cd : List Int32} {V : (Nat → Int32) → Int32} {kp : Nat → Option (Nat → Nat)} {cl si : List (Int32 × Int32)} {rw rw' : List Int64} {B : Nat}
theorem okS_mono (hB : B < 90000) (h : okS c L P hs tx kp cl si rw B) (hr : rw'.length ≤ 20) : okS c L P hs tx kp cl si rw' (B + 108) := by
  obtain ⟨h1, h2, h3, ⟨h4, h5⟩, ⟨h6, h7⟩, h8, h9, h10, h11, h12, h13⟩ := h
  exact ⟨h1, h2, h3, ⟨h4, by omega⟩, ⟨h6, fun Q hQ => ⟨(h7 Q hQ).1, by have := (h7 Q hQ).2; omega⟩⟩, h8, fun i Q hi hQ => ⟨(h9 i Q hi hQ).1, by have := (h9 i Q hi hQ).2; omega⟩, h10, h11, hr, by omega⟩
theorem came_on {u u1 : Wd} (h : cameM B u) (o : onM u u1) : onM0 u u1 ∧ cameM (B + 108) u1 := by
  obtain ⟨cm, h1, h2⟩ := h
  exact ⟨⟨o.1, o.2.1⟩, cm, by omega, by rw [o.2.2]; exact h2⟩
theorem two_quest {f g : Wd → Option (Int32 × Wd)} (h : Quest f g) : Two f g := by
  intro w c L P hs tx rl cd V kp cl si rw B hB m ok okr
  obtain ⟨r, rw', hr, hC, hM⟩ := h w c L P hs tx rl cd V kp cl si rw B m ok okr
  refine ⟨r, c, L, P, hs, tx, rl, cd, V, kp, cl, si, rw', okS_mono hB ok hr, okr, hC, fun u n hc => ?_⟩
  obtain ⟨u1, g1, g2, g3⟩ := hM u n
  exact ⟨u1, g1, g2, came_on hc g3⟩
/-- the position and what can be undone have changed -/
theorem okS_pos {P' : Nat → Nat} {hs' : List (Nat → Nat)} (hB : B < 90000) (h : okS c L P hs tx kp cl si rw B) (hr : rw'.length ≤ 20) (h14 : P' 14 ≤ 1) (ht : tot P' ≤ B + 108) (hl : hs'.length ≤ 12) (hh : ∀ Q ∈ hs', Q = P ∨ Q ∈ hs) : okS c L P' hs' tx kp cl si rw' (B + 108) := by
  obtain ⟨h1, h2, h3, ⟨h4, h5⟩, ⟨h6, h7⟩, h8, h9, h10, h11, h12, h13⟩ := h
  refine ⟨h1, h2, h3, ⟨h14, ht⟩, ⟨hl, fun Q hQ => ?_⟩, h8, fun i Q hi hQ => ⟨(h9 i Q hi hQ).1, by have := (h9 i Q hi hQ).2; omega⟩, h10, h11, hr, by omega⟩
  rcases hh Q hQ with e | e
  · rw [e]
    exact ⟨h4, by omega⟩
  · exact ⟨(h7 Q e).1, by have := (h7 Q e).2; omega⟩
theorem push_mem {Q : Nat → Nat} (h : Q ∈ pushS hs P) : Q = P ∨ Q ∈ hs := by
  unfold pushS at h
  split at h
  · rcases List.mem_append.mp h with z | z
    · exact Or.inr z
    · exact Or.inl (List.mem_singleton.mp z)
  · rcases List.mem_append.mp h with z | z
    · exact Or.inr (List.mem_of_mem_tail z)
    · exact Or.inl (List.mem_singleton.mp z)
/-- both remember a position -/
theorem CR_push {w : Wd} {r : Nat} {P0 : Nat → Nat} (hr : isPos r) (hr15 : r < 15) (m : CR w c L P hs tx cd kp cl si rw) (h : isAt w r c P0) : ∃ w1, D_X0_push r w = some w1 ∧ CR w1 c L P (pushS hs P0) tx cd kp cl si rw ∧ onC w w1 ∧ ∀ a, (a < 15 ∨ 51 ≤ a) → a ≠ 78 → w1.1 a = w.1 a := by
  obtain ⟨w1, q1, hq1, q15, q51, e1, hh1, hp1, b1⟩ := c_pushR hr hr15 h m.2.2.1 m.2.2.2.1
  have hq3 := hq1.2
  have hE : ∀ a ∈ [q1, q1 + 1, q1 + 2, 78], (15 ≤ a ∧ a < 51) ∨ a = 78 := by
    intro a ha
    simp only [List.mem_cons, List.not_mem_nil, or_false] at ha
    omega
  have s : same [q1, q1 + 1, q1 + 2, 78] [] w w1 := same_but b1
  have no : ∀ a, (a < 15 ∨ 51 ≤ a) → a ≠ 78 → a ∉ [q1, q1 + 1, q1 + 2, 78] := fun a h1 h2 z => by have := hE a z; omega
  refine ⟨w1, e1, ?_, onC_same s (fun a z => by have := hE a z; omega) (by simp), fun a h1 h2 => b1.1 a (no a h1 h2)⟩
  obtain ⟨m1, m2, m3, m4, m5, m6, m7, m8, m9, m10, m11⟩ := m
  exact ⟨isAt_same m1 s (fun a z => by have := hE a z; omega), by rw [s.1 75 (no _ (by decide) (by decide))]; exact m2, hp1, hh1, textC_same m5 s (no _ (by decide) (by decide)) (no _ (by decide) (by decide)), rowC_same m6 s (no _ (by decide) (by decide)) (by simp), keptC_same m7 s (fun a z => by have := hE a z; omega), noteC_same m8 s (no _ (by decide) (by decide)) (no _ (by decide) (by decide)) (no _ (by decide) (by decide)), noteC_same m9 s (no _ (by decide) (by decide)) (no _ (by decide) (by decide)) (no _ (by decide) (by decide)), ruleC_same m10 s (no _ (by decide) (by decide)) (no _ (by decide) (by decide)), greedC_same m11 s (no _ (by decide) (by decide)) (no _ (by decide) (by decide))⟩
theorem MR_push {u : Wd} {a : Nat} {P0 : Nat → Nat} (ha : a = 120 ∨ a = 128) (n : MR u c L P hs tx rl kp cl si rw) (hl : hs.length ≤ 12) (h : isM u a P0) : ∃ u1, D_X12_remember a u = some u1 ∧ MR u1 c L P (pushS hs P0) tx rl kp cl si rw ∧ onM u u1 ∧ sameR [127] [23] [] [] u u1 := by
  obtain ⟨n1, n2, n3, n4, n5, n6, n7, n8, n9, n10, n11⟩ := n
  obtain ⟨u1, e1, hh, r1, f1, z1⟩ := m_remember (w := u) (a := a) (P := P0) (by omega) (by omega) (by rcases ha with e | e <;> rw [e] <;> rfl) h.1 n4 hl
  have s : sameR [127] [23] [] [] u u1 := ⟨fun b hb h9 => r1 b (by simpa using hb) h9, fun k hk => f1 k (by simpa using hk), fun _ _ => by rw [z1], fun _ _ => by rw [z1]⟩
  exact ⟨u1, e1, ⟨(s.2.1 1 (by decide)).trans n1, (s.2.1 2 (by decide)).trans n2, isM_same n3 s (by decide) (by decide), hh, textM_same n5 s (by decide) (by decide), rowM_same n6 s (by decide) (by decide), keptM_same n7 s (by decide) (by decide) (by decide) (by decide), heardM_same n8 s (by decide) (by decide) (by decide), sawM_same n9 s (by decide) (by decide) (by decide), ruleM_same n10 s (by decide) (by decide) (by decide) (by decide) (by decide), arrM_same n11 s (by decide)⟩, onM_sameR s (by decide) (by decide) (by decide), s⟩
end TW
/-! the position itself changes -/
abbrev EN0 : List Nat := 0 :: 1 :: 2 :: EC0
abbrev EN1 : List Nat := 82 :: EN0
section NC
variable {w w' : Wd} {c L : Nat} {P P' : Nat → Nat} {hs : List (Nat → Nat)} {tx : List Nat} {cd : List Int32} {kp : Nat → Option (Nat → Nat)} {cl si : List (Int32 × Int32)} {rw rw' : List Int64}
theorem EN1_ok : ∀ a ∈ EN1, scr a ∧ a < 119 := by
  unfold scr
  decide
theorem qN_up (h : qC EN0 [] w w') : qC EN1 [83] w w' := ⟨same_sub h.1 (fun a z => List.mem_cons_of_mem _ z) (by simp), h.2⟩
theorem CR_n (m : CR w c L P hs tx cd kp cl si rw) (h : qC EN1 [83] w w') (h0 : isAt w' 0 c P') (hr : rowC w' rw') : CR w' c L P' hs tx cd kp cl si rw' ∧ onC w w' :=
  ⟨CR_chg m (fun a _ hs => h.1.1 a (fun z => hs (EN1_ok a z).1)) h0 (h.2 m.2.2.1) hr, onC_same h.1 (fun a z => (EN1_ok a z).2) (by simp)⟩
theorem CR_n0 (m : CR w c L P hs tx cd kp cl si rw) (h : qC EN0 [] w w') (h0 : isAt w' 0 c P') : CR w' c L P' hs tx cd kp cl si rw ∧ onC w w' :=
  CR_n m (qN_up h) h0 (rowC_same m.2.2.2.2.2.1 h.1 (by decide) (by decide))
end NC
def qN (F T : List Nat) (w w' : Wd) : Prop := sameR (120 :: EM) F T [0] w w' ∧ (arrM w → arrM w')
section NM
variable {F T : List Nat} {w w' : Wd} {c L : Nat} {P P' : Nat → Nat} {hs : List (Nat → Nat)} {tx rl : List Nat} {kp : Nat → Option (Nat → Nat)} {cl si : List (Int32 × Int32)} {rw rw' : List Int64}
theorem qN_tr {w1 w2 : Wd} (h1 : qN F T w w1) (h2 : qN F T w1 w2) : qN F T w w2 := ⟨sameR_tr h1.1 h2.1, fun h => h2.2 (h1.2 h)⟩
theorem qN_rf (w : Wd) : qN F T w w := ⟨sameR_rf w, fun h => h⟩
theorem qN_of (h : qM F T w w') : qN F T w w' := ⟨sameR_sub h.1 (fun _ z => List.mem_cons_of_mem _ z) (fun _ z => z) (fun _ z => z) (fun _ z => z), h.2⟩
theorem qN_up' (h : qN FM0 [] w w') : qN FM1 [122] w w' := ⟨sameR_sub h.1 (fun _ z => z) (fun a z => List.mem_cons_of_mem _ z) (by simp) (fun _ z => z), h.2⟩
theorem MR_n (m : MR w c L P hs tx rl kp cl si rw) (h : qN FM1 [122] w w') (h0 : isM w' 120 P') (hr : rowM w' rw') : MR w' c L P' hs tx rl kp cl si rw' ∧ onM w w' := by
  obtain ⟨m1, m2, m3, m4, m5, m6, m7, m8, m9, m10, m11⟩ := m
  exact ⟨⟨(h.1.2.1 1 (by decide)).trans m1, (h.1.2.1 2 (by decide)).trans m2, h0, histM_same m4 h.1 (by decide) (by decide), textM_same m5 h.1 (by decide) (by decide), hr, keptM_same m7 h.1 (by decide) (by decide) (by decide) (by decide), heardM_same m8 h.1 (by decide) (by decide) (by decide), sawM_same m9 h.1 (by decide) (by decide) (by decide), ruleM_same m10 h.1 (by decide) (by decide) (by decide) (by decide) (by decide), h.2 m11⟩, onM_sameR h.1 (by decide) (by decide) (by decide)⟩
theorem MR_n0 (m : MR w c L P hs tx rl kp cl si rw) (h : qN FM0 [] w w') (h0 : isM w' 120 P') : MR w' c L P' hs tx rl kp cl si rw ∧ onM w w' :=
  MR_n m (qN_up' h) h0 (rowM_same m.2.2.2.2.2.1 h.1 (by decide) (by decide))
end NM
section PL
variable {w w0 : Wd} {c L : Nat} {P P0 : Nat → Nat} {hs : List (Nat → Nat)} {tx rl : List Nat} {cd : List Int32} {V : (Nat → Int32) → Int32} {kp : Nat → Option (Nat → Nat)} {cl si : List (Int32 × Int32)} {rw : List Int64}
def bC (w0 w : Wd) (c : Nat) (P : Nat → Nat) : Prop := qC EN0 [] w0 w ∧ isAt w 0 c P
def bM (u0 u : Wd) (P : Nat → Nat) : Prop := qN FM0 [] u0 u ∧ isM u 120 P
theorem bC_play (m : CR w0 c L P0 hs tx cd kp cl si rw) (okr : okRl rl cd V) (hB : okB c L (P 14) P) (h : bC w0 w c P) : ∃ w1, D_X4_play 0 106 (w.1 75 18) w = some (if overS c P = true then 0 else 1, w1) ∧ bC w0 w1 c (rlS c L P V) := by
  have hj : JR w 106 V := by
    have hj := JR_of m.2.2.2.2.2.2.2.2.2.1 okr
    unfold JR at hj ⊢
    rw [h.1.1.1 106 (by decide), h.1.1.1 (106 + 1) (by decide)]
    exact hj
  obtain ⟨w1, e1, a1, b1, at1⟩ := c_play (q := 0) (o := 106) (by decide) (by decide) (by decide) hB h.2 (h.1.2 m.2.2.1 51 (by decide)) hj
  refine ⟨w1, ?_, qC_tr h.1 (qC_at2 (r := 0) (s := 51) (by decide) (by decide) b1 (by decide) (by decide) ⟨_, _, a1⟩ at1), a1⟩
  rw [h.1.1.1 75 (by decide), m.2.1, e1]
theorem bM_go {u0 u : Wd} (n : MR u0 c L P0 hs tx rl kp cl si rw) (okr : okRl rl cd V) (hB : okB c L (P 14) P) (h : bM u0 u P) : ∃ u1, D_X12_goRule 120 u = some (if overS c P = true then 0 else 1, u1) ∧ bM u0 u1 (rlS c L P V) := by
  obtain ⟨u1, g1, s1, i1, i2⟩ := m_goRule (a := 120) (V := V) (by decide) (by decide) (by decide) rfl hB h.2 (h.1.2 (arrM_of n) 130 (by decide)) ((h.1.1.2.1 1 (by decide)).trans n.1) ((h.1.1.2.1 2 (by decide)).trans n.2.1) (ruM_same (ruM_of n okr) h.1.1 (by decide) (by decide) (by decide) (by decide) (by decide))
  exact ⟨u1, g1, qN_tr h.1 ⟨sameR_sub s1 (by decide) (by decide) (by simp) (by simp), fun z => arrM_at (r := 130) z s1 (by decide) i2⟩, i1⟩
theorem bC_ploop {k : Int32 → Wd → Option (Int32 × Wd)} (m : CR w0 c L P0 hs tx cd kp cl si rw) (okr : okRl rl cd V) : ∀ (n fu j : Nat) (P : Nat → Nat) (w : Wd), n < fu → j + n < 2 ^ 30 → okB c L (P 14) P → bC w0 w c P → ∃ w1, L_X11_playOn_2 0 (nI (j + n)) k fu (nI j) w = k (nI (j + (plN c L V n P).1)) w1 ∧ bC w0 w1 c (plN c L V n P).2 := by
  intro n
  induction n with
  | zero =>
    intro fu j P w hf hj hB h
    obtain ⟨fu, rfl⟩ : ∃ n', fu = n' + 1 := ⟨fu - 1, by omega⟩
    refine ⟨w, ?_, h⟩
    unfold L_X11_playOn_2
    rw [Nat.add_zero, if_pos (nI_le (Nat.le_refl j) (by omega))]
    rfl
  | succ n ih =>
    intro fu j P w hf hj hB h
    obtain ⟨fu, rfl⟩ : ∃ n', fu = n' + 1 := ⟨fu - 1, by omega⟩
    obtain ⟨w1, e1, a1⟩ := bC_play m okr hB h
    unfold L_X11_playOn_2 plN
    rw [if_neg (nI_ge (by omega) (by omega)), e1, bc_eq]
    by_cases ho : overS c P = true
    · rw [if_pos ho, if_pos rfl, if_pos ho]
      have : rlS c L P V = P := by unfold rlS; rw [if_pos ho]
      rw [this] at a1
      exact ⟨w1, rfl, a1⟩
    · rw [if_neg ho, if_neg (by decide), if_neg ho, bd_eq, nI_1]
      obtain ⟨w2, e2, a2⟩ := ih fu (j + 1) (rlS c L P V) w1 (by omega) (by omega) (rlS_ok hB).1 a1
      rw [show j + 1 + n = j + (n + 1) by omega] at e2
      exact ⟨w2, by rw [e2, show j + 1 + (plN c L V n (rlS c L P V)).1 = j + ((plN c L V n (rlS c L P V)).1 + 1) by omega], a2⟩
theorem bM_ploop {k : Int32 → Wd → Option (Int32 × Wd)} {u0 : Wd} (n0 : MR u0 c L P0 hs tx rl kp cl si rw) (okr : okRl rl cd V) : ∀ (n fu j : Nat) (P : Nat → Nat) (u : Wd), n < fu → j + n < 2 ^ 30 → okB c L (P 14) P → bM u0 u P → ∃ u1, L_X12_plays_41 (nI (j + n)) k fu (nI j) u = k (nI (j + (plN c L V n P).1)) u1 ∧ bM u0 u1 (plN c L V n P).2 := by
  intro n
  induction n with
  | zero =>
    intro fu j P w hf hj hB h
    obtain ⟨fu, rfl⟩ : ∃ n', fu = n' + 1 := ⟨fu - 1, by omega⟩
    refine ⟨w, ?_, h⟩
    unfold L_X12_plays_41
    rw [Nat.add_zero, if_pos (nI_le (Nat.le_refl j) (by omega))]
    rfl
  | succ n ih =>
    intro fu j P w hf hj hB h
    obtain ⟨fu, rfl⟩ : ∃ n', fu = n' + 1 := ⟨fu - 1, by omega⟩
    obtain ⟨w1, e1, a1⟩ := bM_go n0 okr hB h
    unfold L_X12_plays_41 plN
    rw [if_neg (nI_ge (by omega) (by omega)), e1, bc_eq]
    by_cases ho : overS c P = true
    · rw [if_pos ho, if_pos rfl, if_pos ho]
      have : rlS c L P V = P := by unfold rlS; rw [if_pos ho]
      rw [this] at a1
      exact ⟨w1, rfl, a1⟩
    · rw [if_neg ho, if_neg (by decide), if_neg ho, bd_eq, nI_1]
      obtain ⟨w2, e2, a2⟩ := ih fu (j + 1) (rlS c L P V) w1 (by omega) (by omega) (rlS_ok hB).1 a1
      rw [show j + 1 + n = j + (n + 1) by omega] at e2
      exact ⟨w2, by rw [e2, show j + 1 + (plN c L V n (rlS c L P V)).1 = j + ((plN c L V n (rlS c L P V)).1 + 1) by omega], a2⟩
end PL
section RF
variable {c L : Nat} {P : Nat → Nat} {hs : List (Nat → Nat)} {tx rl : List Nat} {cd : List Int32} {V : (Nat → Int32) → Int32} {kp : Nat → Option (Nat → Nat)} {cl si : List (Int32 × Int32)} {rw : List Int64} {B : Nat} {w : Wd} {f g : Wd → Option (Int32 × Wd)}
theorem two_no (r : Int32) (hB : B < 90000) (m : CR w c L P hs tx cd kp cl si rw) (ok : okS c L P hs tx kp cl si rw B) (okr : okRl rl cd V) (hf : f w = some (r, w)) (hg : ∀ u, MR u c L P hs tx rl kp cl si rw → g u = some (r, wI u 119 7 0)) : ∃ (r : Int32) (c' L' : Nat) (P' : Nat → Nat) (hs' : List (Nat → Nat)) (tx' rl' : List Nat) (cd' : List Int32) (V' : (Nat → Int32) → Int32) (kp' : Nat → Option (Nat → Nat)) (cl' si' : List (Int32 × Int32)) (rw' : List Int64), okS c' L' P' hs' tx' kp' cl' si' rw' (B + 108) ∧ okRl rl' cd' V' ∧ (∃ w1, f w = some (r, w1) ∧ CR w1 c' L' P' hs' tx' cd' kp' cl' si' rw' ∧ onC w w1) ∧ ∀ u, MR u c L P hs tx rl kp cl si rw → cameM B u → ∃ u1, g u = some (r, u1) ∧ MR u1 c' L' P' hs' tx' rl' kp' cl' si' rw' ∧ onM0 u u1 ∧ cameM (B + 108) u1 :=
  ⟨r, c, L, P, hs, tx, rl, cd, V, kp, cl, si, rw, okS_mono hB ok (okS_rw ok), okr, ⟨w, hf, m, onC_rf w⟩, fun u n hc => ⟨_, hg u n, (MR_7 n).1, came_on hc (MR_7 n).2⟩⟩
end RF
theorem in_no {x : Int32} {a b : Nat} {u : Wd} (ha : a < 2 ^ 30) (hb : b < 2 ^ 30) (h : x < nI a ∨ nI b < x) : D_X12_in x (nI a) (nI b) u = some (0, u) := by
  unfold D_X12_in
  by_cases h1 : x < nI a
  · rw [if_pos h1]
  · rw [if_neg h1, if_pos (h.resolve_left h1)]
theorem in_yes {i a b : Nat} {u : Wd} (hi : i < 2 ^ 30) (h1 : a ≤ i) (h2 : i ≤ b) (hb : b < 2 ^ 30) : D_X12_in (nI i) (nI a) (nI b) u = some (1, u) := by
  rw [d_in (by omega) (by omega) (by omega), if_pos ⟨h1, h2⟩]
theorem rng_cases (x : Int32) (a b : Nat) (ha : a < 2 ^ 30) (hb : b < 2 ^ 30) : (x < nI a ∨ nI b < x) ∨ ∃ i, a ≤ i ∧ i ≤ b ∧ x = nI i := by
  by_cases h : x < 0
  · refine Or.inl (Or.inl ?_)
    rw [Int32.lt_iff_toInt_lt] at h ⊢
    rw [nI_toInt (by omega)]
    have : (0 : Int32).toInt = 0 := by decide
    omega
  · obtain ⟨j, hj, rfl⟩ := nI_of h
    by_cases h1 : j < a
    · exact Or.inl (Or.inl (nI_lt h1 (by omega)))
    · by_cases h2 : b < j
      · exact Or.inl (Or.inr (nI_lt h2 hj))
      · exact Or.inr ⟨j, by omega, by omega, rfl⟩
theorem t_plays (x : Int32) : Two (D_X11_plays x) (D_X12_plays x) := by
  intro w c L P hs tx rl cd V kp cl si rw B hBB m ok okr
  have hB := okB_of ok
  have h6 := hB.2.1
  have h60 : (60 : Int32) = nI 60 := by decide +kernel
  have hl := ok.2.2.2.2.1.1
  rcases rng_cases x 1 60 (by decide) (by decide) with hx | ⟨j, hj1, hj, rfl⟩
  · refine two_no (-1) hBB m ok okr ?_ (fun u n => ?_)
    · unfold D_X11_plays
      rw [h60, nI_1']
      by_cases h1 : x < nI 1
      · rw [if_pos h1]
      · rw [if_neg h1, if_neg (Int32.not_le.mpr (hx.resolve_left h1))]
    · unfold D_X12_plays
      rw [bd_eq, h60, nI_1', in_no (by decide) (by decide) hx, bc_eq, if_pos rfl]
  · have hg1 : ∀ u, D_X12_in (nI j) 1 60 u = some (1, u) := fun u => by
      rw [h60, nI_1', in_yes (by omega) hj1 hj (by decide)]
      rfl
    have hc1 : ∀ r : Option (Int32 × Wd), (if nI j < 1 then some (-1, w) else if nI j ≤ 60 then r else some (-1, w)) = r := fun r => by
      rw [nI_1', if_neg (nI_nlt hj1 (by omega)), h60, if_pos (nI_le hj (by decide))]
    by_cases ho : overS c P = true
    · refine two_no (-2) hBB m ok okr ?_ (fun u n => ?_)
      · unfold D_X11_plays
        rw [hc1, d_isOver m.1 h6 hB.2.2.2.1 hB.2.2.2.2.2, bc_eq, if_pos (over_iff.mpr ho), if_neg (by decide)]
      · unfold D_X12_plays
        rw [bd_eq, hg1, bc_eq, if_neg (by decide), m_over ln_120 (MR_7 n).1.2.2.1 (MR_7 n).1.1 hB, bc_eq, if_pos ho, if_neg (by decide)]
    · obtain ⟨b1, b2, b3, -⟩ := plN_ok (V := V) j P hB
      obtain ⟨w1, e1, m1, on1, r1⟩ := CR_push (r := 0) (by decide) (by decide) m m.1
      obtain ⟨w2, e2, a2⟩ := bC_ploop (k := J_X11_playOn_x32_1) m1 okr j FU 0 P w1 (by unfold FU; omega) (by omega) hB ⟨qC_rf w1, m1.1⟩
      rw [Nat.zero_add, Nat.zero_add, nI_0] at e2
      have e2' : D_X11_playOn 0 (nI j) w1 = some (nI (plN c L V j P).1, w2) := e2
      obtain ⟨w3, t1, t2, t3⟩ := d_tell2 w2 (nI ((plN c L V j P).2 12)).toInt64 (nI ((plN c L V j P).2 13)).toInt64
      have a3 : isAt w3 0 c (plN c L V j P).2 := isAt_same a2.2 t3 (by decide)
      obtain ⟨k1, k2⟩ := CR_n m1 (qC_tr (qN_up a2.1) (qC_hi t3 (by decide) (by decide) (by decide))) a3 t2
      refine ⟨nI (plN c L V j P).1, c, L, (plN c L V j P).2, pushS hs P, tx, rl, cd, V, kp, cl, si, [(nI ((plN c L V j P).2 12)).toInt64, (nI ((plN c L V j P).2 13)).toInt64], okS_pos hBB ok (by simp) b1.2.2.2.1 (by rw [b2]; have := ok.2.2.2.1.2; omega) (pushS_len hl).1 (fun Q hQ => push_mem hQ), okr, ⟨w3, ?_, k1, onC_tr on1 k2⟩, fun u n hcm => ?_⟩
      · unfold D_X11_plays
        rw [hc1, d_isOver m.1 h6 hB.2.2.2.1 hB.2.2.2.2.2, bc_eq, if_neg (fun z => ho (over_iff.mp z)), if_pos rfl, e1, bv_eq, e2', bc_eq, if_pos (by decide), if_pos (by decide), show (0 : Int32).toNatClampNeg = 0 from by decide, show (1 : Int32).toNatClampNeg = 1 from by decide]
        have p0 : w2.1 2 0 = nI ((plN c L V j P).2 12) := at_P a2.2 (i := 0) (by decide)
        have p1 : w2.1 2 1 = nI ((plN c L V j P).2 13) := at_P a2.2 (i := 1) (by decide)
        rw [p0, p1, t1, bv_eq]
      · obtain ⟨n', on'⟩ := MR_7 n
        obtain ⟨u1, g1, n1, on1', s1⟩ := MR_push (Or.inl rfl) n' hl n'.2.2.1
        obtain ⟨u2, g2, a2'⟩ := bM_ploop (k := J_X12_plays_x63_1) n1 okr j FU 0 P u1 (by unfold FU; omega) (by omega) hB ⟨qN_rf u1, n1.2.2.1⟩
        obtain ⟨u3, g3, r3, s3⟩ := d_tellM (row0M u2) (by decide) (nI ((plN c L V j P).2 12)).toInt64
        obtain ⟨u4, g4, r4, s4⟩ := d_tellM r3 (by simp) (nI ((plN c L V j P).2 13)).toInt64
        have i3 : isM (wI u2 119 6 0) 120 (plN c L V j P).2 := isM_same (E := []) (F := [6]) (T := []) (Z := []) a2'.2 (sameR_f (by simp)) (by simp) (by decide)
        have i4 : u3.1 120 = eP (plN c L V j P).2 := by rw [s3.1.1 120 (by decide)]; exact i3.1
        have i5 : isM u4 120 (plN c L V j P).2 := ⟨by rw [s4.1.1 120 (by decide)]; exact i4, i3.2⟩
        obtain ⟨k3, k4⟩ := MR_n n1 (qN_tr (qN_up' a2'.1) (qN_tr (qN_of (qM_f (k := 6) (v := 0) (by decide))) (qN_tr (qN_of (qM_tell s3)) (qN_of (qM_tell s4))))) i5 r4
        refine ⟨u4, ?_, k3, came_on hcm (onM_tr on' (onM_tr on1' k4))⟩
        unfold D_X12_plays
        rw [bd_eq, hg1, bc_eq, if_neg (by decide), m_over ln_120 n'.2.2.1 n'.1 hB, bc_eq, if_neg ho, if_pos rfl, g1, bv_eq, ← nI_0, show nI j = nI (0 + j) by rw [Nat.zero_add], g2, Nat.zero_add]
        unfold J_X12_plays_x63_1
        rw [bd_eq, if_pos (by decide), i3.1, show (12 : Int32).toNatClampNeg = 12 from by decide, eP_at, g3, bv_eq, if_pos (by decide), i4, show (13 : Int32).toNatClampNeg = 13 from by decide, eP_at, g4, bv_eq]
