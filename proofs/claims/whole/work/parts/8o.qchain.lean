/-! chain, longest -/
section QC2
variable {c L : Nat} {P0 : Nat → Nat} {w : Wd}
theorem sum_zero {P : Nat → Nat} {b : Nat} : ∀ n, (∀ i, i < n → P (b + i) = 0) → sumS P b n = 0 := by
  intro n
  induction n with
  | zero => intro _; rfl
  | succ n ih =>
    intro h
    show sumS P b n + P (b + n) = 0
    rw [ih (fun i hi => h i (by omega)), h n (by omega)]
theorem kd_root {f : List Nat → List (List Nat)} : ∀ m p, m + p = c → (∀ i, p ≤ i → i < c → P0 (P0 14 * c + i) = 0) ∨ ∃ q tl, kdT c L P0 f [] m p = [q] :: tl ∧ q < c ∧ P0 (P0 14 * c + q) ≠ 0 := by
  intro m
  induction m with
  | zero => intro p hp; exact Or.inl (fun i h1 h2 => by omega)
  | succ m ih =>
    intro p hp
    have e : kdT c L P0 f [] (m + 1) p = (if P0 (P0 14 * c + p) = 0 then [] else (p :: []) :: f (p :: [])) ++ kdT c L P0 f [] m (p + 1) := rfl
    by_cases hz : P0 (P0 14 * c + p) = 0
    · rw [if_pos hz] at e
      rw [e]
      rcases ih (p + 1) (by omega) with h | h
      · refine Or.inl (fun i h1 h2 => ?_)
        by_cases ei : i = p
        · rw [ei]; exact hz
        · exact h i (by omega) h2
      · exact Or.inr h
    · rw [if_neg hz] at e
      exact Or.inr ⟨p, _, e, by omega, hz⟩
theorem fold_ne {lo : Bool} : ∀ (l : List (List Nat)) (b : List Nat), b ≠ [] → [] ∉ l → l.foldl (stF c L P0 lo) b ≠ [] := by
  intro l
  induction l with
  | nil => intro b h _; exact h
  | cons τ l ih =>
    intro b h hn
    refine ih _ ?_ (fun z => hn (List.mem_cons_of_mem _ z))
    unfold stF
    split
    · exact h
    · intro z
      exact hn (by rw [z]; exact List.mem_cons_self)
/-- when it is not OVER there is a best path -/
theorem best_ne (hB : okB c L (P0 14) P0) (ho : overS c P0 ≠ true) (lo : Bool) : (sbT c L P0 true 6 []).foldl (stF c L P0 lo) [] ≠ [] := by
  have es : sbT c L P0 true 6 [] = kdT c L P0 (sbT c L P0 true 5) [] c 0 := if_neg (fun z => z.2 rfl)
  have nn : [] ∉ sbT c L P0 true 6 [] := by
    have := node_ne (c := c) (L := L) (P0 := P0) (ot := true) (M := 6) (r := [])
    intro z
    exact this (List.mem_append_left _ z)
  rcases kd_root (c := c) (L := L) (P0 := P0) (f := sbT c L P0 true 5) c 0 rfl with h | ⟨q, tl, e, hq, hz⟩
  · exact absurd (over_iff.mp (sum_zero c (fun i hi => h i (Nat.zero_le _) hi))) ho
  · rw [es, e] at nn ⊢
    have hst : stF c L P0 lo [] [q] = [q] := by
      unfold stF
      refine if_neg ?_
      cases lo with
      | true => exact (by decide : ¬ nI 1 ≤ nI 0)
      | false =>
        have hm := hB.2.2.2.1
        obtain ⟨g1, g2, g3⟩ := gainS_nat (L := L) hB hq
        have e1 : kyF c L P0 false [q] = gainS c L (P0 14) q P0 := by
          have e2 : psT c L P0 [q] (12 + P0 14) = mvB c L (P0 14) q P0 (12 + P0 14) := mvB_lo (by omega) (by omega)
          show nI (psT c L P0 [q] (12 + P0 14)) - nI (P0 (12 + P0 14)) = _
          rw [e2]
          rfl
        rw [e1, g1]
        intro z
        have : kyF c L P0 false [] = -1 := rfl
        rw [this] at z
        have hlt := m1_lt g2
        exact absurd hlt (Int32.not_lt.mpr z)
    show (tl.foldl (stF c L P0 lo) (stF c L P0 lo [] [q])) ≠ []
    rw [hst]
    exact fold_ne tl [q] (by simp) (fun z => nn (List.mem_cons_of_mem _ z))
theorem kd_ml {f : List Nat → List (List Nat)} {n : Nat} (hf : ∀ s, ∀ τ ∈ f s, τ.length ≤ s.length + n) (r : List Nat) : ∀ m p, ∀ τ ∈ kdT c L P0 f r m p, τ.length ≤ r.length + (n + 1) := by
  intro m
  induction m with
  | zero => intro p τ h; cases h
  | succ m ih =>
    intro p τ h
    unfold kdT at h
    rcases List.mem_append.mp h with z | z
    · split at z
      · cases z
      · rcases List.mem_cons.mp z with z | z
        · rw [z]
          show r.length + 1 ≤ _
          omega
        · have := hf _ τ z
          have e : (p :: r).length = r.length + 1 := rfl
          omega
    · exact ih _ τ z
theorem sb_ml {ot : Bool} : ∀ n r, ∀ τ ∈ sbT c L P0 ot n r, τ.length ≤ r.length + n := by
  intro n
  induction n with
  | zero => intro r τ h; cases h
  | succ n ih =>
    intro r τ h
    unfold sbT at h
    split at h
    · cases h
    · exact kd_ml ih r c 0 τ h
theorem fold_len {lo : Bool} : ∀ (l : List (List Nat)) (b : List Nat), b.length ≤ 6 → (∀ τ ∈ l, τ.length ≤ 6) → (l.foldl (stF c L P0 lo) b).length ≤ 6 := by
  intro l
  induction l with
  | nil => intro b h _; exact h
  | cons τ l ih =>
    intro b h hl
    refine ih _ ?_ (fun s hs => hl s (List.mem_cons_of_mem _ hs))
    unfold stF
    split
    · exact h
    · exact hl τ List.mem_cons_self
theorem best_len {lo : Bool} : ((sbT c L P0 true 6 []).foldl (stF c L P0 lo) []).length ≤ 6 := fold_len _ [] (by decide) (fun τ h => by
  have := sb_ml 6 [] τ h
  have e : ([] : List Nat).length = 0 := rfl
  omega)
theorem m_lcloop {k7 : Wd → Option Wd} {D : Nat} (hD : D ≤ 6) : ∀ (r : List Nat) (fu : Nat) (w : Wd), r.length ≤ D → w.1 119 32 = nI D → rwT w 141 r → rowM w [] → ∃ w1, L_X12_layChain_45 k7 (fu + r.length) (nI 0) w = L_X12_layChain_45 k7 fu (nI r.length) w1 ∧ rowM w1 (pth r) ∧ sameM [] [122] [6] w w1 := by
  intro r
  induction r with
  | nil => intro fu w _ _ _ h; exact ⟨w, rfl, h, sameM_rf w⟩
  | cons p r ih =>
    intro fu w hl h5 hr hc
    have hl2 : (p :: r).length = r.length + 1 := rfl
    obtain ⟨w1, e1, c1, s1⟩ := ih (fu + 1) w (by omega) h5 hr.2 hc
    obtain ⟨w2, e2, c2, s2⟩ := d_tellM c1 (by rw [pth_len]; omega) (nI p).toInt64
    refine ⟨w2, ?_, c2, sameM_tr s1 s2⟩
    · rw [hl2, show fu + (r.length + 1) = fu + 1 + r.length by omega, e1]
      show (if (w1.1 119 32) ≤ nI r.length then _ else _) = _
      rw [s1.2 32 (by decide), h5, if_neg (nI_ge (by omega) (by omega)), if_pos (ib_nI (by omega) (by decide)), nI_clamp (by omega), s1.1.1 141 (by decide), hr.1, e2, bv_eq, bd_eq, nI_1]
theorem m_layChain {u : Wd} {hs : List (Nat → Nat)} {tx rl : List Nat} {kp : Nat → Option (Nat → Nat)} {cl si : List (Int32 × Int32)} {rw : List Int64} (hB : okB c L (P0 14) P0) (n : MR u c L P0 hs tx rl kp cl si rw) (lo : Bool) : ∃ u1, D_X12_layChain (if lo = true then 1 else 0) u = some u1 ∧ qM FM1 [122] u u1 ∧ rowM u1 (pth ((sbT c L P0 true 6 []).foldl (stF c L P0 lo) [])) ∧ u1.1 119 32 = nI ((sbT c L P0 true 6 []).foldl (stF c L P0 lo) []).length ∧ u1.1 119 33 = kyF c L P0 false ((sbT c L P0 true 6 []).foldl (stF c L P0 lo) []) ∧ ((sbT c L P0 true 6 []).foldl (stF c L P0 lo) []).length ≤ 6 := by
  have hm := hB.2.2.2.1
  have q0 : qM FM1 [122] u (wI (wI u 119 32 0) 119 33 (-1)) := qM_tr (qM_f (by decide)) (qM_f (by decide))
  obtain ⟨n1, o1⟩ := MR_q n q0 (rowM_same n.2.2.2.2.2.1 (E := []) (F := [32, 33]) (T := []) (Z := []) (sameR_tr (sameR_f (by simp)) (sameR_f (by simp))) (by simp) (by decide))
  obtain ⟨u2, l2, i2, s2⟩ := m_lay (a := 120) (b := 133) ln_120 (by decide) (by decide) n1.2.2.1 (arrM_of n1)
  have q2 : qM FM1 [122] _ u2 := qM_sub (qM_at (F := []) (T := []) (r := 133) s2 (by decide) (by decide) (by decide) ⟨_, i2⟩) (by simp) (by simp)
  have f32 : u2.1 119 32 = nI 0 := by rw [s2.2.1 32 (by simp), wI_at_ne (by decide), wI_at, nI_0]
  have f33 : u2.1 119 33 = -1 := by rw [s2.2.1 33 (by simp), wI_at]
  obtain ⟨u3, e3, g3, b3⟩ := m_goChain hB lo 6 80 [] [] u2 (by decide) rfl ⟨i2, trivial, q2.2 (arrM_of n1), (s2.2.1 1 (by simp)).trans n1.1, (s2.2.1 2 (by simp)).trans n1.2.1, ⟨by decide, by simp⟩⟩ ⟨f32, f33, trivial, by decide⟩
  rw [if_pos rfl] at b3
  generalize (sbT c L P0 true 6 []).foldl (stF c L P0 lo) [] = b at b3
  obtain ⟨b32, b33, br, b6⟩ := b3
  have hgn : gnT c L P0 [] = 0 := Int32.sub_self _
  rw [hgn, show nI ([] : List Nat).length = 0 from rfl] at e3
  have hrow : rwT (wI u3 119 6 0) 141 b := rwT_keep b (fun i _ => by rw [wI_r (by decide)]) br
  obtain ⟨u4, e4, r4, s4⟩ := m_lcloop (k7 := J_X12_layChain_x70_1) b6 b (FU - b.length) (wI u3 119 6 0) (Nat.le_refl _) (by rw [wI_at_ne (by decide)]; exact b32) hrow (row0M u3)
  rw [nI_0, show FU - b.length + b.length = FU by unfold FU; omega] at e4
  have t14 : u2.1 120 14 = nI (P0 14) := by rw [s2.1 120 (by decide) (by decide), n1.2.2.1.1, eP_at]
  refine ⟨u4, ?_, qM_tr q0 (qM_tr q2 (qM_tr (gr_qM g3 (by decide) (by simp)) (qM_tr (qM_f (by decide)) (qM_tell s4)))), r4, ?_, ?_, b6⟩
  · unfold D_X12_layChain
    rw [bd_eq, bd_eq, if_pos (by decide), bd_eq, show 133 + (0 : Int32).toNatClampNeg = 133 from by decide, l2, bv_eq, if_pos (by decide), show (14 : Int32).toNatClampNeg = 14 from by decide, t14]
    unfold D_X12_goChain
    rw [e3, bv_eq, bd_eq, e4, show FU - b.length = (FU - b.length - 1) + 1 by unfold FU; omega]
    show (if (u4.1 119 32) ≤ nI b.length then _ else _) = _
    rw [s4.2 32 (by decide), wI_at_ne (by decide), b32, if_pos (nI_le (Nat.le_refl _) (by omega))]
    rfl
  · rw [s4.2 32 (by decide), wI_at_ne (by decide)]; exact b32
  · rw [s4.2 33 (by decide), wI_at_ne (by decide)]; exact b33
end QC2
theorem ET_EC : ∀ a ∈ ET, a ∈ EC1 := by decide
theorem qT_up {w w1 : Wd} (q : qC ET [] w w1) : qC EC1 [83] w w1 := ⟨same_sub q.1 ET_EC (by simp), q.2⟩
theorem q_chain : Quest D_X11_chain D_X12_chain := by
  intro w c L P hs tx rl cd V kp cl si rw B m ok okr
  have hB := okB_of ok
  have ov : D_X5_isOver 0 w = some (if overS c P = true then 1 else 0, w) := by
    rw [d_isOver m.1 hB.2.1 hB.2.2.2.1 hB.2.2.2.2.2]
    by_cases e : overS c P = true
    · rw [if_pos e, if_pos (over_iff.mpr e)]
    · rw [if_neg e, if_neg (fun z => e (over_iff.mp z))]
  by_cases ho : overS c P = true
  · refine ⟨-2, rw, okS_rw ok, ⟨w, ?_, m, onC_rf w⟩, fun u n => ⟨_, ?_, (MR_7 n).1, (MR_7 n).2⟩⟩
    · unfold D_X11_chain
      rw [ov, bc_eq, if_pos ho, if_neg (by decide)]
    · unfold D_X12_chain
      rw [bd_eq, m_over ln_120 (MR_7 n).1.2.2.1 (MR_7 n).1.1 hB, bc_eq, if_pos ho, if_neg (by decide)]
  · obtain ⟨w1, e1, T1, q1⟩ := c_start (ot := true) (M := 6) hB (by decide) m.1 m.2.2.1
    have hsz := szT_le (n := 6) hB.2.1 (by decide)
    have hln := sbT_len (c := c) (L := L) (P0 := P) (ot := true) 6 []
    obtain ⟨w2, e2, q2, r2⟩ := c_chloop2 (k4 := J_X11_chain_x111_2) hB (sbT c L P true 6 []) FU 0 [] [] w1 (by unfold FU; omega) (by omega) T1 (isAt_same m.1 q1.1 (by decide)) (by show sbT c L P true 6 [] ++ [] = _; rw [List.append_nil]) (fun z => absurd rfl z)
    have hne := best_ne (L := L) hB ho false
    have hb6 := fun u n => m_layChain (u := u) (hs := hs) (tx := tx) (rl := rl) (kp := kp) (cl := cl) (si := si) (rw := rw) hB n false
    obtain ⟨k1, k2⟩ := CR_q m (qC_tr (qT_up q1) q2) (r2 hne)
    have hl6 : (pth ((sbT c L P true 6 []).foldl (stF c L P false) [])).length ≤ 20 := by
      rw [pth_len]
      exact Nat.le_trans best_len (by decide)
    refine ⟨kyF c L P false ((sbT c L P true 6 []).foldl (stF c L P false) []), _, hl6, ⟨w2, ?_, k1, k2⟩, fun u n => ?_⟩
    · unfold D_X11_chain
      have e2' : L_X11_chain_35 J_X11_chain_x111_2 FU (-1) 0 w1 = _ := e2
      have e1' : D_X10_start 0 6 1 (nI L) w = some w1 := e1
      rw [ov, bc_eq, if_neg ho, if_pos rfl, m.2.1, e1', bv_eq, e2']
      rfl
    · obtain ⟨n', on'⟩ := MR_7 n
      obtain ⟨u1, g1, p1, r1, f32, f33, b6⟩ := hb6 _ n'
      obtain ⟨k3, k4⟩ := MR_q n' p1 r1
      refine ⟨u1, ?_, k3, onM_tr on' k4⟩
      unfold D_X12_chain
      have g1' : D_X12_layChain 0 (wI u 119 7 0) = some u1 := g1
      rw [bd_eq, m_over ln_120 n'.2.2.1 n'.1 hB, bc_eq, if_neg ho, if_pos rfl, g1', bv_eq, f33]
theorem q_longest : Quest D_X11_longest D_X12_longest := by
  intro w c L P hs tx rl cd V kp cl si rw B m ok okr
  have hB := okB_of ok
  have ov : D_X5_isOver 0 w = some (if overS c P = true then 1 else 0, w) := by
    rw [d_isOver m.1 hB.2.1 hB.2.2.2.1 hB.2.2.2.2.2]
    by_cases e : overS c P = true
    · rw [if_pos e, if_pos (over_iff.mpr e)]
    · rw [if_neg e, if_neg (fun z => e (over_iff.mp z))]
  by_cases ho : overS c P = true
  · refine ⟨-2, rw, okS_rw ok, ⟨w, ?_, m, onC_rf w⟩, fun u n => ⟨_, ?_, (MR_7 n).1, (MR_7 n).2⟩⟩
    · unfold D_X11_longest
      rw [ov, bc_eq, if_pos ho, if_neg (by decide)]
    · unfold D_X12_longest
      rw [bd_eq, m_over ln_120 (MR_7 n).1.2.2.1 (MR_7 n).1.1 hB, bc_eq, if_pos ho, if_neg (by decide)]
  · obtain ⟨w1, e1, T1, q1⟩ := c_start (ot := true) (M := 6) hB (by decide) m.1 m.2.2.1
    have hsz := szT_le (n := 6) hB.2.1 (by decide)
    have hln := sbT_len (c := c) (L := L) (P0 := P) (ot := true) 6 []
    obtain ⟨w2, e2, q2, r2⟩ := c_lgloop (k4 := J_X11_longest_x88_2) hB (sbT c L P true 6 []) FU 0 [] [] w1 (by unfold FU; omega) (by omega) T1 (isAt_same m.1 q1.1 (by decide)) (by show sbT c L P true 6 [] ++ [] = _; rw [List.append_nil]) (fun z => absurd rfl z)
    have hne := best_ne (L := L) hB ho true
    have hb6 := fun u n => m_layChain (u := u) (hs := hs) (tx := tx) (rl := rl) (kp := kp) (cl := cl) (si := si) (rw := rw) hB n true
    obtain ⟨k1, k2⟩ := CR_q m (qC_tr (qT_up q1) q2) (r2 hne)
    have hl6 : (pth ((sbT c L P true 6 []).foldl (stF c L P true) [])).length ≤ 20 := by
      rw [pth_len]
      exact Nat.le_trans best_len (by decide)
    refine ⟨kyF c L P true ((sbT c L P true 6 []).foldl (stF c L P true) []), _, hl6, ⟨w2, ?_, k1, k2⟩, fun u n => ?_⟩
    · unfold D_X11_longest
      have e2' : L_X11_longest_35 J_X11_longest_x88_2 FU 0 0 w1 = _ := e2
      have e1' : D_X10_start 0 6 1 (nI L) w = some w1 := e1
      rw [ov, bc_eq, if_neg ho, if_pos rfl, m.2.1, e1', bv_eq, e2']
      rfl
    · obtain ⟨n', on'⟩ := MR_7 n
      obtain ⟨u1, g1, p1, r1, f32, f33, b6⟩ := hb6 _ n'
      obtain ⟨k3, k4⟩ := MR_q n' p1 r1
      refine ⟨u1, ?_, k3, onM_tr on' k4⟩
      unfold D_X12_longest
      have g1' : D_X12_layChain 1 (wI u 119 7 0) = some u1 := g1
      rw [bd_eq, m_over ln_120 n'.2.2.1 n'.1 hB, bc_eq, if_neg ho, if_pos rfl, g1', bv_eq, f32]
      rfl
