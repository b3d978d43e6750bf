/-! would, worth, best, most, threat, risks, starves -/
section JJ
variable {w : Wd} {c L : Nat} {P : Nat → Nat} {cd : List Int32} {rl : List Nat} {V : (Nat → Int32) → Int32}
theorem JR_of (h : ruleC w cd) (ho : okRl rl cd V) : JR w 106 V := by
  obtain ⟨hS, ⟨-, h2, h3⟩ | ⟨-, h2, h3⟩⟩ := ho
  · subst h2
    exact Or.inl ⟨by rw [h.1]; rfl, h3⟩
  · exact Or.inr ⟨cd, h.2, h.1, okc_len hS h2, h3⟩
theorem JR_greed (h : greedC w) : JR w 109 (fun f => f 0) := by
  refine Or.inr ⟨[-116], fun i x hx => ?_, h.1, by decide, ?_⟩
  · cases i with
    | zero =>
      cases hx
      exact h.2
    | succ i => simp at hx
  · have := blk_th (m := 0) (by decide)
    rw [show -(nI (ltr 0)) = (-116 : Int32) from by decide +kernel] at this
    exact this
end JJ
def mo (x : Int32 × Int32) : Int32 := if x.1 = -1 then -1 else x.2
def chG (c L : Nat) (P : Nat → Nat) : Nat → Int32 × Int32 := chF P (P 14 * c) (fun p => gainS c L (P 14) p P)
theorem chG_ok {c L : Nat} {P : Nat → Nat} (hB : okB c L (P 14) P) {n : Nat} (hn : n ≤ c) : (sumS P (P 14 * c) n = 0 ∧ chG c L P n = (-1, 0)) ∨ (sumS P (P 14 * c) n ≠ 0 ∧ ∃ p g, p < n ∧ P (P 14 * c + p) ≠ 0 ∧ chG c L P n = (nI p, nI g) ∧ g < 400000) := by
  have h6 := hB.2.1
  rcases chF_ok (P := P) (b := P 14 * c) (v := fun p => gainS c L (P 14) p P) n (by omega) with h | ⟨h, p, h1, h2, h3⟩
  · exact Or.inl h
  · obtain ⟨g1, g2, -⟩ := gainS_nat hB (p := p) (by omega)
    refine Or.inr ⟨h, p, _, h1, h2, ?_, g2⟩
    unfold chG
    rw [h3, g1]
theorem imax_nI {g : Nat} (hg : g < 400000) : imax 0 (nI g) = nI g := by
  unfold imax
  by_cases h : g = 0
  · subst h
    decide
  · rw [if_pos (by rw [nI_0']; exact nI_lt (by omega) (by omega))]
theorem m1_lt {g : Nat} (hg : g < 400000) : (-1 : Int32) < nI g := by
  rw [Int32.lt_iff_toInt_lt, nI_toInt (by omega)]
  have : (-1 : Int32).toInt = -1 := by decide
  omega
section MO
variable {a c L : Nat} {P : Nat → Nat}
theorem m_moloop (hla : ln a = 16) (ha9 : a ≠ 119) (ha0 : a ≠ 130) (hB : okB c L (P 14) P) : ∀ (m p fu : Nat) (w : Wd), m + p = c → m < fu → isM w a P → arrM w → w.1 119 1 = nI c → w.1 119 2 = nI L → w.1 119 28 = (chG c L P p).1 → ∃ w', L_X12_mostOf_9 a J_X12_mostOf_x74_2 fu (mo (chG c L P p)) (nI p) w = some ((chG c L P c).2, w') ∧ w'.1 119 28 = (chG c L P c).1 ∧ qM FM0 [] w w' ∧ sameR [130] [19, 20, 21, 28] [] [] w w' := by
  have h6 := hB.2.1
  intro m
  induction m with
  | zero =>
    intro p fu w hp hf h hr hc hL h28
    obtain ⟨fu, rfl⟩ : ∃ n', fu = n' + 1 := ⟨fu - 1, by omega⟩
    have : p = c := by omega
    subst this
    refine ⟨w, ?_, h28, qM_rf w, sameR_rf w⟩
    unfold L_X12_mostOf_9
    rw [hc, if_pos (nI_le (Nat.le_refl _) (by omega))]
    show some (imax 0 (mo (chG p L P p)), w) = _
    rcases chG_ok hB (Nat.le_refl p) with ⟨-, e⟩ | ⟨-, q, g, h1, -, e, hg⟩
    · rw [e]; rfl
    · rw [e]
      show some (imax 0 (if nI q = -1 then -1 else nI g), w) = _
      rw [if_neg (nI_nm (by omega)), imax_nI hg]
  | succ m ih =>
    intro p fu w hp hf h hr hc hL h28
    obtain ⟨fu, rfl⟩ : ∃ n', fu = n' + 1 := ⟨fu - 1, by omega⟩
    unfold L_X12_mostOf_9
    rw [hc, if_neg (nI_ge (by omega) (by omega)), d_refuses hla h.1 hc hB.1 h6 hB.2.2.2.1 hB.2.2.2.2.2 (by omega), bc_eq, bd_eq]
    unfold rfS
    have e : chG c L P (p + 1) = if P (P 14 * c + p) = 0 then chG c L P p else if (chG c L P p).1 = -1 ∨ (chG c L P p).2 < gainS c L (P 14) p P then (nI p, gainS c L (P 14) p P) else chG c L P p := rfl
    by_cases h0 : P (P 14 * c + p) = 0
    · rw [if_pos h0, if_neg (by decide)]
      rw [if_pos h0] at e
      unfold J_X12_mostOf_j68_1
      rw [bd_eq, nI_1, ← e]
      exact ih (p + 1) fu w (by omega) (by omega) h hr hc hL (by rw [e]; exact h28)
    · rw [if_neg h0, if_pos (by decide)]
      rw [if_neg h0] at e
      obtain ⟨w1, w2, e1, e2, i2, s2, q2, f19, -, -⟩ := m_try (b := 130) (p := p) hla (by decide) ha0 h hr hc hL hB (by omega)
      obtain ⟨g1, g2, -⟩ := gainS_nat hB (p := p) (by omega)
      rw [e1, bv_eq, e2, bv_eq, f19]
      unfold J_X12_mostOf_j68_1
      have fwd : ∀ (w3 : Wd) (x : Int32), sameR [130] [19, 20, 21, 28] [] [] w w3 → qM FM0 [] w w3 → w3.1 119 28 = (chG c L P (p + 1)).1 → x = mo (chG c L P (p + 1)) → ∃ w', L_X12_mostOf_9 a J_X12_mostOf_x74_2 fu x (nI (p + 1)) w3 = some ((chG c L P c).2, w') ∧ w'.1 119 28 = (chG c L P c).1 ∧ qM FM0 [] w w' ∧ sameR [130] [19, 20, 21, 28] [] [] w w' := by
        intro w3 x s3 q3 h3 hx
        subst hx
        obtain ⟨w', r1, r2, r3, r4⟩ := ih (p + 1) fu w3 (by omega) (by omega) (isM_same h s3 (by simpa using ha0) ha9) (q3.2 hr) ((s3.2.1 1 (by simp)).trans hc) ((s3.2.1 2 (by simp)).trans hL) h3
        exact ⟨w', r1, r2, qM_tr q3 r3, sameR_tr s3 r4⟩
      have s2' : sameR [130] [19, 20, 21, 28] [] [] w w2 := sameR_sub s2 (by simp) (by decide) (by simp) (by simp)
      by_cases hc1 : (chG c L P p).1 = -1 ∨ (chG c L P p).2 < gainS c L (P 14) p P
      · rw [if_pos hc1] at e
        have hlt : mo (chG c L P p) < gainS c L (P 14) p P := by
          unfold mo
          by_cases hc2 : (chG c L P p).1 = -1
          · rw [if_pos hc2, g1]
            exact m1_lt g2
          · rw [if_neg hc2]
            exact hc1.resolve_left hc2
        rw [if_pos hlt, bd_eq, bd_eq, bd_eq, nI_1]
        refine fwd (wI w2 119 28 (nI p)) _ (sameR_tr s2' (sameR_f (by simp))) (qM_tr q2 (qM_f (by decide))) (by rw [wI_at, e]) ?_
        rw [e]
        show _ = if nI p = -1 then -1 else gainS c L (P 14) p P
        rw [if_neg (nI_nm (by omega))]
      · rw [if_neg hc1] at e
        have hlt : ¬ mo (chG c L P p) < gainS c L (P 14) p P := by
          unfold mo
          rw [if_neg (fun z => hc1 (Or.inl z))]
          exact fun z => hc1 (Or.inr z)
        rw [if_neg hlt, bd_eq, nI_1]
        exact fwd w2 _ s2' q2 (by rw [s2.2.1 28 (by simp), h28, e]) (by rw [e])
theorem m_mostOf {w : Wd} (hla : ln a = 16) (ha9 : a ≠ 119) (ha0 : a ≠ 130) (hB : okB c L (P 14) P) (h : isM w a P) (hr : arrM w) (hc : w.1 119 1 = nI c) (hL : w.1 119 2 = nI L) : ∃ w', D_X12_mostOf a w = some ((chG c L P c).2, w') ∧ w'.1 119 28 = (chG c L P c).1 ∧ qM FM0 [] w w' := by
  have s0 : sameR [] [28] [] [] w (wI w 119 28 (-1)) := sameR_f (by simp)
  have q0 : qM FM0 [] w (wI w 119 28 (-1)) := qM_f (by decide)
  obtain ⟨w', r1, r2, r3, -⟩ := m_moloop hla ha9 ha0 hB c 0 FU (wI w 119 28 (-1)) rfl (by have := hB.2.1; unfold FU; omega) (isM_same h s0 (by simp) ha9) (q0.2 hr) ((s0.2.1 1 (by simp)).trans hc) ((s0.2.1 2 (by simp)).trans hL) wI_at
  rw [nI_0] at r1
  exact ⟨w', r1, r2, qM_tr q0 r3⟩
end MO
section QW
theorem arrM_of {u : Wd} {c L : Nat} {P : Nat → Nat} {hs : List (Nat → Nat)} {tx rl : List Nat} {kp : Nat → Option (Nat → Nat)} {cl si : List (Int32 × Int32)} {rw : List Int64} (n : MR u c L P hs tx rl kp cl si rw) : arrM u := n.2.2.2.2.2.2.2.2.2.2
/-- the reference lays thrown to 0 and goes on -/
theorem MR_7 {u : Wd} {c L : Nat} {P : Nat → Nat} {hs : List (Nat → Nat)} {tx rl : List Nat} {kp : Nat → Option (Nat → Nat)} {cl si : List (Int32 × Int32)} {rw : List Int64} (n : MR u c L P hs tx rl kp cl si rw) : MR (wI u 119 7 0) c L P hs tx rl kp cl si rw ∧ onM u (wI u 119 7 0) := MR_q0 n (qM_f (by decide))
theorem q_would (x : Int32) : Quest (D_X11_would x) (D_X12_would x) := by
  intro w c L P hs tx rl cd V kp cl si rw B m ok okr
  have hB := okB_of ok
  have h6 := hB.2.1
  rcases arg_cases c (by omega) x with hx | ⟨p, hp, rfl⟩
  · refine ⟨-1, rw, okS_rw ok, ⟨w, ?_, m, onC_rf w⟩, fun u n => ⟨_, ?_, (MR_7 n).1, (MR_7 n).2⟩⟩
    · unfold D_X11_would
      rw [d_refusal_no (isAt_c m.1) hx, bc_eq, if_neg (by decide)]
    · unfold D_X12_would
      rw [bd_eq, d_refuses_no (MR_7 n).1.1 hB.1 h6 hx, bc_eq, if_neg (by decide)]
  · by_cases hne : P (P 14 * c + p) = 0
    · refine ⟨-2, rw, okS_rw ok, ⟨w, ?_, m, onC_rf w⟩, fun u n => ⟨_, ?_, (MR_7 n).1, (MR_7 n).2⟩⟩
      · unfold D_X11_would
        rw [d_refusal m.1 h6 hB.2.2.2.1 hB.2.2.2.2.2 hp, bc_eq]
        unfold rfS
        rw [if_pos hne, if_neg (by decide)]
      · unfold D_X12_would
        rw [bd_eq, d_refuses ln_120 (MR_7 n).1.2.2.1.1 (MR_7 n).1.1 hB.1 h6 hB.2.2.2.1 hB.2.2.2.2.2 hp, bc_eq]
        unfold rfS
        rw [if_pos hne, if_neg (by decide)]
    · obtain ⟨w1, e1, q1, a1, -, -, e6, e5, e4⟩ := (c_tryMove m.1 m.2.2.1 hB hp).2 hne
      obtain ⟨w2, e2, r2, s2⟩ := d_tell3 w1 (nI (mv1 c L (P 14) p P).2.2).toInt64 (nI (mv1 c L (P 14) p P).1).toInt64 (nI (mvP c L (P 14) p P 14)).toInt64
      have q2 : qC EC1 [83] w w2 := qC_tr (qC_up q1) (qC_hi s2 (by decide) (by decide) (by decide))
      obtain ⟨k1, k2⟩ := CR_q m q2 r2
      refine ⟨gainS c L (P 14) p P, rowS c L (P 14) p P, (by simp [rowS]), ⟨w2, ?_, k1, k2⟩, fun u n => ?_⟩
      · unfold D_X11_would
        rw [d_refusal m.1 h6 hB.2.2.2.1 hB.2.2.2.2.2 hp, bc_eq]
        unfold rfS
        rw [if_neg hne, if_pos (by decide), m.2.1, e1, bc_eq, e5, e6, a1.1, oP_3, e2, bv_eq, s2.1 84 (by decide), e4]
      · obtain ⟨n', on'⟩ := MR_7 n
        obtain ⟨u1, u2, g1, g2, i2, -, p2, f19, f20, f21⟩ := m_try (a := 120) (b := 129) (p := p) ln_120 (by decide) (by decide) n'.2.2.1 (arrM_of n') n'.1 n'.2.1 hB hp
        obtain ⟨u3, g3, r3, s3⟩ := tellMove_ok (w := u2) (a := 129) rfl i2.1 (by decide) f20 f21
        obtain ⟨k3, k4⟩ := MR_q n' (qM_tr (qM_up p2) (qM_tell s3)) r3
        refine ⟨u3, ?_, k3, onM_tr on' k4⟩
        unfold D_X12_would
        rw [bd_eq, d_refuses ln_120 n'.2.2.1.1 n'.1 hB.1 h6 hB.2.2.2.1 hB.2.2.2.2.2 hp, bc_eq]
        unfold rfS
        rw [if_neg hne, if_pos (by decide), g1, bv_eq, g2, bv_eq, g3, bc_eq, f19]
theorem q_worth (x : Int32) : Quest (D_X11_worth x) (D_X12_worth x) := by
  intro w c L P hs tx rl cd V kp cl si rw B m ok okr
  have hB := okB_of ok
  have h6 := hB.2.1
  rcases arg_cases c (by omega) x with hx | ⟨p, hp, rfl⟩
  · refine ⟨-1, rw, okS_rw ok, ⟨w, ?_, m, onC_rf w⟩, fun u n => ⟨_, ?_, (MR_7 n).1, (MR_7 n).2⟩⟩
    · unfold D_X11_worth
      rw [d_refusal_no (isAt_c m.1) hx, bc_eq, if_neg (by decide)]
    · unfold D_X12_worth
      rw [bd_eq, d_refuses_no (MR_7 n).1.1 hB.1 h6 hx, bc_eq, if_neg (by decide)]
  · by_cases hne : P (P 14 * c + p) = 0
    · refine ⟨-2, rw, okS_rw ok, ⟨w, ?_, m, onC_rf w⟩, fun u n => ⟨_, ?_, (MR_7 n).1, (MR_7 n).2⟩⟩
      · unfold D_X11_worth
        rw [d_refusal m.1 h6 hB.2.2.2.1 hB.2.2.2.2.2 hp, bc_eq]
        unfold rfS
        rw [if_pos hne, if_neg (by decide)]
      · unfold D_X12_worth
        rw [bd_eq, d_refuses ln_120 (MR_7 n).1.2.2.1.1 (MR_7 n).1.1 hB.1 h6 hB.2.2.2.1 hB.2.2.2.2.2 hp, bc_eq]
        unfold rfS
        rw [if_pos hne, if_neg (by decide)]
    · obtain ⟨w1, e1, q1, a1, ef, -, -, -, -⟩ := (c_tryMove m.1 m.2.2.1 hB hp).2 hne
      have hj : JR w 106 V := JR_of m.2.2.2.2.2.2.2.2.2.1 okr
      have hj1 : JR w1 106 V := by
        unfold JR at hj ⊢
        rw [q1.1.1 106 (by decide), q1.1.1 (106 + 1) (by decide)]
        exact hj
      obtain ⟨g, j1⟩ := d_judgeV (mv := 84) hj1 (by decide)
      obtain ⟨w2, e2, r2, s2⟩ := d_tell1 (wR w1 (106 + 2) g) (V (askS c L P p)).toInt64
      have q2 : qC EC1 [83] w w2 := qC_tr (qC_up q1) (qC_tr (qC_hi (E' := [108]) (T' := []) (same_but (but_wR (by simp))) (by decide) (by decide) (by simp)) (qC_hi s2 (by decide) (by decide) (by decide)))
      obtain ⟨k1, k2⟩ := CR_q m q2 r2
      refine ⟨0, [(V (askS c L P p)).toInt64], by simp, ⟨w2, ?_, k1, k2⟩, fun u n => ?_⟩
      · unfold D_X11_worth
        rw [d_refusal m.1 h6 hB.2.2.2.1 hB.2.2.2.2.2 hp, bc_eq]
        unfold rfS
        rw [if_neg hne, if_pos (by decide), m.2.1, e1, bc_eq, j1, bc_eq, ef, e2, bv_eq]
      · obtain ⟨n', on'⟩ := MR_7 n
        obtain ⟨u1, g1, s1, i1⟩ := m_worthOf (a := 120) (p := p) (V := V) (by decide) (by decide) (by decide) ln_120 n'.2.2.1 (arrM_of n' 130 (by decide)) n'.1 n'.2.1 hB hp ⟨rl, cd, n'.2.2.2.2.2.2.2.2.2.1, okr⟩
        have p1 : qM FM0 [] (wI u 119 7 0) u1 := qM_sub (qM_at (r := 130) s1 (by decide) (by decide) (by decide) i1) (by decide) (by simp)
        obtain ⟨u2, g2, r2, s2⟩ := d_tellM (row0M u1) (by decide) (V (askS c L P p)).toInt64
        obtain ⟨k3, k4⟩ := MR_q n' (qM_tr (qM_up p1) (qM_tr (qM_f (k := 6) (v := 0) (by decide)) (qM_tell s2))) r2
        refine ⟨u2, ?_, k3, onM_tr on' k4⟩
        unfold D_X12_worth
        rw [bd_eq, d_refuses ln_120 n'.2.2.1.1 n'.1 hB.1 h6 hB.2.2.2.1 hB.2.2.2.2.2 hp, bc_eq]
        unfold rfS
        rw [if_neg hne, if_pos (by decide), g1, bc_eq, bd_eq, g2, bv_eq]
end QW
