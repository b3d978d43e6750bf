/-! keep, again, count -/
section KP
variable {w w' : Wd} {c L : Nat} {P P' : Nat → Nat} {hs hs' : List (Nat → Nat)} {tx rl : List Nat} {cd : List Int32} {V : (Nat → Int32) → Int32} {kp kp' : Nat → Option (Nat → Nat)} {cl si : List (Int32 × Int32)} {rw : List Int64} {B : Nat}
def setK (kp : Nat → Option (Nat → Nat)) (i : Nat) (P : Nat → Nat) : Nat → Option (Nat → Nat) := fun k => if k = i then some P else kp k
theorem setK_i {i : Nat} : setK kp i P i = some P := if_pos rfl
theorem setK_ne {i j : Nat} (h : j ≠ i) : setK kp i P j = kp j := if_neg h
theorem okS_keep {i : Nat} (hB : B < 90000) (h : okS c L P hs tx kp cl si rw B) : okS c L P hs tx (setK kp i P) cl si rw (B + 108) := by
  obtain ⟨h1, h2, h3, ⟨h4, h5⟩, ⟨h6, h7⟩, h8, h9, h10, h11, h12, h13⟩ := h
  refine ⟨h1, h2, h3, ⟨h4, by omega⟩, ⟨h6, fun Q hQ => ⟨(h7 Q hQ).1, by have := (h7 Q hQ).2; omega⟩⟩, h8, fun j Q hj hQ => ?_, h10, h11, h12, by omega⟩
  by_cases e : j = i
  · subst e
    rw [setK_i] at hQ
    cases hQ
    exact ⟨h4, by omega⟩
  · rw [setK_ne e] at hQ
    exact ⟨(h9 j Q hj hQ).1, by have := (h9 j Q hj hQ).2; omega⟩
theorem CR_keep {i : Nat} (hi : i < 2) (m : CR w c L P hs tx cd kp cl si rw) : CR (wI (pW w (9 + 3 * i) c P) 77 i 1) c L P hs tx cd (setK kp i P) cl si rw ∧ onC w (wI (pW w (9 + 3 * i) c P) 77 i 1) := by
  generalize hw : wI (pW w (9 + 3 * i) c P) 77 i 1 = w1
  have b1 : but [9 + 3 * i, 9 + 3 * i + 1, 9 + 3 * i + 2, 77] w w1 := by
    rw [← hw]
    exact but_tr (but_sub pW_but (by simp)) (but_wI (by simp))
  have hE : ∀ a ∈ [9 + 3 * i, 9 + 3 * i + 1, 9 + 3 * i + 2, 77], (9 ≤ a ∧ a < 15) ∨ a = 77 := by
    intro a ha
    simp only [List.mem_cons, List.not_mem_nil, or_false] at ha
    omega
  have s : same [9 + 3 * i, 9 + 3 * i + 1, 9 + 3 * i + 2, 77] [] w w1 := same_but b1
  have no : ∀ a, (a < 9 ∨ 15 ≤ a) → a ≠ 77 → a ∉ [9 + 3 * i, 9 + 3 * i + 1, 9 + 3 * i + 2, 77] := fun a h1 h2 z => by have := hE a z; omega
  have hat : isAt w1 (9 + 3 * i) c P := by rw [← hw]; exact isAt_wI (by omega) (pW_at _ _ _ _)
  obtain ⟨m1, m2, m3, m4, m5, m6, m7, m8, m9, m10, m11⟩ := m
  refine ⟨⟨isAt_same m1 s (fun a z => by have := hE a z; omega), by rw [s.1 75 (no _ (by decide) (by decide))]; exact m2, posC_at ⟨by omega, by omega⟩ s (fun a z => ?_) ⟨_, _, hat⟩ m3, histC_same m4 s (fun a z => by have := hE a z; omega), textC_same m5 s (no _ (by decide) (by decide)) (no _ (by decide) (by decide)), rowC_same m6 s (no _ (by decide) (by decide)) (by simp), fun j hj => ?_, noteC_same m8 s (no _ (by decide) (by decide)) (no _ (by decide) (by decide)) (no _ (by decide) (by decide)), noteC_same m9 s (no _ (by decide) (by decide)) (no _ (by decide) (by decide)) (no _ (by decide) (by decide)), ruleC_same m10 s (no _ (by decide) (by decide)) (no _ (by decide) (by decide)), greedC_same m11 s (no _ (by decide) (by decide)) (no _ (by decide) (by decide))⟩, onC_same s (fun a z => by have := hE a z; omega) (by simp)⟩
  · simp only [List.mem_cons, List.not_mem_nil, or_false] at z
    omega
  · by_cases e : j = i
    · subst e
      rw [setK_i]
      refine ⟨by rw [← hw, wI_at]; rfl, fun Q hQ => ?_⟩
      cases hQ
      exact hat
    · rw [setK_ne e]
      obtain ⟨z1, z2⟩ := m7 j hj
      refine ⟨?_, fun Q hQ => isAt_same (z2 Q hQ) s (fun a z => ?_)⟩
      · rw [← hw, wI_at_ne e, pW_ne (by omega) (by omega) (by omega)]
        exact z1
      · simp only [List.mem_cons, List.not_mem_nil, or_false] at z
        omega
theorem bool1 : vp_nar .boolean 1 = 1 := by decide
theorem t_keep (x : Int32) : Two (D_X11_keep x) (D_X12_keep x) := by
  intro w c L P hs tx rl cd V kp cl si rw B hBB m ok okr
  rcases rng_cases x 0 1 (by decide) (by decide) with hx | ⟨i, -, hi, rfl⟩
  · refine two_no 0 hBB m ok okr ?_ (fun u n => ?_)
    · unfold D_X11_keep
      rw [nI_0] at hx
      by_cases h1 : x < 0
      · rw [if_pos h1]
      · have h2 : ¬ x < 2 := by
          have := hx.resolve_left h1
          obtain ⟨j, hj, rfl⟩ := nI_of h1
          have : 1 < j := (nI_ltI (by decide) hj).mp this
          rw [nI_2']
          exact nI_nlt (by omega) hj
        rw [if_neg h1, if_neg h2]
    · unfold D_X12_keep
      rw [bd_eq, nI_0', nI_1', in_no (by decide) (by decide) hx, bc_eq, if_pos nI_0.symm]
  · obtain ⟨c', P', hq⟩ := m.2.2.1 (9 + 3 * i) ⟨by omega, by omega⟩
    obtain ⟨k1, k2⟩ := CR_keep (i := i) (by omega) m
    refine ⟨1, c, L, P, hs, tx, rl, cd, V, setK kp i P, cl, si, rw, okS_keep hBB ok, okr, ⟨_, ?_, k1, k2⟩, fun u n hcm => ?_⟩
    · unfold D_X11_keep
      rw [if_neg (nI_pos (by omega)), nI_2', if_pos (nI_lt (by omega) (by decide)), if_pos (ib_nI (by omega) (by decide)), bd_eq, nI_clamp (by omega), d_take (by omega) (by decide) (by omega) hq m.1, bv_eq, bd_eq, bool1, if_pos (ib_nI (by omega) (by decide))]
    · obtain ⟨n', on'⟩ := MR_7 n
      obtain ⟨cm, hcm1, hcm2⟩ := hcm
      have f51 : (wI u 119 7 0).1 119 51 = nI cm := by rw [wI_at_ne (by decide)]; exact hcm2
      generalize hu1 : wI (wI (wI u 119 7 0) 159 i 1) 160 i (nI cm) = u1
      have s1 : sameR [158, 159, 160] [] [] [] (wI u 119 7 0) u1 := by rw [← hu1]; exact sameR_tr (sameR_r (by simp) (by decide)) (sameR_r (by simp) (by decide))
      have hlay := d_layG (w := u1) (a := 120) (b := 158) (k0 := 16 * i) (by decide) (by decide) (by show 16 * i + 16 ≤ 32; omega) (by decide) (by decide)
      generalize hu2 : wR u1 158 (fun j => if 16 * i ≤ j ∧ j < 16 * i + 16 then u1.1 120 (j - 16 * i) else u1.1 158 j) = u2 at hlay
      have s2 : sameR [158, 159, 160] [] [] [] (wI u 119 7 0) u2 := by rw [← hu2]; exact sameR_tr s1 (sameR_wR (by simp) (by decide))
      have r159 : ∀ j, u2.1 159 j = if j = i then 1 else u.1 159 j := by
        intro j
        rw [← hu2, wR_ne (by decide), ← hu1, wI_r (by decide)]
        by_cases e : j = i
        · subst e; rw [if_pos rfl, wI_at]
        · rw [if_neg e, wI_at_ne e, wI_r (by decide)]
      have r160 : ∀ j, u2.1 160 j = if j = i then nI cm else u.1 160 j := by
        intro j
        rw [← hu2, wR_ne (by decide), ← hu1]
        by_cases e : j = i
        · subst e; rw [if_pos rfl, wI_at]
        · rw [if_neg e, wI_at_ne e, wI_r (by decide), wI_r (by decide)]
      have r158 : ∀ j, u2.1 158 j = if 16 * i ≤ j ∧ j < 16 * i + 16 then nI (P (j - 16 * i)) else u.1 158 j := by
        intro j
        rw [← hu2, wR_self, s1.1 120 (by decide) (by decide), n'.2.2.1.1, ← hu1, wI_r (by decide), wI_r (by decide), wI_r (by decide)]
        rfl
      obtain ⟨n1, n2, n3, n4, n5, n6, n7, n8, n9, n10, n11⟩ := n'
      have k7 : keptM u2 (setK kp i P) := by
        obtain ⟨cm', c1, c2, c3⟩ := n.2.2.2.2.2.2.1
        have ecm : cm' = cm := by
          rw [c2] at hcm2
          exact (nI_eq (by omega) (by omega)).mp hcm2
        subst ecm
        refine ⟨cm', c1, by rw [s2.2.1 51 (by simp)]; exact f51, fun j hj => ?_⟩
        by_cases e : j = i
        · subst e
          rw [setK_i]
          refine ⟨cm', Nat.le_refl _, by rw [r160, if_pos rfl], Or.inr (by rw [r159, if_pos rfl]), ⟨fun _ => ⟨by rw [r159, if_pos rfl], rfl⟩, fun _ => rfl⟩, fun Q hQ k hk => ?_⟩
          cases hQ
          rw [r158, if_pos (by omega), show 16 * j + k - 16 * j = k by omega]
        · rw [setK_ne e]
          obtain ⟨kc, d1, d2, d3, d4, d5⟩ := c3 j hj
          refine ⟨kc, d1, by rw [r160, if_neg e]; exact d2, by rw [r159, if_neg e]; exact d3, by rw [r159, if_neg e]; exact d4, fun Q hQ k hk => ?_⟩
          rw [r158, if_neg (by omega)]
          exact d5 Q hQ k hk
      have k3 : MR u2 c L P hs tx rl (setK kp i P) cl si rw := ⟨(s2.2.1 1 (by decide)).trans n1, (s2.2.1 2 (by decide)).trans n2, isM_same n3 s2 (by decide) (by decide), histM_same n4 s2 (by decide) (by decide), textM_same n5 s2 (by decide) (by decide), rowM_same n6 s2 (by decide) (by decide), k7, heardM_same n8 s2 (by decide) (by decide) (by decide), sawM_same n9 s2 (by decide) (by decide) (by decide), ruleM_same n10 s2 (by decide) (by decide) (by decide) (by decide) (by decide), arrM_same n11 s2 (by decide)⟩
      refine ⟨u2, ?_, k3, came_on ⟨cm, hcm1, hcm2⟩ (onM_tr on' (onM_sameR s2 (by decide) (by decide) (by decide)))⟩
      unfold D_X12_keep
      rw [bd_eq, nI_0', nI_1', in_yes (by omega) (by omega) hi (by decide), bc_eq, if_neg (by decide), if_pos (ib_nI (by omega) (by decide)), bd_eq, nI_clamp (by omega), if_pos (ib_nI (by omega) (by decide)), bd_eq, wI_r (show (119 : Nat) ≠ 159 by decide), nI_0, f51, ← nI_1', bool1, hu1, n16, pk_mul, hlay, bv_eq]
theorem t_again (x : Int32) : Two (D_X11_again x) (D_X12_again x) := by
  intro w c L P hs tx rl cd V kp cl si rw B hBB m ok okr
  rcases rng_cases x 0 1 (by decide) (by decide) with hx | ⟨i, -, hi, rfl⟩
  · refine two_no 0 hBB m ok okr ?_ (fun u n => ?_)
    · unfold D_X11_again
      rw [nI_0] at hx
      by_cases h1 : x < 0
      · rw [if_pos h1]
      · have h2 : (2 : Int32) ≤ x := by
          have := hx.resolve_left h1
          obtain ⟨j, hj, rfl⟩ := nI_of h1
          have : 1 < j := (nI_ltI (by decide) hj).mp this
          rw [nI_2']
          exact nI_le (by omega) hj
        rw [if_neg h1, if_pos h2]
    · unfold D_X12_again
      rw [bd_eq, nI_0', nI_1', in_no (by decide) (by decide) hx, bc_eq, if_pos nI_0.symm]
  · have hc0 : D_X11_again (nI i) w = if w.1 77 i = 0 then some (0, w) else (bv (D_X5_take 0 (9 + 3 * i) w) fun w2 => bv (D_X0_clear w2) fun w3 => some (1, w3)) := by
      unfold D_X11_again
      rw [if_neg (nI_pos (by omega)), nI_2', if_neg (nI_ge (by omega) (by decide)), if_pos (ib_nI (by omega) (by decide)), if_pos (ib_nI (by omega) (by decide)), nI_clamp (by omega), bd_eq]
    have hg0 : ∀ u, D_X12_again (nI i) u = if (wI u 119 7 0).1 159 i = 0 then some (0, wI u 119 7 0) else if (wI u 119 7 0).1 160 i = (wI u 119 7 0).1 119 51 then L_X12_again_40 (nI i) J_X12_again_x69_1 FU 0 (wI u 119 7 0) else some (0, wI u 119 7 0) := by
      intro u
      unfold D_X12_again
      rw [bd_eq, nI_0', nI_1', in_yes (by omega) (by omega) hi (by decide), bc_eq, nI_0, if_neg (show ¬ (1 : Int32) = 0 by decide), if_pos (ib_nI (by omega) (by decide)), if_pos (ib_nI (by omega) (by decide)), nI_clamp (by omega)]
    obtain ⟨z1, z2⟩ := m.2.2.2.2.2.2.1 i (by omega)
    cases hk : kp i with
    | none =>
      rw [hk] at z1
      have z1 : w.1 77 i = 0 := z1
      refine two_no 0 hBB m ok okr ?_ (fun u n => ?_)
      · rw [hc0, if_pos z1]
      · obtain ⟨cm, c1, c2, c3⟩ := (MR_7 n).1.2.2.2.2.2.2.1
        obtain ⟨kc, d1, d2, d3, d4, d5⟩ := c3 i (by omega)
        rw [hg0]
        by_cases h0 : (wI u 119 7 0).1 159 i = 0
        · rw [if_pos h0]
        · rw [if_neg h0, if_neg]
          rw [d2, c2, nI_eq (by omega) (by omega)]
          intro e
          have := d4.mpr ⟨d3.resolve_left h0, e⟩
          rw [hk] at this
          cases this
    | some Q =>
      rw [hk] at z1
      have z1 : w.1 77 i = 1 := z1
      have hat := z2 Q hk
      obtain ⟨q14, qt⟩ := ok.2.2.2.2.2.2.1 i Q (by omega) hk
      have hd : D_X11_again (nI i) w = some (1, wI (pW w 0 c Q) 78 2 0) := by
        rw [hc0, if_neg (by rw [z1]; decide), d_take (by decide) (by omega) (by omega) m.1 hat, bv_eq]
        rfl
      have s2 : same [78, 0, 1, 2] [] w (wI (pW w 0 c Q) 78 2 0) := same_tr (same_sub (same_but (T := []) (pW_but (q := 0))) (by decide) (by simp)) (same_wI (by simp))
      have a2 : isAt (wI (pW w 0 c Q) 78 2 0) 0 c (trim Q) := isAt_trim (isAt_wI (by decide) (pW_at _ _ _ _))
      have hh' : histC (wI (pW w 0 c Q) 78 2 0) c [] := by
        obtain ⟨nx, n1, n2, n3, n4, n5⟩ := m.2.2.2.1
        refine ⟨nx, n1, by simp, ?_, ?_, fun i R hi => by simp at hi⟩
        · rw [wI_at_ne (by decide), pW_ne (by decide) (by decide) (by decide)]
          exact n3
        · rw [wI_at]
          rfl
      obtain ⟨k1, k2⟩ := CR_hist m s2 (by decide) a2 hh'
      refine ⟨1, c, L, trim Q, [], tx, rl, cd, V, kp, cl, si, rw, okS_pos hBB ok (okS_rw ok) (by rw [trim_lo (by decide)]; exact q14) (by rw [tot_trim]; omega) (by simp) (fun R hR => by simp at hR), okr, ⟨_, hd, k1, k2⟩, fun u n hcm => ?_⟩
      obtain ⟨n', on'⟩ := MR_7 n
      obtain ⟨cm, c1, c2, c3⟩ := n'.2.2.2.2.2.2.1
      obtain ⟨kc, d1, d2, d3, d4, d5⟩ := c3 i (by omega)
      obtain ⟨d6, d7⟩ := d4.mp (by rw [hk]; rfl)
      have lp := loop_again (u := wI u 119 7 0) (h := i) (k := J_X12_again_x69_1) (G := (wI u 119 7 0).1 120) (by omega) 16 0 FU (by decide) (by unfold FU; omega)
      rw [copy_id, nI_0] at lp
      generalize hu2 : wR (wI u 119 7 0) 120 (fun j => if j < 16 then (wI u 119 7 0).1 158 (16 * i + j) else (wI u 119 7 0).1 120 j) = u2 at lp
      have s3 : sameR [120] [23] [] [] (wI u 119 7 0) (wI u2 119 23 0) := by rw [← hu2]; exact sameR_tr (sameR_wR (by simp) (by decide)) (sameR_f (by simp))
      have i2 : isM (wI u2 119 23 0) 120 (trim Q) := by
        refine ⟨?_, trim_hi⟩
        rw [wI_r (by decide), ← hu2, wR_self]
        funext j
        by_cases hj : j < 16
        · rw [if_pos hj, d5 Q hk j hj]
          unfold eP
          rw [trim_lo hj]
        · rw [if_neg hj, n'.2.2.1.1]
          unfold eP
          rw [trim_hi j (by omega), n'.2.2.1.2 j (by omega)]
      have hhm : histM (wI u2 119 23 0) [] := ⟨by rw [wI_at]; rfl, fun i R hi => by simp at hi⟩
      obtain ⟨k3, k4⟩ := MR_hist n' s3 i2 hhm
      refine ⟨_, ?_, k3, came_on hcm (onM_tr on' k4)⟩
      rw [hg0, if_neg (by rw [d6]; decide), if_pos (by rw [d2, c2, d7]), lp]
      rfl
theorem q_count (x : Int32) : Quest (D_X11_count x) (D_X12_count x) := by
  intro w c L P hs tx rl cd V kp cl si rw B m ok okr
  have hB := okB_of ok
  have h6 := hB.2.1
  obtain ⟨m1, m2, m3, ⟨nx, x1, x2, x3, x4, x5⟩, m5, m6, m7, m8, m9, m10, m11⟩ := id m
  have main : ∀ r, D_X11_count x w = some (r, w) → (∀ u, MR u c L P hs tx rl kp cl si rw → D_X12_count x u = some (r, wI u 119 7 0)) → ∃ r rw', rw'.length ≤ 20 ∧ (∃ w1, D_X11_count x w = some (r, w1) ∧ CR w1 c L P hs tx cd kp cl si rw' ∧ onC w w1) ∧ ∀ u, MR u c L P hs tx rl kp cl si rw → ∃ u1, D_X12_count x u = some (r, u1) ∧ MR u1 c L P hs tx rl kp cl si rw' ∧ onM u u1 :=
    fun r h1 h2 => ⟨r, rw, okS_rw ok, ⟨w, h1, m, onC_rf w⟩, fun u n => ⟨_, h2 u n, (MR_7 n).1, (MR_7 n).2⟩⟩
  unfold D_X11_count D_X12_count at *
  by_cases e0 : x = 0
  · simp only [e0, if_true, bd_eq] at *
    exact main (nI c) (by rw [isAt_c m1]) (fun u n => by rw [(MR_7 n).1.1])
  by_cases e1 : x = 1
  · simp only [e1, if_true, bd_eq] at *
    refine main (nI (P 14)) (by simp [isAt_m m1]) (fun u n => by simp [show ib 14 16 = true by decide, show (14 : Int32).toNatClampNeg = 14 by decide, (MR_7 n).1.2.2.1.1, eP_at])
  by_cases e2 : x = 2
  · simp only [e2, if_true, bd_eq] at *
    refine main (nI (P 15)) (by simp [m1.1, oP_4]) (fun u n => by simp [show ib 15 16 = true by decide, show (15 : Int32).toNatClampNeg = 15 by decide, (MR_7 n).1.2.2.1.1, eP_at])
  simp only [if_neg e0, if_neg e1, if_neg e2, bd_eq] at main ⊢
  by_cases e3 : x = 3
  · simp only [if_pos e3] at main ⊢
    refine main (nI (sumS P 0 (2 * c))) (by rw [d_inPits m1 h6, bc_eq]) (fun u n => by rw [d_pits12 (MR_7 n).1.1, bc_eq, m_inPits (MR_7 n).1.2.2.1.1 h6, bc_eq])
  simp only [if_neg e3] at main ⊢
  by_cases e4 : x = 4
  · simp only [if_pos e4] at main ⊢
    refine main (if overS c P = true then 1 else 0) ?_ (fun u n => ?_)
    · rw [d_isOver m1 h6 hB.2.2.2.1 hB.2.2.2.2.2, bc_eq]
      by_cases ho : overS c P = true
      · rw [if_pos (over_iff.mpr ho), if_pos ho, if_neg (by decide)]
      · rw [if_neg (fun z => ho (over_iff.mp z)), if_neg ho, if_pos rfl]
    · rw [m_over ln_120 (MR_7 n).1.2.2.1 (MR_7 n).1.1 hB, bc_eq]
      by_cases ho : overS c P = true
      · rw [if_pos ho, if_neg (by decide)]
      · rw [if_neg ho, if_pos rfl]
  simp only [if_neg e4] at main ⊢
  by_cases e5 : x = 5
  · simp only [if_pos e5] at main ⊢
    exact main (nI L) (by rw [m2]) (fun u n => by rw [(MR_7 n).1.2.1])
  simp only [if_neg e5] at main ⊢
  by_cases e6 : x = 6
  · simp only [if_pos e6] at main ⊢
    exact main (nI cl.length) (by rw [m8.2.1]) (fun u n => by rw [(MR_7 n).1.2.2.2.2.2.2.2.1.1])
  simp only [if_neg e6] at main ⊢
  by_cases e7 : x = 7
  · simp only [if_pos e7] at main ⊢
    exact main (nI si.length) (by rw [m9.2.1]) (fun u n => by rw [(MR_7 n).1.2.2.2.2.2.2.2.2.1.1])
  simp only [if_neg e7] at main ⊢
  by_cases e8 : x = 8
  · simp only [if_pos e8] at main ⊢
    exact main (nI hs.length) (by rw [x4]) (fun u n => by rw [(MR_7 n).1.2.2.2.1.1])
  simp only [if_neg e8] at main ⊢
  by_cases e9 : x = 9
  · simp only [if_pos e9] at main ⊢
    exact main (nI rw.length) (by rw [m6.1]) (fun u n => by rw [(MR_7 n).1.2.2.2.2.2.1.1])
  simp only [if_neg e9] at main ⊢
  by_cases e10 : x = 10
  · simp only [if_pos e10] at main ⊢
    exact main (nI tx.length) (by rw [m5.1]) (fun u n => by rw [(MR_7 n).1.2.2.2.2.1.1])
  simp only [if_neg e10] at main ⊢
  exact main (-1) rfl (fun u n => rfl)
end KP
