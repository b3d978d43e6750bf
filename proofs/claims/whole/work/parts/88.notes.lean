/-! one call over both: the same answer, and the relation again; rule, heard, forget, saw, denies -/
def Rel (B : Nat) (w : Wd) : Prop := ∃ (c L : Nat) (P : Nat → Nat) (hs : List (Nat → Nat)) (tx rl : List Nat) (cd : List Int32) (V : (Nat → Int32) → Int32) (kp : Nat → Option (Nat → Nat)) (cl si : List (Int32 × Int32)) (rw : List Int64), CR w c L P hs tx cd kp cl si rw ∧ MR w c L P hs tx rl kp cl si rw ∧ okS c L P hs tx kp cl si rw B ∧ okRl rl cd V ∧ cameM B w
def Call (f g : Wd → Option (Int32 × Wd)) : Prop := ∀ (B : Nat) (w : Wd), B < 90000 → Rel B w → ∃ r w1 w2, f w = some (r, w1) ∧ g w1 = some (r, w2) ∧ Rel (B + 108) w2
theorem came_onC {B : Nat} {w w1 : Wd} (h : cameM B w) (o : onC w w1) : cameM B w1 := by
  obtain ⟨cm, h1, h2⟩ := h
  exact ⟨cm, h1, by rw [o.1 119 (by decide)]; exact h2⟩
theorem call_two {f g : Wd → Option (Int32 × Wd)} (h : Two f g) : Call f g := by
  intro B w hB ⟨c, L, P, hs, tx, rl, cd, V, kp, cl, si, rw, m, n, ok, okr, hc⟩
  obtain ⟨r, c', L', P', hs', tx', rl', cd', V', kp', cl', si', rw', ok', okr', ⟨w1, e1, k1, o1⟩, hM⟩ := h w c L P hs tx rl cd V kp cl si rw B hB m ok okr
  obtain ⟨w2, e2, k2, o2, c2⟩ := hM w1 (MR_on o1 n) (came_onC hc o1)
  exact ⟨r, w1, w2, e1, e2, c', L', P', hs', tx', rl', cd', V', kp', cl', si', rw', CR_on0 o2 k1, k2, ok', okr', c2⟩
theorem call_rule : Call D_X11_rule D_X12_rule := by
  intro B w hB ⟨c, L, P, hs, tx, rl, cd, V, kp, cl, si, rw, m, n, ok, okr, hc⟩
  obtain ⟨hl, hx⟩ := ok.2.2.2.2.2.1
  have ok' : okS c L P hs [] kp cl si rw (B + 108) := okS_text hB ok (by simp) (by simp)
  obtain ⟨w1, o1, h1⟩ := c_rule m hl hx
  obtain ⟨w2, o2, h2⟩ := m_rule (MR_on o1 n) hl hx
  have c2 := (came_on (came_onC hc o1) o2).2
  rcases h1 with ⟨q, hne, hf, e1, k1⟩ | ⟨cd', hcd, e1, k1⟩
  · rcases h2 with ⟨q', -, hf', e2, k2⟩ | ⟨htx, e2, k2⟩
    · have := fl_uniq hf hf'
      subst this
      exact ⟨_, w1, w2, e1, e2, c, L, P, hs, [], rl, cd, V, kp, cl, si, rw, CR_on o2 k1, k2, ok', okr, c2⟩
    · exfalso
      rcases htx with e | ⟨-, cd', V', ⟨dg, cm, W, O, hcl, -⟩, -⟩
      · exact hne e
      · exact fl_not hcl hf
  · rcases h2 with ⟨q', hne, hf', e2, k2⟩ | ⟨htx, e2, k2⟩
    · exfalso
      rcases hcd with ⟨e, -⟩ | ⟨-, dg, cm, W, O, hcl, -⟩
      · exact hne e
      · exact fl_not hcl hf'
    · refine ⟨_, w1, w2, e1, e2, c, L, P, hs, [], tx, cd', ?_⟩
      rcases hcd with ⟨e, e'⟩ | ⟨hne, hok⟩
      · exact ⟨V0, kp, cl, si, rw, CR_on o2 k1, k2, ok', ⟨hx, Or.inl ⟨e, e', rfl⟩⟩, c2⟩
      · rcases htx with e | ⟨-, cd2, V', hok2, hblk⟩
        · exact absurd e hne
        · have := okc_fun hok hok2
          subst this
          exact ⟨V', kp, cl, si, rw, CR_on o2 k1, k2, ok', ⟨hx, Or.inr ⟨hne, hok, hblk⟩⟩, c2⟩
section NO
variable {w w' u u' : Wd} {c L : Nat} {P : Nat → Nat} {hs : List (Nat → Nat)} {tx rl : List Nat} {cd : List Int32} {V : (Nat → Int32) → Int32} {kp : Nat → Option (Nat → Nat)} {cl si cl' si' : List (Int32 × Int32)} {rw : List Int64} {B : Nat}
theorem CR_clue (m : CR w c L P hs tx cd kp cl si rw) (s : same [112, 113, 114] [] w w') (h : noteC w' 112 12 cl') : CR w' c L P hs tx cd kp cl' si rw ∧ onC w w' := by
  obtain ⟨m1, m2, m3, m4, m5, m6, m7, m8, m9, m10, m11⟩ := m
  exact ⟨⟨isAt_same m1 s (by decide), by rw [s.1 75 (by decide)]; exact m2, posC_same m3 s (by decide), histC_same m4 s (by decide), textC_same m5 s (by decide) (by decide), rowC_same m6 s (by decide) (by decide), keptC_same m7 s (by decide), h, noteC_same m9 s (by decide) (by decide) (by decide), ruleC_same m10 s (by decide) (by decide), greedC_same m11 s (by decide) (by decide)⟩, onC_same s (by decide) (by simp)⟩
theorem CR_sight (m : CR w c L P hs tx cd kp cl si rw) (s : same [115, 116, 117] [] w w') (h : noteC w' 115 10 si') : CR w' c L P hs tx cd kp cl si' rw ∧ onC w w' := by
  obtain ⟨m1, m2, m3, m4, m5, m6, m7, m8, m9, m10, m11⟩ := m
  exact ⟨⟨isAt_same m1 s (by decide), by rw [s.1 75 (by decide)]; exact m2, posC_same m3 s (by decide), histC_same m4 s (by decide), textC_same m5 s (by decide) (by decide), rowC_same m6 s (by decide) (by decide), keptC_same m7 s (by decide), noteC_same m8 s (by decide) (by decide) (by decide), h, ruleC_same m10 s (by decide) (by decide), greedC_same m11 s (by decide) (by decide)⟩, onC_same s (by decide) (by simp)⟩
theorem MR_clue (n : MR u c L P hs tx rl kp cl si rw) (s : sameR [152, 153] [7, 43] [] [] u u') (h : heardM u' cl') : MR u' c L P hs tx rl kp cl' si rw ∧ onM u u' := by
  obtain ⟨n1, n2, n3, n4, n5, n6, n7, n8, n9, n10, n11⟩ := n
  exact ⟨⟨(s.2.1 1 (by decide)).trans n1, (s.2.1 2 (by decide)).trans n2, isM_same n3 s (by decide) (by decide), histM_same n4 s (by decide) (by decide), textM_same n5 s (by decide) (by decide), rowM_same n6 s (by decide) (by decide), keptM_same n7 s (by decide) (by decide) (by decide) (by decide), h, sawM_same n9 s (by decide) (by decide) (by decide), ruleM_same n10 s (by decide) (by decide) (by decide) (by decide) (by decide), arrM_same n11 s (by decide)⟩, onM_sameR s (by decide) (by decide) (by decide)⟩
theorem MR_sight (n : MR u c L P hs tx rl kp cl si rw) (s : sameR [154, 155] [7, 46] [] [] u u') (h : sawM u' si') : MR u' c L P hs tx rl kp cl si' rw ∧ onM u u' := by
  obtain ⟨n1, n2, n3, n4, n5, n6, n7, n8, n9, n10, n11⟩ := n
  exact ⟨⟨(s.2.1 1 (by decide)).trans n1, (s.2.1 2 (by decide)).trans n2, isM_same n3 s (by decide) (by decide), histM_same n4 s (by decide) (by decide), textM_same n5 s (by decide) (by decide), rowM_same n6 s (by decide) (by decide), keptM_same n7 s (by decide) (by decide) (by decide) (by decide), heardM_same n8 s (by decide) (by decide) (by decide), h, ruleM_same n10 s (by decide) (by decide) (by decide) (by decide) (by decide), arrM_same n11 s (by decide)⟩, onM_sameR s (by decide) (by decide) (by decide)⟩
theorem okS_cl (hB : B < 90000) (h : okS c L P hs tx kp cl si rw B) (hl : cl'.length ≤ 12) (hs' : si'.length ≤ 10 ∧ ∀ q ∈ si', q.2 ≠ -1) : okS c L P hs tx kp cl' si' rw (B + 108) := by
  obtain ⟨a1, a2, a3, a4, a5, a6, a7, -, -, a8⟩ := okS_mono hB h (okS_rw h)
  exact ⟨a1, a2, a3, a4, a5, a6, a7, hl, hs', a8⟩
theorem app_get {l : List (Int32 × Int32)} {x y a b : Int32} {i : Nat} (h : (l ++ [(x, y)])[i]? = some (a, b)) : (i = l.length ∧ a = x ∧ b = y) ∨ (i < l.length ∧ l[i]? = some (a, b)) := by
  by_cases e : i = l.length
  · subst e
    rw [List.getElem?_append_right (Nat.le_refl _), Nat.sub_self] at h
    cases h
    exact Or.inl ⟨rfl, rfl, rfl⟩
  · have hb : i < (l ++ [(x, y)]).length := (List.getElem?_eq_some_iff.mp h).1
    rw [List.length_append, show [(x, y)].length = 1 from rfl] at hb
    rw [List.getElem?_append_left (by omega)] at h
    exact Or.inr ⟨by omega, h⟩
end NO
theorem told_hi : ∀ i, i ≤ 4 → (told5 i = nI (if i = 0 then 1 else if i = 4 then 1 else if i = 3 then 5 else 9)) ∧ ∀ u : Wd, D_X12_highOf (nI i) u = some (told5 i, u) := by
  intro i hi
  rcases (by omega : i = 0 ∨ i = 1 ∨ i = 2 ∨ i = 3 ∨ i = 4) with e | e | e | e | e <;> subst e <;> exact ⟨by decide +kernel, fun u => rfl⟩
theorem t_heard (x y : Int32) : Two (D_X11_heard x y) (D_X12_heard x y) := by
  intro w c L P hs tx rl cd V kp cl si rw B hBB m ok okr
  have n4 : (4 : Int32) = nI 4 := by decide +kernel
  have n5 : (5 : Int32) = nI 5 := by decide +kernel
  have hl := ok.2.2.2.2.2.2.2.1
  rcases rng_cases x 0 4 (by decide) (by decide) with hx | ⟨i, -, hi, rfl⟩
  · refine two_no (-1) hBB m ok okr ?_ (fun u n => ?_)
    · unfold D_X11_heard
      rw [nI_0] at hx
      by_cases h1 : x < 0
      · rw [if_pos h1]
      · obtain ⟨j, hj, rfl⟩ := nI_of h1
        have : 4 < j := (nI_ltI (by decide) hj).mp (hx.resolve_left h1)
        rw [if_neg h1, n5, if_pos (nI_le (by omega) hj)]
    · unfold D_X12_heard
      rw [bd_eq, n4, in_no0 (by decide) hx, bc_eq, if_pos rfl]
  · obtain ⟨ht, hh⟩ := told_hi i hi
    have hti : (if i = 0 then 1 else if i = 4 then 1 else if i = 3 then 5 else 9) ≤ 9 := by
      split
      · decide
      · split
        · decide
        · split <;> decide
    generalize (if i = 0 then 1 else if i = 4 then 1 else if i = 3 then 5 else 9) = tt at ht hti
    have hc0 : D_X11_heard (nI i) y w = if y < 0 then some (-1, w) else if y ≤ nI tt then (bc (D_X2_add 112 (nI i) y w) fun x2 w1 => if x2 = 0 then (some ((-1), w1)) else (some (w1.1 112 3, w1))) else some (-1, w) := by
      unfold D_X11_heard
      rw [if_neg (nI_pos (by omega)), n5, if_neg (nI_ge (by omega) (by decide)), if_pos (ib_nI (by omega) (by decide)), nI_clamp (by omega), ht]
    rcases rng_cases y 0 tt (by decide) (by omega) with hy | ⟨j, -, hj, rfl⟩
    · refine two_no (-1) hBB m ok okr ?_ (fun u n => ?_)
      · rw [hc0]
        rw [nI_0] at hy
        by_cases h1 : y < 0
        · rw [if_pos h1]
        · rw [if_neg h1, if_neg (Int32.not_le.mpr (hy.resolve_left h1))]
      · unfold D_X12_heard
        rw [bd_eq, n4, in_yes0 hi (by decide), bc_eq, if_neg (by decide), hh, bc_eq, ht, in_no0 (by omega) hy, bc_eq, if_pos rfl]
    · have hg0 : ∀ u, D_X12_heard (nI i) (nI j) u = if (wI u 119 7 0).1 119 43 = 12 then some (-1, wI u 119 7 0) else (if ib ((wI u 119 7 0).1 119 43) 12 then bd (wI (wI u 119 7 0) 152 ((wI u 119 7 0).1 119 43).toNatClampNeg (nI i)) (fun w8 => if ib (w8.1 119 43) 12 then bd (wI w8 153 (w8.1 119 43).toNatClampNeg (nI j)) (fun w9 => bd (wI w9 119 43 ((w9.1 119 43) + 1)) fun w10 => some (w10.1 119 43, w10)) else none) else none) := by
        intro u
        unfold D_X12_heard
        rw [bd_eq, n4, in_yes0 hi (by decide), bc_eq, if_neg (by decide), hh, bc_eq, ht, in_yes0 hj (by omega), bc_eq, if_neg (by decide)]
      have hcl := m.2.2.2.2.2.2.2.1
      by_cases h12 : cl.length = 12
      · refine two_no (-1) hBB m ok okr ?_ (fun u n => ?_)
        · rw [hc0, if_neg (nI_pos (by omega)), if_pos (nI_le hj (by omega)), d_note_full hcl (by decide) h12, bc_eq, if_pos rfl]
        · rw [hg0, (MR_7 n).1.2.2.2.2.2.2.2.1.1, h12, if_pos (by decide +kernel)]
      · obtain ⟨w1, e1, c1, b1, f3⟩ := d_note (a := nI i) (b := nI j) hcl (by decide) (by omega)
        obtain ⟨k1, k2⟩ := CR_clue m (same_but b1) c1
        refine ⟨nI (cl.length + 1), c, L, P, hs, tx, rl, cd, V, kp, cl ++ [(nI i, nI j)], si, rw, okS_cl hBB ok (by simp; omega) ok.2.2.2.2.2.2.2.2.1, okr, ⟨w1, ?_, k1, k2⟩, fun u n hcm => ?_⟩
        · rw [hc0, if_neg (nI_pos (by omega)), if_pos (nI_le hj (by omega)), e1, bc_eq, if_neg (by decide), f3]
        · obtain ⟨n', on'⟩ := MR_7 n
          have hm := n'.2.2.2.2.2.2.2.1
          have sU : sameR [152, 153] [7, 43] [] [] (wI u 119 7 0) (wI (wI (wI (wI u 119 7 0) 152 cl.length (nI i)) 153 cl.length (nI j)) 119 43 (nI (cl.length + 1))) := sameR_tr (sameR_tr (sameR_r (by simp) (by decide)) (sameR_r (by simp) (by decide))) (sameR_f (by simp))
          obtain ⟨k3, k4⟩ := MR_clue (cl' := cl ++ [(nI i, nI j)]) n' sU ⟨by rw [wI_at, List.length_append]; rfl, fun k a b hk => by
            rw [wI_r (show (152 : Nat) ≠ 119 by decide), wI_r (show (152 : Nat) ≠ 153 by decide), wI_r (show (153 : Nat) ≠ 119 by decide)]
            rcases app_get hk with ⟨h1, h2, h3⟩ | ⟨h1, h2⟩
            · rw [h1, wI_at, wI_at, h2, h3]
              exact ⟨rfl, rfl⟩
            · rw [wI_at_ne (by omega), wI_at_ne (by omega), wI_r (by decide)]
              exact hm.2 k a b h2⟩
          refine ⟨_, ?_, k3, came_on hcm (onM_tr on' k4)⟩
          rw [hg0, hm.1, if_neg (by rw [n12, nI_eq (by omega) (by decide)]; exact h12), if_pos (ib_nI (by omega) (by decide)), bd_eq, wI_r (show (119 : Nat) ≠ 152 by decide), hm.1, if_pos (ib_nI (by omega) (by decide)), bd_eq, bd_eq, nI_clamp (by omega), wI_r (show (119 : Nat) ≠ 153 by decide), wI_r (show (119 : Nat) ≠ 152 by decide), hm.1, nI_1, wI_at]
theorem t_saw (x y : Int32) : Two (D_X11_saw x y) (D_X12_saw x y) := by
  intro w c L P hs tx rl cd V kp cl si rw B hBB m ok okr
  have n5 : (5 : Int32) = nI 5 := by decide +kernel
  have n6 : (6 : Int32) = nI 6 := by decide +kernel
  have n10 : (10 : Int32) = nI 10 := by decide +kernel
  have n11 : (11 : Int32) = nI 11 := by decide +kernel
  have hl := ok.2.2.2.2.2.2.2.2.1
  -- is it a place
  have place : (y < nI 0 ∨ nI 11 < y) ∧ y ≠ 50 ∨ ((y = 50 ∨ ∃ j, j ≤ 11 ∧ y = nI j) ∧ y ≠ -1) := by
    by_cases h : y = 50
    · exact Or.inr ⟨Or.inl h, by rw [h]; decide⟩
    · rcases rng_cases y 0 11 (by decide) (by decide) with hy | ⟨j, -, hj, e⟩
      · exact Or.inl ⟨hy, h⟩
      · exact Or.inr ⟨Or.inr ⟨j, hj, e⟩, by rw [e]; exact nI_nm (by omega)⟩
  have hcb : ∀ b : Int32, (∀ k3 : Int32 → Wd → Option (Int32 × Wd), (bd (J_X11_saw_j16_2 k3) fun k7 => bd (J_X11_saw_j10_1 y k7 k3) fun k9 => if y < 0 then (k9 w) else (if y < 12 then (k7 w) else (k9 w))) = k3 b w) → D_X11_saw x y w = J_X11_saw_j21_3 x y b w := by
    intro b h
    unfold D_X11_saw
    rw [bd_eq, h]
  have hpl : (y < nI 0 ∨ nI 11 < y) ∧ y ≠ 50 → D_X11_saw x y w = J_X11_saw_j21_3 x y 0 w := by
    rintro ⟨h1, h2⟩
    refine hcb 0 (fun k3 => ?_)
    rw [bd_eq, bd_eq]
    by_cases h0 : y < 0
    · rw [if_pos h0]
      unfold J_X11_saw_j10_1
      rw [if_neg h2]
    · obtain ⟨j, hj, rfl⟩ := nI_of h0
      have : 11 < j := (nI_ltI (by decide) hj).mp (h1.resolve_left (by rw [nI_0]; exact h0))
      rw [if_neg h0, n12, if_neg (nI_nlt (by omega) hj)]
      unfold J_X11_saw_j10_1
      rw [if_neg h2]
  have hpl2 : (y = 50 ∨ ∃ j, j ≤ 11 ∧ y = nI j) → D_X11_saw x y w = J_X11_saw_j21_3 x y 1 w := by
    rintro (h | ⟨j, hj, rfl⟩)
    · refine hcb 1 (fun k3 => ?_)
      rw [bd_eq, bd_eq, h, if_neg (by decide), if_neg (by decide)]
      unfold J_X11_saw_j10_1
      rw [if_pos rfl]
      rfl
    · refine hcb 1 (fun k3 => ?_)
      rw [bd_eq, bd_eq, if_neg (nI_pos (by omega)), n12, if_pos (nI_lt (by omega) (by decide))]
      rfl
  rcases rng_cases x 0 5 (by decide) (by decide) with hx | ⟨i, -, hi, rfl⟩
  · refine two_no (-1) hBB m ok okr ?_ (fun u n => ?_)
    · have key : ∀ b, J_X11_saw_j21_3 x y b w = some (-1, w) := by
        intro b
        unfold J_X11_saw_j21_3
        rw [nI_0] at hx
        by_cases h1 : x < 0
        · rw [if_pos h1]
        · obtain ⟨j, hj, rfl⟩ := nI_of h1
          have : 5 < j := (nI_ltI (by decide) hj).mp (hx.resolve_left h1)
          rw [if_neg h1, n6, if_pos (nI_le (by omega) hj)]
      rcases place with h | h
      · rw [hpl h, key]
      · rw [hpl2 h.1, key]
    · unfold D_X12_saw
      rw [bd_eq, n5, in_no0 (by decide) hx, bc_eq, if_pos rfl]
  · rcases place with h | ⟨h, hm1⟩
    · refine two_no (-1) hBB m ok okr ?_ (fun u n => ?_)
      · rw [hpl h]
        unfold J_X11_saw_j21_3
        rw [if_neg (nI_pos (by omega)), n6, if_neg (nI_ge (by omega) (by decide)), if_pos rfl]
      · unfold D_X12_saw
        rw [bd_eq, n5, in_yes0 hi (by decide), bc_eq, if_neg (by decide), n11, in_no0 (by decide) h.1, bc_eq, bd_eq, if_pos rfl, if_neg h.2]
    · have hc0 : D_X11_saw (nI i) y w = (bc (D_X2_add 115 (nI i) y w) fun x5 w4 => if x5 = 0 then (some ((-1), w4)) else (some (w4.1 115 3, w4))) := by
        rw [hpl2 h]
        unfold J_X11_saw_j21_3
        rw [if_neg (nI_pos (by omega)), n6, if_neg (nI_ge (by omega) (by decide)), if_neg (by decide)]
      have hg0 : ∀ u, D_X12_saw (nI i) y u = J_X12_saw_j30_1 (nI i) y (wI u 119 7 0) := by
        intro u
        unfold D_X12_saw
        rw [bd_eq, n5, in_yes0 hi (by decide), bc_eq, if_neg (by decide), n11]
        rcases h with h | ⟨j, hj, rfl⟩
        · rw [h, in_no0 (by decide) (Or.inr (by decide)), bc_eq, bd_eq, if_pos rfl, if_pos rfl]
        · rw [in_yes0 hj (by decide), bc_eq, bd_eq, if_neg (by decide)]
      have hsi := m.2.2.2.2.2.2.2.2.1
      by_cases h10 : si.length = 10
      · refine two_no (-1) hBB m ok okr ?_ (fun u n => ?_)
        · rw [hc0, d_note_full hsi (by decide) h10, bc_eq, if_pos rfl]
        · rw [hg0]
          unfold J_X12_saw_j30_1
          rw [(MR_7 n).1.2.2.2.2.2.2.2.2.1.1, h10, if_pos (by decide +kernel)]
      · obtain ⟨w1, e1, c1, b1, f3⟩ := d_note (a := nI i) (b := y) hsi (by decide) (by omega)
        obtain ⟨k1, k2⟩ := CR_sight m (same_but b1) c1
        refine ⟨nI (si.length + 1), c, L, P, hs, tx, rl, cd, V, kp, cl, si ++ [(nI i, y)], rw, okS_cl hBB ok ok.2.2.2.2.2.2.2.1 ⟨by simp; omega, fun q hq => ?_⟩, okr, ⟨w1, ?_, k1, k2⟩, fun u n hcm => ?_⟩
        · rcases List.mem_append.mp hq with z | z
          · exact hl.2 q z
          · rw [List.mem_singleton.mp z]
            exact hm1
        · rw [hc0, e1, bc_eq, if_neg (by decide), f3]
        · obtain ⟨n', on'⟩ := MR_7 n
          have hm := n'.2.2.2.2.2.2.2.2.1
          have sU : sameR [154, 155] [7, 46] [] [] (wI u 119 7 0) (wI (wI (wI (wI u 119 7 0) 154 si.length (nI i)) 155 si.length y) 119 46 (nI (si.length + 1))) := sameR_tr (sameR_tr (sameR_r (by simp) (by decide)) (sameR_r (by simp) (by decide))) (sameR_f (by simp))
          obtain ⟨k3, k4⟩ := MR_sight (si' := si ++ [(nI i, y)]) n' sU ⟨by rw [wI_at, List.length_append]; rfl, fun k a b hk => by
            rw [wI_r (show (154 : Nat) ≠ 119 by decide), wI_r (show (154 : Nat) ≠ 155 by decide), wI_r (show (155 : Nat) ≠ 119 by decide)]
            rcases app_get hk with ⟨h1, h2, h3⟩ | ⟨h1, h2⟩
            · rw [h1, wI_at, wI_at, h2, h3]
              exact ⟨rfl, rfl⟩
            · rw [wI_at_ne (by omega), wI_at_ne (by omega), wI_r (by decide)]
              exact hm.2 k a b h2⟩
          refine ⟨_, ?_, k3, came_on hcm (onM_tr on' k4)⟩
          rw [hg0]
          unfold J_X12_saw_j30_1
          rw [hm.1, if_neg (by rw [n10, nI_eq (by omega) (by decide)]; exact h10), if_pos (ib_nI (by omega) (by decide)), bd_eq, wI_r (show (119 : Nat) ≠ 154 by decide), hm.1, if_pos (ib_nI (by omega) (by decide)), bd_eq, bd_eq, nI_clamp (by omega), wI_r (show (119 : Nat) ≠ 155 by decide), wI_r (show (119 : Nat) ≠ 154 by decide), hm.1, nI_1, wI_at]
theorem t_forget : Two D_X11_forget D_X12_forget := by
  intro w c L P hs tx rl cd V kp cl si rw B hBB m ok okr
  have hcl := m.2.2.2.2.2.2.2.1
  obtain ⟨k1, k2⟩ := CR_clue (cl' := []) m (same_wI (w := w) (i := 112) (k := 3) (v := 0) (by simp)) ⟨by rw [wI_at_ne (by decide)]; exact hcl.1, by rw [wI_at]; rfl, fun i a b h => by simp at h⟩
  refine ⟨nI cl.length, c, L, P, hs, tx, rl, cd, V, kp, [], si, rw, okS_cl hBB ok (by simp) ok.2.2.2.2.2.2.2.2.1, okr, ⟨_, ?_, k1, k2⟩, fun u n hcm => ?_⟩
  · unfold D_X11_forget D_X2_clear
    rw [bd_eq, bd_eq, hcl.2.1, bc_eq]
  · obtain ⟨n', on'⟩ := MR_7 n
    obtain ⟨k3, k4⟩ := MR_clue (cl' := []) n' (sameR_f (k := 43) (v := 0) (by simp)) ⟨by rw [wI_at]; rfl, fun i a b h => by simp at h⟩
    refine ⟨_, ?_, k3, came_on hcm (onM_tr on' k4)⟩
    unfold D_X12_forget
    rw [bd_eq, bd_eq, bd_eq, n'.2.2.2.2.2.2.2.1.1]
theorem t_denies : Two D_X11_denies D_X12_denies := by
  intro w c L P hs tx rl cd V kp cl si rw B hBB m ok okr
  have hsi := m.2.2.2.2.2.2.2.2.1
  obtain ⟨k1, k2⟩ := CR_sight (si' := []) m (same_wI (w := w) (i := 115) (k := 3) (v := 0) (by simp)) ⟨by rw [wI_at_ne (by decide)]; exact hsi.1, by rw [wI_at]; rfl, fun i a b h => by simp at h⟩
  refine ⟨nI si.length, c, L, P, hs, tx, rl, cd, V, kp, cl, [], rw, okS_cl hBB ok ok.2.2.2.2.2.2.2.1 ⟨by simp, fun q hq => by simp at hq⟩, okr, ⟨_, ?_, k1, k2⟩, fun u n hcm => ?_⟩
  · unfold D_X11_denies D_X2_clear
    rw [bd_eq, bd_eq, hsi.2.1, bc_eq]
  · obtain ⟨n', on'⟩ := MR_7 n
    obtain ⟨k3, k4⟩ := MR_sight (si' := []) n' (sameR_f (k := 46) (v := 0) (by simp)) ⟨by rw [wI_at]; rfl, fun i a b h => by simp at h⟩
    refine ⟨_, ?_, k3, came_on hcm (onM_tr on' k4)⟩
    unfold D_X12_denies
    rw [bd_eq, bd_eq, bd_eq, n'.2.2.2.2.2.2.2.2.1.1]
