/-! undo, keep, again, count -/
def trim (Q : Nat → Nat) : Nat → Nat := fun k => if k < 16 then Q k else 0
theorem trim_lo {Q : Nat → Nat} {k : Nat} (h : k < 16) : trim Q k = Q k := if_pos h
theorem trim_hi {Q : Nat → Nat} : ∀ j, 16 ≤ j → trim Q j = 0 := fun j h => if_neg (by omega)
theorem tot_trim {Q : Nat → Nat} : tot (trim Q) = tot Q := sumS_congr 14 (fun i hi => trim_lo (by omega))
theorem isAt_trim {w : Wd} {q c : Nat} {Q : Nat → Nat} (h : isAt w q c Q) : isAt w q c (trim Q) := by
  refine ⟨h.1.trans ?_, h.2.1.trans ?_, h.2.2.trans ?_⟩
  · funext k
    unfold oP
    rw [trim_lo (by decide), trim_lo (by decide)]
  · funext k
    unfold sP
    by_cases hk : k < 12
    · rw [if_pos hk, if_pos hk, trim_lo (by omega)]
    · rw [if_neg hk, if_neg hk]
  · funext k
    unfold tP
    by_cases hk : k < 2
    · rw [if_pos hk, if_pos hk, trim_lo (by omega)]
    · rw [if_neg hk, if_neg hk]
section UN
variable {w w' : Wd} {c L : Nat} {P P' : Nat → Nat} {hs hs' : List (Nat → Nat)} {tx rl : List Nat} {cd : List Int32} {V : (Nat → Int32) → Int32} {kp : Nat → Option (Nat → Nat)} {cl si : List (Int32 × Int32)} {rw : List Int64}
theorem CR_hist {E : List Nat} (m : CR w c L P hs tx cd kp cl si rw) (s : same E [] w w') (hE : ∀ a ∈ E, a < 3 ∨ a = 78) (h0 : isAt w' 0 c P') (hh : histC w' c hs') : CR w' c L P' hs' tx cd kp cl si rw ∧ onC w w' := by
  obtain ⟨m1, m2, m3, m4, m5, m6, m7, m8, m9, m10, m11⟩ := m
  have no : ∀ a, 3 ≤ a → a ≠ 78 → a ∉ E := fun a h1 h2 z => by have := hE a z; omega
  have hp : posC w' := by
    intro q hq
    by_cases e : q = 0
    · subst e
      exact ⟨c, P', h0⟩
    · obtain ⟨c2, P2, z⟩ := m3 q hq
      have h1 := hq.1
      have h2 := hq.2
      exact ⟨c2, P2, isAt_same z s (fun a ha => by have := hE a ha; omega)⟩
  exact ⟨⟨h0, by rw [s.1 75 (no _ (by decide) (by decide))]; exact m2, hp, hh, textC_same m5 s (no _ (by decide) (by decide)) (no _ (by decide) (by decide)), rowC_same m6 s (no _ (by decide) (by decide)) (by simp), keptC_same m7 s (fun a z => by have := hE a z; omega), noteC_same m8 s (no _ (by decide) (by decide)) (no _ (by decide) (by decide)) (no _ (by decide) (by decide)), noteC_same m9 s (no _ (by decide) (by decide)) (no _ (by decide) (by decide)) (no _ (by decide) (by decide)), ruleC_same m10 s (no _ (by decide) (by decide)) (no _ (by decide) (by decide)), greedC_same m11 s (no _ (by decide) (by decide)) (no _ (by decide) (by decide))⟩, onC_same s (fun a z => by have := hE a z; omega) (by simp)⟩
theorem MR_hist (n : MR w c L P hs tx rl kp cl si rw) (s : sameR [120] [23] [] [] w w') (h0 : isM w' 120 P') (hh : histM w' hs') : MR w' c L P' hs' tx rl kp cl si rw ∧ onM w w' := by
  obtain ⟨n1, n2, n3, n4, n5, n6, n7, n8, n9, n10, n11⟩ := n
  exact ⟨⟨(s.2.1 1 (by decide)).trans n1, (s.2.1 2 (by decide)).trans n2, h0, hh, textM_same n5 s (by decide) (by decide), rowM_same n6 s (by decide) (by decide), keptM_same n7 s (by decide) (by decide) (by decide) (by decide), heardM_same n8 s (by decide) (by decide) (by decide), sawM_same n9 s (by decide) (by decide) (by decide), ruleM_same n10 s (by decide) (by decide) (by decide) (by decide) (by decide), arrM_same n11 s (by decide)⟩, onM_sameR s (by decide) (by decide) (by decide)⟩
/-- a row is copied to the reference's position -/
theorem loop_undo {u : Wd} {h : Nat} {k : Wd → Option (Int32 × Wd)} {G : Nat → Int32} (hh : u.1 119 23 = nI h) (hl : h < 12) : ∀ (m i fu : Nat), i + m = 16 → m < fu → L_X12_undo_26 k fu (nI i) (wR u 120 (fun j => if j < i then u.1 127 (16 * h + j) else G j)) = k (wR u 120 (fun j => if j < 16 then u.1 127 (16 * h + j) else G j)) := by
  intro m
  induction m with
  | zero =>
    intro i fu hi hf
    obtain ⟨fu, rfl⟩ : ∃ n', fu = n' + 1 := ⟨fu - 1, by omega⟩
    have : i = 16 := by omega
    subst this
    unfold L_X12_undo_26
    rw [if_pos (by decide)]
  | succ m ih =>
    intro i fu hi hf
    obtain ⟨fu, rfl⟩ : ∃ n', fu = n' + 1 := ⟨fu - 1, by omega⟩
    unfold L_X12_undo_26
    rw [n16, if_neg (nI_ge (by omega) (by omega)), wR_ne (show (119 : Nat) ≠ 120 by decide), hh, pk_mul, nI_add, if_pos (ib_nI (by omega) (by omega)), if_pos (ib_nI (by omega) (by omega)), bd_eq, bd_eq, nI_clamp (by omega), nI_clamp (by omega), wR_ne (show (127 : Nat) ≠ 120 by decide), wI_wR, wR_self, wR_wR, nI_1]
    have e : upd (fun j => if j < i then u.1 127 (16 * h + j) else G j) i (u.1 127 (16 * h + i)) = (fun j => if j < i + 1 then u.1 127 (16 * h + j) else G j) := by
      funext j
      unfold upd
      by_cases hj : j = i
      · subst hj
        rw [if_pos rfl, if_pos (by omega)]
      · rw [if_neg hj]
        show (if j < i then _ else _) = _
        by_cases h2 : j < i
        · rw [if_pos h2, if_pos (by omega)]
        · rw [if_neg h2, if_neg (by omega)]
    rw [e]
    exact ih (i + 1) fu (by omega) (by omega)
theorem loop_again {u : Wd} {h : Nat} {k : Wd → Option (Int32 × Wd)} {G : Nat → Int32} (hl : h < 2) : ∀ (m i fu : Nat), i + m = 16 → m < fu → L_X12_again_40 (nI h) k fu (nI i) (wR u 120 (fun j => if j < i then u.1 158 (16 * h + j) else G j)) = k (wR u 120 (fun j => if j < 16 then u.1 158 (16 * h + j) else G j)) := by
  intro m
  induction m with
  | zero =>
    intro i fu hi hf
    obtain ⟨fu, rfl⟩ : ∃ n', fu = n' + 1 := ⟨fu - 1, by omega⟩
    have : i = 16 := by omega
    subst this
    unfold L_X12_again_40
    rw [if_pos (by decide)]
  | succ m ih =>
    intro i fu hi hf
    obtain ⟨fu, rfl⟩ : ∃ n', fu = n' + 1 := ⟨fu - 1, by omega⟩
    unfold L_X12_again_40
    rw [n16, if_neg (nI_ge (by omega) (by omega)), pk_mul, nI_add, if_pos (ib_nI (by omega) (by omega)), if_pos (ib_nI (by omega) (by omega)), bd_eq, bd_eq, nI_clamp (by omega), nI_clamp (by omega), wR_ne (show (158 : Nat) ≠ 120 by decide), wI_wR, wR_self, wR_wR, nI_1]
    have e : upd (fun j => if j < i then u.1 158 (16 * h + j) else G j) i (u.1 158 (16 * h + i)) = (fun j => if j < i + 1 then u.1 158 (16 * h + j) else G j) := by
      funext j
      unfold upd
      by_cases hj : j = i
      · subst hj
        rw [if_pos rfl, if_pos (by omega)]
      · rw [if_neg hj]
        show (if j < i then _ else _) = _
        by_cases h2 : j < i
        · rw [if_pos h2, if_pos (by omega)]
        · rw [if_neg h2, if_neg (by omega)]
    rw [e]
    exact ih (i + 1) fu (by omega) (by omega)
theorem sameR_wR {E F T Z : List Nat} {u : Wd} {a : Nat} {f : Nat → Int32} (ha : a ∈ E) (h9 : a ≠ 119) : sameR E F T Z u (wR u a f) := ⟨fun b hb _ => wR_ne (fun e => hb (e ▸ ha)), fun k _ => by rw [wR_ne (Ne.symm h9)], fun _ _ => rfl, fun _ _ => rfl⟩
theorem copy_id {u : Wd} {F : Nat → Int32} : wR u 120 (fun j => if j < 0 then F j else u.1 120 j) = u := by
  have : (fun j => if j < 0 then F j else u.1 120 j) = u.1 120 := by
    funext j
    rw [if_neg (by omega)]
  rw [this, wR_id]
theorem t_undo : Two D_X11_undo D_X12_undo := by
  intro w c L P hs tx rl cd V kp cl si rw B hBB m ok okr
  have hl := ok.2.2.2.2.1.1
  obtain ⟨nx, n1, n2, n3, n4, n5⟩ := m.2.2.2.1
  by_cases h0 : hs.length = 0
  · refine two_no (-1) hBB m ok okr ?_ (fun u n => ?_)
    · unfold D_X11_undo D_X0_pop
      rw [n4, h0, if_pos (by decide), bc_eq, if_pos rfl]
    · unfold D_X12_undo
      rw [bd_eq, (MR_7 n).1.2.2.2.1.1, h0, if_pos (by decide)]
  · have hlast : hs[hs.length - 1]? = some hs[hs.length - 1] := List.getElem?_eq_getElem (by omega)
    generalize hQ : hs[hs.length - 1] = Q at hlast
    have hmem : Q ∈ hs := List.mem_of_getElem? hlast
    obtain ⟨q14, qt⟩ := ok.2.2.2.2.1.2 Q hmem
    have hat := n5 _ Q hlast
    have hnx : (nx + 12 - hs.length + (hs.length - 1)) % 12 = (nx + 11) % 12 := by omega
    rw [hnx] at hat
    have hq1 : isPos (15 + 3 * ((nx + 11) % 12)) := ⟨by omega, by omega⟩
    have hdl : hs.dropLast.length = hs.length - 1 := List.length_dropLast
    generalize hw1 : wI (wI w 78 1 (nI ((nx + 11) % 12))) 78 2 (nI (hs.length - 1)) = w1
    have b1 : but [78] w w1 := by rw [← hw1]; exact but_tr (but_wI (by simp)) (but_wI (by simp))
    have s1 : same [78] [] w w1 := same_but b1
    have a0 : isAt w1 0 c P := isAt_same m.1 s1 (by decide)
    have aq : isAt w1 (15 + 3 * ((nx + 11) % 12)) c Q := isAt_same hat s1 (fun a z => by rw [List.mem_singleton.mp z]; omega)
    have hd : D_X11_undo w = some (nI (hs.length - 1), pW w1 0 c Q) := by
      have hj : ∀ x : Nat, x = (nx + 11) % 12 → J_X0_pop_j28_1 0 (nI x) w = some (1, pW w1 0 c Q) := by
        intro x hx
        subst hx
        unfold J_X0_pop_j28_1
        rw [bd_eq, bd_eq, wI_at_ne (show (2 : Nat) ≠ 1 by decide), n4, nI_m1 (by omega), hw1, ← hw1, wI_at_ne (show (1 : Nat) ≠ 2 by decide), wI_at, hw1, if_pos (ib_nI (by omega) (by omega)), bd_eq, nI_clamp (by omega), d_take (by decide) hq1.2 (by omega) a0 aq, bv_eq]
      unfold D_X11_undo D_X0_pop
      rw [n4, if_neg (by rw [nI_z (by omega)]; exact h0), bd_eq, n3]
      have hfin : (w1.1 78 2) = nI (hs.length - 1) := by rw [← hw1, wI_at]
      by_cases hz : nx = 0
      · rw [if_pos (by rw [hz]; decide), show (11 : Int32) = nI 11 from by decide +kernel, hj 11 (by omega), bc_eq, if_neg (by decide), pW_ne (by decide) (by decide) (by decide), hfin]
      · rw [if_neg (nI_nle (by omega) (by omega)), nI_m1 (by omega), hj (nx - 1) (by omega), bc_eq, if_neg (by decide), pW_ne (by decide) (by decide) (by decide), hfin]
    have s2 : same [78, 0, 1, 2] [] w (pW w1 0 c Q) := same_tr (same_sub s1 (by decide) (by simp)) (same_sub (same_but (T := []) (pW_but (q := 0))) (by decide) (by simp))
    have hh' : histC (pW w1 0 c Q) c hs.dropLast := by
      refine ⟨(nx + 11) % 12, by omega, by omega, ?_, ?_, fun i R hi => ?_⟩
      · rw [pW_ne (by decide) (by decide) (by decide), ← hw1, wI_at_ne (by decide), wI_at]
      · rw [pW_ne (by decide) (by decide) (by decide), ← hw1, wI_at, hdl]
      · have hi2 : i < hs.dropLast.length := (List.getElem?_eq_some_iff.mp hi).1
        have hi3 : hs[i]? = some R := by
          rw [List.getElem?_dropLast] at hi
          split at hi
          · exact hi
          · cases hi
        have := n5 i R hi3
        rw [hdl, show ((nx + 11) % 12 + 12 - (hs.length - 1) + i) % 12 = (nx + 12 - hs.length + i) % 12 by omega]
        exact isAt_same this s2 (fun a z => by
          simp only [List.mem_cons, List.not_mem_nil, or_false] at z
          have := Nat.mod_lt (nx + 12 - hs.length + i) (show 12 > 0 by decide)
          omega)
    obtain ⟨k1, k2⟩ := CR_hist m s2 (by decide) (isAt_trim (pW_at w1 0 c Q)) hh'
    refine ⟨nI (hs.length - 1), c, L, trim Q, hs.dropLast, tx, rl, cd, V, kp, cl, si, rw, okS_pos hBB ok (okS_rw ok) (by rw [trim_lo (by decide)]; exact q14) (by rw [tot_trim]; omega) (by omega) (fun R hR => Or.inr (List.dropLast_subset _ hR)), okr, ⟨_, hd, k1, k2⟩, fun u n hcm => ?_⟩
    obtain ⟨n', on'⟩ := MR_7 n
    have f23 := n'.2.2.2.1.1
    generalize hu1 : wI (wI u 119 7 0) 119 23 (nI (hs.length - 1)) = u1
    have su1 : sameR [120] [23] [] [] (wI u 119 7 0) u1 := by rw [← hu1]; exact sameR_f (by simp)
    have g23 : u1.1 119 23 = nI (hs.length - 1) := by rw [← hu1, wI_at]
    have lp := loop_undo (u := u1) (h := hs.length - 1) (k := J_X12_undo_x58_1) (G := u1.1 120) g23 (by omega) 16 0 FU (by decide) (by unfold FU; omega)
    rw [copy_id, nI_0] at lp
    generalize hu2 : wR u1 120 (fun j => if j < 16 then u1.1 127 (16 * (hs.length - 1) + j) else u1.1 120 j) = u2 at lp
    have su2 : sameR [120] [23] [] [] (wI u 119 7 0) u2 := by rw [← hu2]; exact sameR_tr su1 (sameR_wR (by simp) (by decide))
    have i2 : isM u2 120 (trim Q) := by
      refine ⟨?_, trim_hi⟩
      rw [← hu2, wR_self]
      funext j
      by_cases hj : j < 16
      · rw [if_pos hj, su1.1 127 (by decide) (by decide), n'.2.2.2.1.2 _ Q hlast j hj]
        unfold eP
        rw [trim_lo hj]
      · rw [if_neg hj, ← hu1, wI_r (by decide), n'.2.2.1.1]
        unfold eP
        rw [trim_hi j (by omega), n'.2.2.1.2 j (by omega)]
    have hhm : histM u2 hs.dropLast := by
      refine ⟨?_, fun i R hi k hk => ?_⟩
      · rw [← hu2, wR_ne (by decide), g23, hdl]
      · have hi3 : hs[i]? = some R := by
          rw [List.getElem?_dropLast] at hi
          split at hi
          · exact hi
          · cases hi
        rw [su2.1 127 (by decide) (by decide)]
        exact n'.2.2.2.1.2 i R hi3 k hk
    obtain ⟨k3, k4⟩ := MR_hist n' su2 i2 hhm
    refine ⟨u2, ?_, k3, came_on hcm (onM_tr on' k4)⟩
    unfold D_X12_undo
    rw [bd_eq, f23, if_neg (by rw [nI_z (by omega)]; exact h0), nI_m1 (by omega), bd_eq, hu1, lp]
    unfold J_X12_undo_x58_1
    rw [← hu2, wR_ne (by decide), g23]
end UN
