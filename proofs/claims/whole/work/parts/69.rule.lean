/-! rule() of the class and of the reference -/
def V0 (f : Nat → Int32) : Int32 := f 0 * 3 + f 1 * 2
def okRl (rl : List Nat) (cd : List Int32) (V : (Nat → Int32) → Int32) : Prop := (∀ x ∈ rl, x < 256) ∧ ((rl = [] ∧ cd = [] ∧ V = V0) ∨ (rl ≠ [] ∧ okc rl cd ∧ Blk cd V))
theorem flush_all {s : Nat} {W : List Nat} {O : List Int32} : (flush s W O).2.length ≤ W.length + O.length := by
  have := (flush_len (s := s) W O).1
  omega
theorem okc_len {S : List Nat} (hS : ∀ x ∈ S, x < 256) {cd : List Int32} (h : okc S cd) : cd.length ≤ 40 := by
  obtain ⟨dg, cm, W, O, h1, h2⟩ := h
  have hN := cl_ok hS _ _ _ _ _ _ _ h1
  have := flush_all (s := 1) (W := W) (O := O)
  have := (cl_le h1).2
  have := hN.2.2.1
  rw [h2]
  omega
section RU
variable {w : Wd} {c L : Nat} {P : Nat → Nat} {hs : List (Nat → Nat)} {tx rl : List Nat} {cd : List Int32} {kp : Nat → Option (Nat → Nat)} {cl0 si : List (Int32 × Int32)} {rw : List Int64}
theorem c_takeR {cd' : List Int32} (h : codeW w 103 cd') (hl : cd'.length ≤ 40) : ∃ w1, D_X6_take 106 103 w = some w1 ∧ ruleC w1 cd' ∧ but [106, 107] w w1 := by
  refine ⟨wC (wI w 106 2 (w.1 103 2)) 104 107 0 0 40, ?_, ⟨?_, fun i x hx => ?_⟩, ?_⟩
  · unfold D_X6_take
    rw [bd_eq, if_pos (by decide), bd_eq]
  · rw [wC_wR, wR_ne (by decide), wI_at, h.1]
  · have hi : i < cd'.length := (List.getElem?_eq_some_iff.mp hx).1
    rw [wC_wR, wR_self]
    unfold va_cpy
    rw [if_pos (by rw [show (0 : Int32).toNatClampNeg = 0 from by decide, show (40 : Int32).toNatClampNeg = 40 from by decide]; omega), show (0 : Int32).toNatClampNeg = 0 from by decide, wI_r (by decide)]
    have := h.2 i x hx
    simpa using this
  · refine ⟨fun a ha => ?_, by rw [wC_wR]; rfl⟩
    simp only [List.mem_cons, List.not_mem_nil, or_false, not_or] at ha
    rw [wC_wR, wR_ne ha.2, wI_r ha.1]
theorem c_rule (m : CR w c L P hs tx cd kp cl0 si rw) (hl : tx.length ≤ 80) (hS : ∀ x ∈ tx, x < 256) : ∃ w1, onC w w1 ∧ ((∃ q, tx ≠ [] ∧ flS tx q ∧ D_X11_rule w = some (-1 - nI q, w1) ∧ CR w1 c L P hs [] cd kp cl0 si rw) ∨ ∃ cd', ((tx = [] ∧ cd' = []) ∨ (tx ≠ [] ∧ okc tx cd')) ∧ D_X11_rule w = some (0, w1) ∧ CR w1 c L P hs [] cd' kp cl0 si rw) := by
  obtain ⟨m1, m2, m3, m4, m5, m6, m7, m8, m9, m10, m11⟩ := m
  obtain ⟨w1, b1, r1⟩ := c_read m5 hl hS
  have hclr : ∀ u : Wd, D_X9_clear u = some (wI u 80 1 0) := fun u => rfl
  have b2 : but (80 :: RR) w (wI w1 80 1 0) := but_tr (but_sub b1 (fun a h => List.mem_cons_of_mem _ h)) (but_wI (by simp))
  have ht : textC (wI w1 80 1 0) [] := ⟨by rw [wI_at]; rfl, fun i x h => by simp at h⟩
  have mk : ∀ (w2 : Wd) (cd' : List Int32), but [80, 100, 101, 102, 103, 104, 106, 107] w w2 → textC w2 [] → ruleC w2 cd' → CR w2 c L P hs [] cd' kp cl0 si rw ∧ onC w w2 := by
    intro w2 cd' hb htx hru
    have hs' : same [80, 100, 101, 102, 103, 104, 106, 107] [] w w2 := same_but hb
    exact ⟨⟨isAt_same m1 hs' (by decide), by rw [hb.1 75 (by decide)]; exact m2, posC_same m3 hs' (by decide), histC_same m4 hs' (by decide), htx, rowC_same m6 hs' (by decide) (by decide), keptC_same m7 hs' (by decide), noteC_same m8 hs' (by decide) (by decide) (by decide), noteC_same m9 hs' (by decide) (by decide) (by decide), hru, greedC_same m11 hs' (by decide) (by decide)⟩, onC_same hs' (by decide) (by decide)⟩
  have okk : ∀ cd', codeW w1 103 cd' → cd'.length ≤ 40 → D_X7_read w = some (-1, w1) → ((tx = [] ∧ cd' = []) ∨ (tx ≠ [] ∧ okc tx cd')) → ∃ w2, onC w w2 ∧ ∃ cd', ((tx = [] ∧ cd' = []) ∨ (tx ≠ [] ∧ okc tx cd')) ∧ D_X11_rule w = some (0, w2) ∧ CR w2 c L P hs [] cd' kp cl0 si rw := by
    intro cd' hc hlen hD hor
    obtain ⟨w2, t1, t2, t3⟩ := c_takeR (w := wI w1 80 1 0) (cd' := cd') (by unfold codeW at hc ⊢; rw [wI_r (by decide), wI_r (by decide)]; exact hc) hlen
    have b3 : but [80, 100, 101, 102, 103, 104, 106, 107] w w2 := but_tr (but_sub b2 (by decide)) (but_sub t3 (by decide))
    have ht2 : textC w2 [] := textC_but ht t3 (by decide) (by decide)
    obtain ⟨k1, k2⟩ := mk w2 cd' b3 ht2 t2
    refine ⟨w2, k2, cd', hor, ?_, k1⟩
    unfold D_X11_rule
    rw [hD, bc_eq, hclr, bv_eq, if_pos rfl, t1, bv_eq]
  rcases r1 with ⟨q, hne, hf, hD⟩ | ⟨hD, ⟨he, hc⟩ | ⟨dg, cm, W, O, hne, h1, hc⟩⟩
  · obtain ⟨k1, k2⟩ := mk (wI w1 80 1 0) cd (but_sub b2 (by decide)) ht (ruleC_same m10 (same_but (T := []) b2) (by decide) (by decide))
    refine ⟨wI w1 80 1 0, k2, Or.inl ⟨q, hne, hf, ?_, k1⟩⟩
    unfold D_X11_rule
    rw [hD, bc_eq, hclr, bv_eq, if_neg (nI_nm (fl_100 hf))]
  · obtain ⟨w2, a1, a2⟩ := okk [] hc (by decide) hD (Or.inl ⟨he, rfl⟩)
    exact ⟨w2, a1, Or.inr a2⟩
  · have ho : okc tx (flush 1 W O).2 := ⟨dg, cm, W, O, h1, rfl⟩
    obtain ⟨w2, a1, a2⟩ := okk _ hc (okc_len hS ho) hD (Or.inr ⟨hne, ho⟩)
    exact ⟨w2, a1, Or.inr a2⟩
theorem byteN : ∀ x, x < 256 → vp_nar .byte ((nI x).toInt8.toInt32) = (nI x).toInt8.toInt32 := by decide +kernel
theorem m_copyR {k : Wd → Option (Int32 × Wd)} (hS : ∀ x ∈ tx, x < 256) (h40 : tx.length ≤ 40) : ∀ (m i fu : Nat) (w : Wd), m + i = tx.length → m < fu → (w.2.2 1 = 124 ∨ w.2.2 1 = 125) → (∀ j x, tx[j]? = some x → w.1 121 j = (nI x).toInt8.toInt32) → (∀ j x, j < i → tx[j]? = some x → w.1 (w.2.2 1) j = (nI x).toInt8.toInt32) → ∃ w', L_X12_rule_26 (nI tx.length) k fu (nI i) w = k w' ∧ sameR [124, 125] [] [] [] w w' ∧ ∀ j x, tx[j]? = some x → w'.1 (w.2.2 1) j = (nI x).toInt8.toInt32 := by
  intro m
  induction m with
  | zero =>
    intro i fu w hi hf hp ht hd
    obtain ⟨fu, rfl⟩ : ∃ n', fu = n' + 1 := ⟨fu - 1, by omega⟩
    refine ⟨w, ?_, sameR_rf w, fun j x hx => hd j x ?_ hx⟩
    · unfold L_X12_rule_26
      rw [if_pos (nI_le (by omega) (by omega))]
    · have := (List.getElem?_eq_some_iff.mp hx).1
      omega
  | succ m ih =>
    intro i fu w hi hf hp ht hd
    obtain ⟨fu, rfl⟩ : ∃ n', fu = n' + 1 := ⟨fu - 1, by omega⟩
    have hx : tx[i]? = some tx[i] := List.getElem?_eq_getElem (by omega)
    have hb : bq (w.2.2 1) = true ∧ ln (w.2.2 1) = 40 ∧ w.2.2 1 ≠ 121 ∧ w.2.2 1 ≠ 119 := by rcases hp with h | h <;> rw [h] <;> decide
    unfold L_X12_rule_26
    rw [if_neg (nI_ge (by omega) (by omega)), if_pos hb.1, if_pos (ib_nI (by omega) (by omega)), hb.2.1, if_pos (ib_nI (by omega) (by omega)), bd_eq, bd_eq, nI_clamp (by omega), ht i _ hx, byteN _ (hS _ (List.mem_of_getElem? hx)), nI_1]
    obtain ⟨w', e1, e2, e3⟩ := ih (i + 1) fu (wI w (w.2.2 1) i (nI tx[i]).toInt8.toInt32) (by omega) (by omega) hp (fun j x hj => by rw [wI_r (Ne.symm hb.2.2.1)]; exact ht j x hj) (fun j x hj hxx => by
      show (wI w (w.2.2 1) i _).1 (w.2.2 1) j = _
      by_cases e : j = i
      · subst e
        rw [wI_at]
        rw [hx] at hxx
        cases hxx
        rfl
      · rw [wI_at_ne e]
        exact hd j x (by omega) hxx)
    exact ⟨w', e1, sameR_tr (sameR_r (by rcases hp with h | h <;> rw [h] <;> decide) hb.2.2.2) e2, e3⟩
theorem m_rule (m : MR w c L P hs tx rl kp cl0 si rw) (hl : tx.length ≤ 80) (hS : ∀ x ∈ tx, x < 256) : ∃ w1, onM w w1 ∧ ((∃ q, tx ≠ [] ∧ flS tx q ∧ D_X12_rule w = some (-1 - nI q, w1) ∧ MR w1 c L P hs [] rl kp cl0 si rw) ∨ ((tx = [] ∨ tx ≠ [] ∧ ∃ cd' V, okc tx cd' ∧ Blk cd' V) ∧ D_X12_rule w = some (0, w1) ∧ MR w1 c L P hs [] tx kp cl0 si rw)) := by
  obtain ⟨m1, m2, m3, m4, m5, m6, m7, m8, m9, m10, m11⟩ := m
  have s0 : sameR [] [7] [] [] w (wI w 119 7 0) := sameR_f (by simp)
  have ht : textM (wI w 119 7 0) tx := textM_same m5 s0 (by decide) (by decide)
  obtain ⟨b, w1, e1, e2, e3, e4⟩ := m_readRule ht hl hS
  have s1 : sameR [124, 125] [4, 7, 9, 10, 11, 12, 16, 17] [] [0] w w1 := sameR_tr (sameR_sub s0 (by decide) (by decide) (by decide) (by decide)) (sameR_sub e2 (by decide) (by decide) (by decide) (by decide))
  have mk : ∀ (w2 : Wd) (rl' : List Nat), sameR [124, 125] [4, 7, 9, 10, 11, 12, 16, 17] [] [0] w w2 → w2.1 119 4 = 0 → ruleM w2 rl' → MR w2 c L P hs [] rl' kp cl0 si rw ∧ onM w w2 := by
    intro w2 rl' h h4 hr
    exact ⟨⟨(h.2.1 1 (by decide)).trans m1, (h.2.1 2 (by decide)).trans m2, isM_same m3 h (by decide) (by decide), histM_same m4 h (by decide) (by decide), ⟨by rw [h4]; rfl, fun i x hx => by simp at hx⟩, rowM_same m6 h (by decide) (by decide), keptM_same m7 h (by decide) (by decide) (by decide) (by decide), heardM_same m8 h (by decide) (by decide) (by decide), sawM_same m9 h (by decide) (by decide) (by decide), hr, arrM_same m11 h (by decide)⟩, onM_sameR h (by decide) (by decide) (by decide)⟩
  have hD : D_X12_rule w = if b = 0 then (some ((-1) - (w1.1 119 12), w1)) else (L_X12_rule_26 (nI tx.length) (J_X12_rule_x49_1 (nI tx.length)) FU 0 w1) := by
    unfold D_X12_rule
    rw [bd_eq, bd_eq, e1, bc_eq, ht.1]
  rw [hD]
  rcases e4 with ⟨q, f1, f2, f3, f4⟩ | ⟨f1, f2⟩
  · have hr : ruleM w1 rl := by
      have h := sameR_tr (sameR_sub (E' := []) (F' := [4, 7, 9, 10, 11, 12, 17]) (T' := []) (Z' := [0]) s0 (by decide) (by decide) (by decide) (by decide)) (sameR_sub e2 (by decide) (by decide) (by decide) (by decide))
      exact ruleM_same m10 h (by decide) (by decide) (by decide) (by decide) (by decide)
    obtain ⟨k1, k2⟩ := mk w1 rl s1 e3 hr
    exact ⟨w1, k2, Or.inl ⟨q, f1, f2, by rw [if_pos f3, f4], k1⟩⟩
  · have h40 : tx.length ≤ 40 := by
      rcases f2 with h | ⟨-, cd', V, h, -⟩
      · rw [h]; decide
      · exact okc_40 h
    have hz : w1.2.2 1 = w.2.2 1 ∧ w1.2.2 2 = w.2.2 2 := ⟨s1.2.2.2 1 (by decide), s1.2.2.2 2 (by decide)⟩
    have hp : w1.2.2 1 = 124 ∨ w1.2.2 1 = 125 := by
      rw [hz.1]
      rcases m10.1 with h | h
      · exact Or.inl h.1
      · exact Or.inr h.1
    obtain ⟨w2, t1, t2, t3⟩ := m_copyR (k := J_X12_rule_x49_1 (nI tx.length)) hS h40 tx.length 0 FU w1 (by omega) (by unfold FU; omega) hp (fun j x hx => by rw [e2.1 121 (by decide) (by decide)]; exact ht.2 j x hx) (fun j x hj => absurd hj (by omega))
    rw [nI_0] at t1
    have s2 : sameR [124, 125] [4, 7, 9, 10, 11, 12, 16, 17] [] [0] w (wI w2 119 16 (nI tx.length)) := sameR_tr (sameR_tr s1 (sameR_sub t2 (by decide) (by decide) (by decide) (by decide))) (sameR_f (by decide))
    have h4 : (wI w2 119 16 (nI tx.length)).1 119 4 = 0 := by rw [wI_at_ne (by decide), t2.2.1 4 (by decide), e3]
    have hru : ruleM (wI w2 119 16 (nI tx.length)) tx := by
      have z1 : (wI w2 119 16 (nI tx.length)).2.2 1 = w1.2.2 1 := t2.2.2.2 1 (by decide)
      have z2 : (wI w2 119 16 (nI tx.length)).2.2 2 = w1.2.2 2 := t2.2.2.2 2 (by decide)
      refine ⟨?_, wI_at, fun i x hx => ?_⟩
      · rw [z1, z2, hz.1, hz.2]
        exact m10.1
      · rw [z1, wI_r (by rcases hp with h | h <;> rw [h] <;> decide)]
        exact t3 i x hx
    obtain ⟨k1, k2⟩ := mk _ tx s2 h4 hru
    refine ⟨_, k2, Or.inr ⟨f2, ?_, k1⟩⟩
    rw [if_neg (by rw [f1]; decide), t1]
    rfl
end RU
