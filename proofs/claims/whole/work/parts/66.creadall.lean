/-! the class's reading of a whole text; where both find a wrong sign it is the same one -/
theorem cl_none {S : List Nat} {i : Nat} (h : cl S i = none) : ∀ j, i ≤ j → cl S j = none := by
  intro j hj
  induction j with
  | zero =>
    have : i = 0 := by omega
    rw [← this]
    exact h
  | succ j ih =>
    by_cases e : i = j + 1
    · rw [← e]
      exact h
    · unfold cl
      rw [ih (by omega)]
theorem fl_next {S : List Nat} {q : Nat} (h : flS S q) (hq : q < S.length) : cl S (q + 1) = none := by
  obtain ⟨r, h1, h2⟩ := h
  unfold cl
  rw [h1]
  rcases h2 with ⟨-, h2 | ⟨x, h3, h4⟩⟩ | ⟨h2, -⟩
  · subst h2
    simp
  · simp only [h3]
    split
    · exact h4
    · rfl
  · omega
theorem fl_max {S : List Nat} {q j : Nat} {r : RS} (h : flS S q) (hc : cl S j = some r) : j ≤ q := by
  by_cases hq : q < S.length
  · by_cases hj : j ≤ q
    · exact hj
    · have := cl_none (fl_next h hq) j (by omega)
      rw [this] at hc
      cases hc
  · have := (cl_le hc).1
    omega
theorem fl_uniq {S : List Nat} {q p : Nat} (h : flS S q) (h' : flS S p) : q = p := by
  have a : p ≤ q := by obtain ⟨r, h1, -⟩ := h'; exact fl_max h h1
  have b : q ≤ p := by obtain ⟨r, h1, -⟩ := h; exact fl_max h' h1
  omega
theorem fl_not {S : List Nat} {q dg : Nat} {cm : Nat → Bool} {W : List Nat} {O : List Int32} (h : cl S S.length = some (false, dg, 0, cm, W, O)) : ¬ flS S q := by
  intro hf
  have a := fl_max hf h
  obtain ⟨r, h1, h2⟩ := hf
  have b := (cl_le h1).1
  have e : q = S.length := by omega
  subst e
  rw [h] at h1
  cases h1
  rcases h2 with h2 | ⟨-, h2⟩
  · omega
  · simp at h2
theorem cl_dg {S : List Nat} : ∀ i wt dg dp cm W O, cl S i = some (wt, dg, dp, cm, W, O) → 0 < dg → 0 < O.length := by
  intro i
  cases i with
  | zero =>
    intro wt dg dp cm W O h hd
    unfold cl at h
    cases h
    exact absurd hd (by decide)
  | succ i =>
    intro wt dg dp cm W O h hd
    unfold cl at h
    split at h
    · cases h
    · split at h
      · split at h
        · unfold acc at h
          split at h
          · split at h
            · cases h
              simp
            · split at h
              · cases h
              · cases h
                unfold addD
                simp
          · split at h
            · split at h
              · cases h
                exact absurd hd (by decide)
              · split at h
                · cases h
                  exact absurd hd (by decide)
                · split at h
                  · cases h
                  · cases h
                    exact absurd hd (by decide)
            · split at h
              · cases h
                exact absurd hd (by decide)
              · split at h
                · cases h
                · split at h
                  · cases h
                  · cases h
                    exact absurd hd (by decide)
        · cases h
      · cases h
theorem textC_but {E : List Nat} {w w' : Wd} {S : List Nat} (h : textC w S) (hb : but E w w') (h0 : 80 ∉ E) (h1 : 81 ∉ E) : textC w' S := by
  unfold textC at h ⊢
  rw [hb.1 80 h0, hb.1 81 h1]
  exact h
theorem d_at {w : Wd} {S : List Nat} {i x : Nat} (h : textC w S) (hl : S.length ≤ 80) (hx : S[i]? = some x) : D_X9_at (nI i) w = some (nI x, w) := by
  have hi : i < S.length := (List.getElem?_eq_some_iff.mp hx).1
  unfold D_X9_at
  rw [h.1, if_neg (nI_pos (by omega)), if_neg (nI_ge hi (by omega)), if_pos (ib_nI (by omega) (by omega)), nI_clamp (by omega), h.2 i x hx]
theorem c_readloop {S : List Nat} (hl : S.length ≤ 80) (hS : ∀ x ∈ S, x < 256) (hne : S ≠ []) : ∀ (m i fu : Nat) (w : Wd) (wt : Bool) (dg dp : Nat) (cm : Nat → Bool) (W : List Nat) (O : List Int32), m + i = S.length → m < fu → textC w S → cl S i = some (wt, dg, dp, cm, W, O) → rdC w wt dg dp cm W O → ∃ w', but RR w w' ∧ ((∃ q, flS S q ∧ L_X7_read_37 J_X7_read_x63_1 J_X7_read_x71_2 fu (nI i) w = some (nI q, w')) ∨ ∃ dg cm W O, cl S S.length = some (false, dg, 0, cm, W, O) ∧ L_X7_read_37 J_X7_read_x63_1 J_X7_read_x71_2 fu (nI i) w = some (-1, w') ∧ codeW w' 103 (flush 1 W O).2) := by
  have hpos : 0 < S.length := by cases S with | nil => exact absurd rfl hne | cons a b => simp
  intro m
  induction m with
  | zero =>
    intro i fu w wt dg dp cm W O hi hf ht hc hr
    obtain ⟨fu, rfl⟩ : ∃ n', fu = n' + 1 := ⟨fu - 1, by omega⟩
    have hi' : i = S.length := by omega
    subst hi'
    have hN := cl_ok hS _ _ _ _ _ _ _ hc
    have h40 := (cl_le hc).2
    unfold L_X7_read_37
    rw [ht.1, if_pos (nI_le (Nat.le_refl _) (by omega))]
    unfold J_X7_read_x71_2
    rw [ht.1, if_neg (nI_nle hpos (by omega)), hr.2.2.2.1, hr.2.1]
    cases wt with
    | true =>
      rw [if_neg (by decide)]
      exact ⟨w, but_rf w, Or.inl ⟨S.length, ⟨_, hc, Or.inr ⟨rfl, Or.inl rfl⟩⟩, rfl⟩⟩
    | false =>
      rw [if_pos (by decide)]
      by_cases hd : dp = 0
      · subst hd
        obtain ⟨w', b1, b2, b3⟩ := c_bind (s := 1) (by decide) hr hN h40
        rw [if_pos (by decide), show (1 : Int32) = nI 1 from nI_1', b1, bv_eq]
        exact ⟨w', but_sub b3 (by simp), Or.inr ⟨dg, cm, W, O, hc, rfl, b2.2.2.2.2.2.2⟩⟩
      · rw [if_neg (by have := hN.2.1; rw [nI_le0 (by omega)]; exact hd)]
        exact ⟨w, but_rf w, Or.inl ⟨S.length, ⟨_, hc, Or.inr ⟨rfl, Or.inr (by simp; omega)⟩⟩, rfl⟩⟩
  | succ m ih =>
    intro i fu w wt dg dp cm W O hi hf ht hc hr
    obtain ⟨fu, rfl⟩ : ∃ n', fu = n' + 1 := ⟨fu - 1, by omega⟩
    have hN := cl_ok hS _ _ _ _ _ _ _ hc
    have h40 := (cl_le hc).2
    have hil : i < S.length := by omega
    have hx : S[i]? = some S[i] := List.getElem?_eq_getElem hil
    unfold L_X7_read_37
    rw [ht.1, if_neg (nI_ge hil (by omega)), show (40 : Int32) = nI 40 from by decide +kernel]
    by_cases e40 : i = 40
    · rw [if_pos (by rw [e40])]
      exact ⟨w, but_rf w, Or.inl ⟨i, ⟨_, hc, Or.inl ⟨hil, Or.inl e40⟩⟩, rfl⟩⟩
    · rw [if_neg (by rw [nI_eq (by omega) (by omega)]; exact e40), d_at ht hl hx, bc_eq]
      obtain ⟨w1, b1, c1⟩ := c_accept hr hN (by omega) (hS _ (List.mem_of_getElem? hx)) (cl_dg _ _ _ _ _ _ _ hc)
      rcases c1 with ⟨c1, c2⟩ | ⟨wt', dg', dp', cm', W', O', c1, c2, c3⟩
      · rw [c2, bc_eq, if_pos rfl]
        exact ⟨w1, b1, Or.inl ⟨i, ⟨_, hc, Or.inl ⟨hil, Or.inr ⟨_, hx, c1⟩⟩⟩, rfl⟩⟩
      · rw [c2, bc_eq, if_neg (by decide), bd_eq, nI_1]
        have hc' : cl S (i + 1) = some (wt', dg', dp', cm', W', O') := by
          unfold cl
          rw [hc]
          simp only [hx, if_pos (show i < 40 by omega)]
          exact c1
        obtain ⟨w', b2, c4⟩ := ih (i + 1) fu w1 wt' dg' dp' cm' W' O' (by omega) (by omega) (textC_but ht b1 (by simp) (by simp)) hc' c3
        exact ⟨w', but_tr b1 b2, c4⟩
theorem c_read {w : Wd} {S : List Nat} (ht : textC w S) (hl : S.length ≤ 80) (hS : ∀ x ∈ S, x < 256) : ∃ w', but RR w w' ∧ ((∃ q, S ≠ [] ∧ flS S q ∧ D_X7_read w = some (nI q, w')) ∨ (D_X7_read w = some (-1, w') ∧ ((S = [] ∧ codeW w' 103 []) ∨ ∃ dg cm W O, S ≠ [] ∧ cl S S.length = some (false, dg, 0, cm, W, O) ∧ codeW w' 103 (flush 1 W O).2))) := by
  generalize hw0 : wI (wI (wI (wI (wI (wI w 103 2 0) 100 3 0) 100 4 0) 100 5 0) 102 0 0) 100 6 1 = w0
  have hD : D_X7_read w = L_X7_read_37 J_X7_read_x63_1 J_X7_read_x71_2 FU (nI 0) w0 := by
    rw [← hw0]
    unfold D_X7_read
    rw [bd_eq, bd_eq, bd_eq, bd_eq, if_pos (by decide), bd_eq, if_pos (by decide), bd_eq, nI_0]
    rfl
  have hb : but RR w w0 := by
    rw [← hw0]
    exact but_tr (but_tr (but_tr (but_tr (but_tr (but_wI (by simp)) (but_wI (by simp))) (but_wI (by simp))) (but_wI (by simp))) (but_wI (by simp))) (but_wI (by simp))
  have hr : rdC w0 true 0 0 (fun _ => false) [] [] := by
    rw [← hw0]
    refine ⟨?_, ?_, ?_, wI_at, fun k hk => ?_, ?_, ?_, ?_⟩
    · rw [wI_at_ne (by decide), wI_r (by decide), wI_at_ne (by decide), wI_at_ne (by decide), wI_at]
      rfl
    · rw [wI_at_ne (by decide), wI_r (by decide), wI_at_ne (by decide), wI_at]
      rfl
    · rw [wI_at_ne (by decide), wI_r (by decide), wI_at]
      rfl
    · have : k = 0 := by omega
      subst this
      rw [wI_r (by decide), wI_at]
      rfl
    · intro i x h
      simp at h
    · rw [wI_r (by decide), wI_r (by decide), wI_r (by decide), wI_r (by decide), wI_r (by decide), wI_at]
      rfl
    · intro i x h
      simp at h
  have ht0 := textC_but ht hb (by simp) (by simp)
  rw [hD]
  by_cases hne : S = []
  · subst hne
    refine ⟨w0, hb, Or.inr ⟨?_, Or.inl ⟨rfl, hr.2.2.2.2.2.2⟩⟩⟩
    rw [show FU = 999999 + 1 from rfl]
    unfold L_X7_read_37
    rw [ht0.1, if_pos (by decide)]
    unfold J_X7_read_x71_2
    rw [ht0.1, if_pos (by decide)]
    unfold D_X7_bindWaiting
    rw [show FU = 999999 + 1 from rfl]
    unfold L_X7_bindWaiting_0
    rw [hr.1, if_pos (by decide)]
    rfl
  · obtain ⟨w', b, c⟩ := c_readloop hl hS hne S.length 0 FU w0 true 0 0 (fun _ => false) [] [] rfl (by unfold FU; omega) ht0 rfl hr
    refine ⟨w', but_tr hb b, ?_⟩
    rcases c with ⟨q, c1, c2⟩ | ⟨dg, cm, W, O, c1, c2, c3⟩
    · exact Or.inl ⟨q, hne, c1, c2⟩
    · exact Or.inr ⟨c2, Or.inr ⟨dg, cm, W, O, hne, c1, c3⟩⟩
