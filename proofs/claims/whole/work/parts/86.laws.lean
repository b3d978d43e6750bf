/-! laws, sheet -/
def laF (x : Nat) : Nat := if x = 115 then 1 else if x = 114 then 2 else if x = 99 then 4 else if x = 107 then 8 else if x = 120 then 16 else if x = 116 then 32 else 0
theorem laF_c : ∀ x, x < 256 → (if 0 ≤ sidx 0 (((nI x).toUInt32 % 65536).toInt32) then (1 : Int32) <<< (sidx 0 (((nI x).toUInt32 % 65536).toInt32) &&& 31) else 0) = nI (laF x) := by decide +kernel
theorem laF_m : ∀ x, x < 256 → (if nI x = 115 then (1 : Int32) else if nI x = 114 then 2 else if nI x = 99 then 4 else if nI x = 107 then 8 else if nI x = 120 then 16 else if nI x = 116 then 32 else 0) = nI (laF x) := by decide +kernel
def pc6 (t : Nat) : Nat := t % 2 + t / 2 % 2 + t / 4 % 2 + t / 8 % 2 + t / 16 % 2 + t / 32 % 2
theorem la_and : ∀ t, t < 64 → ∀ l, l < 64 → (nI t &&& nI l = nI (t &&& l)) := by decide +kernel
theorem la_or : ∀ t, t < 64 → ∀ l, l < 64 → (nI t ||| nI l = nI (t ||| l)) := by decide +kernel
theorem la_lt : ∀ t, t < 64 → ∀ l, l < 64 → t &&& l < 64 ∧ t ||| l < 64 := by decide +kernel
theorem laF_in (x : Nat) : laF x = 0 ∨ laF x = 1 ∨ laF x = 2 ∨ laF x = 4 ∨ laF x = 8 ∨ laF x = 16 ∨ laF x = 32 := by
  unfold laF
  split
  · simp
  · split
    · simp
    · split
      · simp
      · split
        · simp
        · split
          · simp
          · split <;> simp
theorem pc6_or : ∀ t, t < 64 → ∀ l, (l = 1 ∨ l = 2 ∨ l = 4 ∨ l = 8 ∨ l = 16 ∨ l = 32) → t &&& l = 0 → pc6 (t ||| l) = pc6 t + 1 := by
  intro t ht l hl
  rcases hl with h | h | h | h | h | h <;> subst h <;> revert t <;> decide +kernel
theorem pc6_le : ∀ t, t < 64 → pc6 t ≤ 6 ∧ (pc6 t = 6 → t = 63) := by decide +kernel
theorem all6 : ∀ l, (l = 1 ∨ l = 2 ∨ l = 4 ∨ l = 8 ∨ l = 16 ∨ l = 32) → 63 &&& l ≠ 0 := by
  intro l hl
  rcases hl with h | h | h | h | h | h <;> subst h <;> decide
/-- the LAWS as a sum: the place of the wrong sign, or nothing; and the sum till there -/
def lwF (tx : List Nat) : Nat → Nat → Nat → Option Nat × Nat
  | 0, _, t => (none, t)
  | n + 1, i, t => if laF (tx.getD i 300) = 0 ∨ ¬ t &&& laF (tx.getD i 300) = 0 then (some i, t) else lwF tx n (i + 1) (t ||| laF (tx.getD i 300))
section LW
variable {w u : Wd} {tx : List Nat}
theorem lwF_lt : ∀ (n i t : Nat), t < 64 → pc6 t = i → (lwF tx n i t).2 < 64 ∧ (∀ j, (lwF tx n i t).1 = some j → i ≤ j ∧ j < i + n ∧ j ≤ 6) := by
  intro n
  induction n with
  | zero => intro i t ht _; exact ⟨ht, fun j h => by cases h⟩
  | succ n ih =>
    intro i t ht hp
    unfold lwF
    have hi := (pc6_le t ht).1
    split
    · refine ⟨ht, fun j h => ?_⟩
      cases h
      omega
    · rename_i h
      rw [not_or] at h
      have hl := (laF_in (tx.getD i 300)).resolve_left h.1
      have h3 : t &&& laF (tx.getD i 300) = 0 := by
        have := h.2
        simpa using this
      have h64 : laF (tx.getD i 300) < 64 := by omega
      have hp' := pc6_or t ht _ hl h3
      obtain ⟨a, b⟩ := ih (i + 1) (t ||| laF (tx.getD i 300)) (la_lt t ht _ h64).2 (by omega)
      exact ⟨a, fun j hj => by have := b j hj; omega⟩
theorem c_lwloop (h : textC w tx) (hl : tx.length ≤ 80) (hx : ∀ x ∈ tx, x < 256) : ∀ (n i t fu : Nat), n + i = tx.length → n < fu → t < 64 → L_X11_readLaws_4 J_X11_readLaws_x55_2 J_X11_readLaws_x70_3 fu (nI t) (nI i) w = match lwF tx n i t with | (some j, _) => some (-1 - nI j, w) | (none, s) => some (nI s, w) := by
  intro n
  induction n with
  | zero =>
    intro i t fu hi hf ht
    obtain ⟨fu, rfl⟩ : ∃ n', fu = n' + 1 := ⟨fu - 1, by omega⟩
    unfold L_X11_readLaws_4
    rw [h.1, if_pos (nI_le (by omega) (by omega))]
    rfl
  | succ n ih =>
    intro i t fu hi hf ht
    obtain ⟨fu, rfl⟩ : ∃ n', fu = n' + 1 := ⟨fu - 1, by omega⟩
    have e : tx.getD i 0 = tx.getD i 300 := by
      rw [List.getD_eq_getElem?_getD, List.getD_eq_getElem?_getD, List.getElem?_eq_getElem (by omega)]
      rfl
    have h256 : tx.getD i 300 < 256 := hx _ (List.mem_of_getElem? (getD_lt (by omega)))
    have hla := laF_c _ h256
    have h64 : laF (tx.getD i 300) < 64 := by have := laF_in (tx.getD i 300); omega
    have step : ∀ x : Int32, x = nI (laF (tx.getD i 300)) → J_X11_readLaws_j41_1 (L_X11_readLaws_4 J_X11_readLaws_x55_2 J_X11_readLaws_x70_3 fu) J_X11_readLaws_x55_2 (nI i) (nI t) x w = match lwF tx (n + 1) i t with | (some j, _) => some (-1 - nI j, w) | (none, s) => some (nI s, w) := by
      intro x hxx
      subst hxx
      unfold J_X11_readLaws_j41_1 lwF
      by_cases c1 : laF (tx.getD i 300) = 0
      · rw [if_pos (by rw [c1]; rfl), if_pos (Or.inl c1)]
        rfl
      · have hz : ¬ nI (laF (tx.getD i 300)) = 0 := by rw [nI_z (by omega)]; exact c1
        have hand := (la_lt t ht _ h64).1
        rw [if_neg hz, la_and t ht _ h64]
        by_cases c2 : t &&& laF (tx.getD i 300) = 0
        · rw [if_pos (by rw [c2]; rfl), if_neg (fun z => z.elim c1 (fun y => y c2)), bd_eq, bd_eq, la_or t ht _ h64, nI_1]
          exact ih (i + 1) _ fu (by omega) (by omega) (la_lt t ht _ h64).2
        · rw [if_neg (by rw [nI_z (by omega)]; exact c2), if_pos (Or.inr c2)]
          rfl
    unfold L_X11_readLaws_4
    rw [h.1, if_neg (nI_ge (by omega) (by omega)), c_at h hl (by omega), bc_eq, bd_eq, bd_eq, e]
    by_cases c0 : 0 ≤ sidx 0 (((nI (tx.getD i 300)).toUInt32 % 65536).toInt32)
    · rw [if_pos c0] at hla ⊢
      exact step _ hla
    · rw [if_neg c0] at hla ⊢
      exact step _ hla
theorem d_lawOf {x : Nat} (hx : x < 256) (u : Wd) : D_X12_lawOf (nI x) u = some (nI (laF x), u) := by
  rw [← laF_m x hx]
  unfold D_X12_lawOf
  split
  · rfl
  · split
    · rfl
    · split
      · rfl
      · split
        · rfl
        · split
          · rfl
          · split <;> rfl
theorem m_lwloop : ∀ (n i t fu : Nat) (u : Wd), n + i = tx.length → n + 1 < fu → t < 64 → pc6 t = i → rdT u 6 tx → u.1 119 11 = nI i → u.1 119 12 = -1 → (∀ j s, lwF tx n i t = (some j, s) → ∃ u1, L_X12_laws_13 J_X12_laws_x74_3 fu (nI t) u = some (-1 - nI j, u1) ∧ sameR [] [11, 12] [] [] u u1) ∧ ∀ s, lwF tx n i t = (none, s) → ∃ u1, L_X12_laws_13 J_X12_laws_x74_3 fu (nI t) u = (bd (wI u1 119 2 (nI s)) fun w28 => bc (D_J6_bitCount_0f7a4 (nI s) w28) fun x30 w29 => some (x30, w29)) ∧ sameR [] [11, 12] [] [] u u1 := by
  intro n
  induction n with
  | zero =>
    intro i t fu u hi hf ht hp H ha hfi
    obtain ⟨fu, rfl⟩ : ∃ n', fu = n' + 1 := ⟨fu - 1, by omega⟩
    have hi6 := (pc6_le t ht).1
    have e300 : cT 6 tx i = 300 := by
      unfold cT
      split
      · exact getD_ge (by omega)
      · rfl
    refine ⟨fun j s h => by (cases h), fun s h => ?_⟩
    cases h
    refine ⟨u, ?_, sameR_rf u⟩
    unfold L_X12_laws_13
    rw [fine_y hfi, bc_eq, if_neg (by decide), here_T H ha (by omega), bc_eq, e300, if_pos (by decide)]
    unfold J_X12_laws_x74_3
    rw [(right_T H ha (by omega)).1 hfi (by omega), bc_eq, if_neg (by decide)]
  | succ n ih =>
    intro i t fu u hi hf ht hp H ha hfi
    obtain ⟨fu, rfl⟩ : ∃ n', fu = n' + 1 := ⟨fu - 1, by omega⟩
    have hi6 := (pc6_le t ht).1
    have h256 : tx.getD i 300 < 256 := (H.2.2.2.2.2 i _ (getD_lt (by omega))).1
    have h64 : laF (tx.getD i 300) < 64 := by have := laF_in (tx.getD i 300); omega
    have hlenlt : i < tx.length := by omega
    by_cases c6 : i = 6
    · -- all six LAWS are told: the seventh sign is wrong
      have t63 := (pc6_le t ht).2 (by omega)
      have ew : lwF tx (n + 1) i t = (some i, t) := by
        unfold lwF
        rw [if_pos]
        rcases laF_in (tx.getD i 300) with z | z
        · exact Or.inl z
        · rw [t63]
          exact Or.inr (all6 _ z)
      have e300 : cT 6 tx i = 300 := if_neg (by omega)
      rw [ew]
      refine ⟨fun j s h => ?_, fun s h => by (cases h)⟩
      cases h
      refine ⟨wI u 119 12 (nI i), ?_, sameR_f (by simp)⟩
      unfold L_X12_laws_13
      rw [fine_y hfi, bc_eq, if_neg (by decide), here_T H ha (by omega), bc_eq, e300, if_pos (by decide)]
      unfold J_X12_laws_x74_3
      rw [(right_T H ha (by omega)).2.1 hfi hlenlt, bc_eq, if_pos rfl, wI_at]
    · have ec : cT 6 tx i = tx.getD i 300 := if_pos (by omega)
      have hhv : hv (cT 6 tx i) = nI (tx.getD i 300) := by
        rw [ec]
        exact if_pos h256
      have hne : ¬ nI (tx.getD i 300) = -1 := by
        intro z
        have := congrArg Int32.toInt z
        rw [nI_toInt (by omega)] at this
        have h2 : (-1 : Int32).toInt = -1 := by decide
        omega
      -- a wrong sign
      have bad : ∃ u1, J_X12_laws_j46_1 (J_X12_laws_j71_2 (L_X12_laws_13 J_X12_laws_x74_3 fu)) (nI t) u = some (-1 - nI i, u1) ∧ sameR [] [11, 12] [] [] u u1 := by
        obtain ⟨fu, rfl⟩ : ∃ n', fu = n' + 1 := ⟨fu - 1, by omega⟩
        have f12 : (wI u 119 12 (nI i)).1 119 12 = nI i := wI_at
        have H2 : rdT (wI u 119 12 (nI i)) 6 tx := rdT_same (E := []) (F := [12]) (Z := []) H (sameR_f (by simp)) (by simp) (by decide) (by decide) (by simp)
        refine ⟨wI u 119 12 (nI i), ?_, sameR_f (by simp)⟩
        unfold J_X12_laws_j46_1 J_X12_laws_j71_2 L_X12_laws_13
        rw [ha, fault_y hfi, bv_eq, fine_n f12 (by omega), bc_eq, if_pos rfl]
        unfold J_X12_laws_x74_3
        rw [(right_T H2 (by rw [wI_at_ne (by decide)]; exact ha) (by omega)).2.2 i (by omega) f12, bc_eq, if_pos rfl, f12]
      have hD : L_X12_laws_13 J_X12_laws_x74_3 (fu + 1) (nI t) u = if nI (laF (tx.getD i 300)) = 0 then J_X12_laws_j46_1 (J_X12_laws_j71_2 (L_X12_laws_13 J_X12_laws_x74_3 fu)) (nI t) u else if nI t &&& nI (laF (tx.getD i 300)) = 0 then L_X12_laws_13 J_X12_laws_x74_3 fu (nI t ||| nI (laF (tx.getD i 300))) (wI u 119 11 (nI (i + 1))) else J_X12_laws_j46_1 (J_X12_laws_j71_2 (L_X12_laws_13 J_X12_laws_x74_3 fu)) (nI t) u := by
        generalize hR : L_X12_laws_13 J_X12_laws_x74_3 fu = R
        unfold L_X12_laws_13
        rw [fine_y hfi, bc_eq, if_neg (by decide), here_T H ha (by omega), bc_eq, hhv, if_neg hne, here_T H ha (by omega), bc_eq, hhv, d_lawOf h256, bc_eq, bd_eq, bd_eq, bd_eq, bd_eq, ha, nI_1, hR]
        rfl
      rw [hD]
      by_cases c1 : laF (tx.getD i 300) = 0
      · have ew : lwF tx (n + 1) i t = (some i, t) := if_pos (Or.inl c1)
        rw [ew, if_pos (by rw [c1]; rfl)]
        refine ⟨fun j s h => ?_, fun s h => by (cases h)⟩
        cases h
        exact bad
      · have hz : ¬ nI (laF (tx.getD i 300)) = 0 := by rw [nI_z (by omega)]; exact c1
        have hand := (la_lt t ht _ h64).1
        rw [if_neg hz, la_and t ht _ h64]
        by_cases c2 : t &&& laF (tx.getD i 300) = 0
        · have ew : lwF tx (n + 1) i t = lwF tx n (i + 1) (t ||| laF (tx.getD i 300)) := if_neg (fun z => z.elim c1 (fun y => y c2))
          have s1 : sameR [] [11, 12] [] [] u (wI u 119 11 (nI (i + 1))) := sameR_f (by simp)
          have hp' := pc6_or t ht _ ((laF_in (tx.getD i 300)).resolve_left c1) c2
          obtain ⟨r1, r2⟩ := ih (i + 1) (t ||| laF (tx.getD i 300)) fu _ (by omega) (by omega) (la_lt t ht _ h64).2 (by omega) (rdT_same H s1 (by simp) (by decide) (by decide) (by simp)) wI_at (by rw [wI_at_ne (by decide)]; exact hfi)
          rw [ew, if_pos (by rw [c2]; rfl), la_or t ht _ h64]
          refine ⟨fun j s h => ?_, fun s h => ?_⟩
          · obtain ⟨u1, g1, g2⟩ := r1 j s h
            exact ⟨u1, g1, sameR_tr s1 g2⟩
          · obtain ⟨u1, g1, g2⟩ := r2 s h
            exact ⟨u1, g1, sameR_tr s1 g2⟩
        · have ew : lwF tx (n + 1) i t = (some i, t) := if_pos (Or.inr c2)
          rw [ew, if_neg (by rw [nI_z (by omega)]; exact c2)]
          refine ⟨fun j s h => ?_, fun s h => by (cases h)⟩
          cases h
          exact bad
end LW
theorem t_laws : Two D_X11_laws D_X12_laws := by
  intro w c L P hs tx rl cd V kp cl si rw B hBB m ok okr
  obtain ⟨hl, hx⟩ := ok.2.2.2.2.2.1
  have ht := m.2.2.2.2.1
  have hc := c_lwloop ht hl hx tx.length 0 0 FU (by omega) (by unfold FU; omega) (by decide)
  rw [nI_0] at hc
  have hlt := lwF_lt (tx := tx) tx.length 0 0 (by decide) rfl
  have t1 : ∀ v : Wd, textC (wI v 80 1 0) [] := fun v => ⟨by rw [wI_at]; rfl, fun i x h => by simp at h⟩
  have hM : ∀ u, MR u c L P hs tx rl kp cl si rw → ∃ u1, D_X12_laws u = L_X12_laws_13 J_X12_laws_x74_3 FU 0 u1 ∧ rdT u1 6 tx ∧ u1.1 119 11 = nI 0 ∧ u1.1 119 12 = -1 ∧ textM u1 [] ∧ sameR [121, 123] [4, 7, 9, 10, 11, 12] [] [0] u u1 := by
    intro u n
    have v := n.2.2.2.2.1
    obtain ⟨u1, e1, H1, a1, f1, tt, s1⟩ := begin_T (u := wI u 119 7 0) (T := 6) ⟨by rw [wI_at_ne (by decide)]; exact v.1, fun i x hi => by rw [wI_r (by decide)]; exact v.2 i x hi⟩ hl hx (by decide)
    refine ⟨u1, ?_, H1, a1, f1, tt, sameR_tr (sameR_f (k := 7) (v := 0) (by simp)) (sameR_sub s1 (by simp) (by decide) (by simp) (by simp))⟩
    unfold D_X12_laws
    rw [bd_eq, show (6 : Int32) = nI 6 from by decide +kernel, e1, bv_eq]
  cases hr : lwF tx tx.length 0 0 with
  | mk a s =>
    rw [hr] at hc hlt
    cases a with
    | some j =>
      have hj := hlt.2 j rfl
      have hneg : ¬ (0 : Int32) ≤ -1 - nI j := by
        rcases (by omega : j = 0 ∨ j = 1 ∨ j = 2 ∨ j = 3 ∨ j = 4 ∨ j = 5 ∨ j = 6) with e | e | e | e | e | e | e <;> subst e <;> decide +kernel
      obtain ⟨k1, k2⟩ := CR_text m (same_wI (by simp)) (t1 w)
      refine ⟨-1 - nI j, c, L, P, hs, [], rl, cd, V, kp, cl, si, rw, okS_text hBB ok (by simp) (by simp), okr, ⟨_, ?_, k1, k2⟩, fun u n hcm => ?_⟩
      · unfold D_X11_laws D_X11_readLaws
        rw [hc]
        simp only
        rw [bc_eq]
        unfold D_X9_clear
        rw [bd_eq, bv_eq, if_neg hneg]
      · obtain ⟨u1, g1, H1, a1, f1, tt, s1⟩ := hM u n
        obtain ⟨u2, g2, s2⟩ := (m_lwloop tx.length 0 0 FU u1 (by omega) (by unfold FU; omega) (by decide) rfl H1 a1 f1).1 j s hr
        rw [nI_0] at g2
        obtain ⟨k3, k4⟩ := MR_text n (sameR_tr s1 (sameR_sub s2 (by simp) (by decide) (by simp) (by simp))) (textM_same tt s2 (by simp) (by decide))
        exact ⟨u2, by rw [g1, g2], k3, came_on hcm k4⟩
    | none =>
      have hs64 : s < 64 := hlt.1
      obtain ⟨b, hb⟩ : ∃ b, ∀ v : Wd, D_J6_bitCount_0f7a4 (nI s) v = some (b, v) := ⟨_, fun v => rfl⟩
      have b2 : but [75, 80] w (wI (wI w 80 1 0) 75 18 (nI s)) := but_tr (but_wI (by simp)) (but_wI (by simp))
      have s2 : same [75, 80] [] w (wI (wI w 80 1 0) 75 18 (nI s)) := same_but b2
      obtain ⟨m1, m2, m3, m4, m5, m6, m7, m8, m9, m10, m11⟩ := m
      have k1 : CR (wI (wI w 80 1 0) 75 18 (nI s)) c s P hs [] cd kp cl si rw := ⟨isAt_same m1 s2 (by decide), wI_at, posC_same m3 s2 (by decide), histC_same m4 s2 (by decide), ⟨by rw [wI_r (by decide)]; exact (t1 w).1, fun i x h => by simp at h⟩, rowC_same m6 s2 (by decide) (by decide), keptC_same m7 s2 (by decide), noteC_same m8 s2 (by decide) (by decide) (by decide), noteC_same m9 s2 (by decide) (by decide) (by decide), ruleC_same m10 s2 (by decide) (by decide), greedC_same m11 s2 (by decide) (by decide)⟩
      have ok' : okS c s P hs [] kp cl si rw (B + 108) := by
        obtain ⟨o1, o2, o3, o4⟩ := okS_text (tx' := []) hBB ok (by simp) (by simp)
        exact ⟨o1, o2, hs64, o4⟩
      refine ⟨b, c, s, P, hs, [], rl, cd, V, kp, cl, si, rw, ok', okr, ⟨_, ?_, k1, onC_same s2 (by decide) (by simp)⟩, fun u n hcm => ?_⟩
      · unfold D_X11_laws D_X11_readLaws
        rw [hc]
        simp only
        rw [bc_eq]
        unfold D_X9_clear
        rw [bd_eq, bv_eq, if_pos (nI_pos' (by omega)), bd_eq, hb, bc_eq]
      · obtain ⟨u1, g1, H1, a1, f1, tt, s1⟩ := hM u n
        obtain ⟨u2, g2, s3⟩ := (m_lwloop tx.length 0 0 FU u1 (by omega) (by unfold FU; omega) (by decide) rfl H1 a1 f1).2 s hr
        rw [nI_0] at g2
        have sU : sameR [121, 123] [2, 4, 7, 9, 10, 11, 12] [] [0] u (wI u2 119 2 (nI s)) := sameR_tr (sameR_sub s1 (by simp) (by decide) (by simp) (by simp)) (sameR_tr (sameR_sub s3 (by simp) (by decide) (by simp) (by simp)) (sameR_f (by simp)))
        have tu : textM (wI u2 119 2 (nI s)) [] := textM_same (E := []) (F := [2]) (T := []) (Z := []) (textM_same tt s3 (by simp) (by decide)) (sameR_f (by simp)) (by simp) (by decide)
        obtain ⟨n1, n2, n3, n4, n5, n6, n7, n8, n9, n10, n11⟩ := n
        refine ⟨wI u2 119 2 (nI s), by rw [g1, g2, bd_eq, hb, bc_eq], ⟨(sU.2.1 1 (by decide)).trans n1, wI_at, isM_same n3 sU (by decide) (by decide), histM_same n4 sU (by decide) (by decide), tu, rowM_same n6 sU (by decide) (by decide), keptM_same n7 sU (by decide) (by decide) (by decide) (by decide), heardM_same n8 sU (by decide) (by decide) (by decide), sawM_same n9 sU (by decide) (by decide) (by decide), ruleM_same n10 sU (by decide) (by decide) (by decide) (by decide) (by decide), arrM_same n11 sU (by decide)⟩, came_on hcm (onM_sameR sU (by decide) (by decide) (by decide))⟩
