/-! the reference's choice; a MOVE that the rule plays, of both -/
section BO
variable {w : Wd} {a c L : Nat} {P : Nat → Nat} {V : (Nat → Int32) → Int32}
theorem ruM_same {E F T Z : List Nat} {w w' : Wd} (m : ruM w V) (h : sameR E F T Z w w') (h0 : 124 ∉ E) (h1 : 125 ∉ E) (h3 : 16 ∉ F) (hz : 1 ∉ Z) (hz2 : 2 ∉ Z) : ruM w' V := by
  obtain ⟨rl, cd, a, b⟩ := m
  exact ⟨rl, cd, ruleM_same a h h0 h1 h3 hz hz2, b⟩
abbrev EW : List Nat := [126, 130]
abbrev FW : List Nat := [9, 10, 11, 12, 17, 19, 20, 21]
theorem m_boloop (ha : a ≠ 119) (ha0 : a ≠ 130) (ha1 : a ≠ 126) (hla : ln a = 16) (hB : okB c L (P 14) P) : ∀ (m p fu : Nat) (w : Wd), m + p = c → m < fu → isM w a P → (∃ Q, isM w 130 Q) → w.1 119 1 = nI c → w.1 119 2 = nI L → ruM w V → ∃ w', L_X12_bestOf_7 a J_X12_bestOf_x64_3 fu (chF P (P 14 * c) (fun p => V (askS c L P p)) p).1 (chF P (P 14 * c) (fun p => V (askS c L P p)) p).2 (nI p) w = some ((chF P (P 14 * c) (fun p => V (askS c L P p)) c).1, w') ∧ sameR EW FW [] [0] w w' ∧ ∃ Q, isM w' 130 Q := by
  intro m
  induction m with
  | zero =>
    intro p fu w hp hf h h130 hc hL hr
    obtain ⟨fu, rfl⟩ : ∃ n', fu = n' + 1 := ⟨fu - 1, by omega⟩
    have : p = c := by omega
    subst this
    refine ⟨w, ?_, sameR_rf w, h130⟩
    unfold L_X12_bestOf_7
    rw [hc, if_pos (nI_le (Nat.le_refl _) (by have := hB.2.1; omega))]
    rfl
  | succ m ih =>
    intro p fu w hp hf h h130 hc hL hr
    obtain ⟨fu, rfl⟩ : ∃ n', fu = n' + 1 := ⟨fu - 1, by omega⟩
    have h6 := hB.2.1
    unfold L_X12_bestOf_7
    rw [hc, if_neg (nI_ge (by omega) (by omega)), d_refuses hla h.1 hc hB.1 h6 hB.2.2.2.1 hB.2.2.2.2.2 (by omega), bc_eq, bd_eq]
    unfold rfS
    by_cases h0 : P (P 14 * c + p) = 0
    · have e : chF P (P 14 * c) (fun p => V (askS c L P p)) (p + 1) = chF P (P 14 * c) (fun p => V (askS c L P p)) p := by
        show (if P (P 14 * c + p) = 0 then _ else _) = _
        rw [if_pos h0]
      rw [if_pos h0, if_neg (by decide)]
      unfold J_X12_bestOf_j58_2
      rw [bd_eq, nI_1]
      have := ih (p + 1) fu w (by omega) (by omega) h h130 hc hL hr
      rw [e] at this
      exact this
    · rw [if_neg h0, if_pos (by decide)]
      have ef : chF P (P 14 * c) (fun p => V (askS c L P p)) (p + 1) = if (chF P (P 14 * c) (fun p => V (askS c L P p)) p).1 = -1 ∨ (chF P (P 14 * c) (fun p => V (askS c L P p)) p).2 < V (askS c L P p) then (nI p, V (askS c L P p)) else chF P (P 14 * c) (fun p => V (askS c L P p)) p := by
        show (if P (P 14 * c + p) = 0 then _ else _) = _
        rw [if_neg h0]
      obtain ⟨w1, e1, s1, q1⟩ := m_worthOf ha ha0 ha1 hla h h130 hc hL hB (p := p) (by omega) hr
      rw [e1, bc_eq, bd_eq]
      have nxt := ih (p + 1) fu w1 (by omega) (by omega) (isM_same h s1 (by simp [ha0, ha1]) ha) q1 ((s1.2.1 1 (by decide)).trans hc) ((s1.2.1 2 (by decide)).trans hL) (ruM_same hr s1 (by decide) (by decide) (by decide) (by decide) (by decide))
      have take : (chF P (P 14 * c) (fun p => V (askS c L P p)) p).1 = -1 ∨ (chF P (P 14 * c) (fun p => V (askS c L P p)) p).2 < V (askS c L P p) → ∃ w', J_X12_bestOf_j52_1 (J_X12_bestOf_j58_2 (L_X12_bestOf_7 a J_X12_bestOf_x64_3 fu) (nI p)) (nI p) (V (askS c L P p)) w1 = some ((chF P (P 14 * c) (fun p => V (askS c L P p)) c).1, w') ∧ sameR EW FW [] [0] w w' ∧ ∃ Q, isM w' 130 Q := by
        intro hc'
        rw [if_pos hc'] at ef
        rw [ef] at nxt
        obtain ⟨w', g1, g2, g3⟩ := nxt
        unfold J_X12_bestOf_j52_1 J_X12_bestOf_j58_2
        rw [bd_eq, nI_1]
        exact ⟨w', g1, sameR_tr s1 g2, g3⟩
      by_cases c1 : (chF P (P 14 * c) (fun p => V (askS c L P p)) p).1 = -1
      · rw [if_pos c1]
        exact take (Or.inl c1)
      · rw [if_neg c1]
        by_cases c2 : (chF P (P 14 * c) (fun p => V (askS c L P p)) p).2 < V (askS c L P p)
        · rw [if_pos c2]
          exact take (Or.inr c2)
        · rw [if_neg c2]
          rw [if_neg (fun z => z.elim c1 c2)] at ef
          rw [ef] at nxt
          obtain ⟨w', g1, g2, g3⟩ := nxt
          unfold J_X12_bestOf_j58_2
          rw [bd_eq, nI_1]
          exact ⟨w', g1, sameR_tr s1 g2, g3⟩
theorem m_bestOf (ha : a ≠ 119) (ha0 : a ≠ 130) (ha1 : a ≠ 126) (hla : ln a = 16) (hB : okB c L (P 14) P) (h : isM w a P) (h130 : ∃ Q, isM w 130 Q) (hc : w.1 119 1 = nI c) (hL : w.1 119 2 = nI L) (hr : ruM w V) : ∃ w', D_X12_bestOf a w = some ((chF P (P 14 * c) (fun p => V (askS c L P p)) c).1, w') ∧ sameR EW FW [] [0] w w' ∧ ∃ Q, isM w' 130 Q := by
  have := m_boloop ha ha0 ha1 hla hB c 0 FU w rfl (by have := hB.2.1; unfold FU; omega) h h130 hc hL hr
  rw [nI_0] at this
  exact this
/-- the choice is a PIT that is not empty, unless all are -/
theorem chF_ok {P : Nat → Nat} {b : Nat} {v : Nat → Int32} : ∀ n, n ≤ 12 → (sumS P b n = 0 ∧ chF P b v n = (-1, 0)) ∨ (sumS P b n ≠ 0 ∧ ∃ p, p < n ∧ P (b + p) ≠ 0 ∧ chF P b v n = (nI p, v p)) := by
  intro n
  induction n with
  | zero => intro _; exact Or.inl ⟨rfl, rfl⟩
  | succ n ih =>
    intro hn
    have e : sumS P b (n + 1) = sumS P b n + P (b + n) := rfl
    have ec : chF P b v (n + 1) = if P (b + n) = 0 then chF P b v n else if (chF P b v n).1 = -1 ∨ (chF P b v n).2 < v n then (nI n, v n) else chF P b v n := rfl
    by_cases h0 : P (b + n) = 0
    · rw [if_pos h0] at ec
      rw [e, ec, h0, Nat.add_zero]
      rcases ih (by omega) with ⟨h1, h2⟩ | ⟨h1, p, h2, h3, h4⟩
      · exact Or.inl ⟨h1, h2⟩
      · exact Or.inr ⟨h1, p, by omega, h3, h4⟩
    · rw [if_neg h0] at ec
      rw [e, ec]
      refine Or.inr ⟨by omega, ?_⟩
      by_cases h1 : (chF P b v n).1 = -1 ∨ (chF P b v n).2 < v n
      · rw [if_pos h1]
        exact ⟨n, by omega, h0, rfl⟩
      · rw [if_neg h1]
        rcases ih (by omega) with ⟨h2, h3⟩ | ⟨h2, p, h3, h4, h5⟩
        · exact absurd (Or.inl (by rw [h3])) h1
        · exact ⟨p, by omega, h4, h5⟩
/-- the position behind the MOVE that the rule plays; as it is, if it is OVER -/
def overS (c : Nat) (P : Nat → Nat) : Bool := decide (sumS P (P 14 * c) c = 0)
def pickS (c L : Nat) (P : Nat → Nat) (V : (Nat → Int32) → Int32) : Nat := (chF P (P 14 * c) (fun p => V (askS c L P p)) c).1.toNatClampNeg
def rlS (c L : Nat) (P : Nat → Nat) (V : (Nat → Int32) → Int32) : Nat → Nat := if overS c P = true then P else mvP c L (P 14) (pickS c L P V) P
theorem pick_ok (hB : okB c L (P 14) P) (ho : overS c P = false) : pickS c L P V < c ∧ P (P 14 * c + pickS c L P V) ≠ 0 ∧ chF P (P 14 * c) (fun p => V (askS c L P p)) c = (nI (pickS c L P V), V (askS c L P (pickS c L P V))) := by
  have h6 := hB.2.1
  unfold overS at ho
  rw [decide_eq_false_iff_not] at ho
  rcases chF_ok (P := P) (b := P 14 * c) (v := fun p => V (askS c L P p)) c (by omega) with ⟨h1, -⟩ | ⟨-, p, h2, h3, h4⟩
  · exact absurd h1 ho
  · have e : pickS c L P V = p := by
      unfold pickS
      rw [h4]
      exact nI_clamp (by omega)
    rw [e]
    exact ⟨h2, h3, h4⟩
theorem pick_no (hB : okB c L (P 14) P) (ho : overS c P = true) : chF P (P 14 * c) (fun p => V (askS c L P p)) c = (-1, 0) := by
  have h6 := hB.2.1
  unfold overS at ho
  rw [decide_eq_true_eq] at ho
  rcases chF_ok (P := P) (b := P 14 * c) (v := fun p => V (askS c L P p)) c (by omega) with ⟨-, h1⟩ | ⟨h1, -⟩
  · exact h1
  · exact absurd ho h1
theorem rlS_ok (hB : okB c L (P 14) P) : okB c L (rlS c L P V 14) (rlS c L P V) ∧ tot (rlS c L P V) = tot P := by
  unfold rlS
  cases ho : overS c P with
  | true => simpa using hB
  | false =>
    have := (pick_ok (V := V) hB ho).1
    simp only [Bool.false_eq_true, if_false]
    exact ⟨okB_mv hB this, (mvP_14 hB this).2⟩
theorem m_goRule (ha : a ≠ 119) (ha0 : a ≠ 130) (ha1 : a ≠ 126) (hla : ln a = 16) (hB : okB c L (P 14) P) (h : isM w a P) (h130 : ∃ Q, isM w 130 Q) (hc : w.1 119 1 = nI c) (hL : w.1 119 2 = nI L) (hr : ruM w V) : ∃ w', D_X12_goRule a w = some (if overS c P = true then 0 else 1, w') ∧ sameR (a :: EW) FW [] [0] w w' ∧ isM w' a (rlS c L P V) ∧ ∃ Q, isM w' 130 Q := by
  unfold D_X12_goRule
  rw [d_isOverM hla h.1 hc hB.2.1 hB.2.2.2.1 hB.2.2.2.2.2, bc_eq]
  cases ho : overS c P with
  | true =>
    have h1 : sumS P (P 14 * c) c = 0 := by unfold overS at ho; rwa [decide_eq_true_eq] at ho
    rw [if_pos h1, if_neg (by decide), if_pos rfl]
    refine ⟨w, rfl, sameR_rf w, ?_, h130⟩
    unfold rlS
    rw [if_pos ho]
    exact h
  | false =>
    have h1 : ¬ sumS P (P 14 * c) c = 0 := by unfold overS at ho; rwa [decide_eq_false_iff_not] at ho
    obtain ⟨p1, p2, p3⟩ := pick_ok (V := V) hB ho
    rw [if_neg h1, if_pos rfl, if_neg (by decide)]
    obtain ⟨w1, e1, s1, q1⟩ := m_bestOf ha ha0 ha1 hla hB h h130 hc hL hr
    have i1 := isM_same h s1 (by simp [ha0, ha1]) ha
    rw [e1, bc_eq, p3]
    have hgo := d_goMove (w := w1) (a := a) (c := c) (L := L) (m := P 14) (g := w1.1 119) (p := pickS c L P V) (P := P) ha hla ((s1.2.1 1 (by decide)).trans hc) ((s1.2.1 2 (by decide)).trans hL) hB p1
    rw [← i1.1, W2_id ha] at hgo
    rw [hgo, bv_eq]
    refine ⟨_, rfl, sameR_tr (sameR_sub s1 (by simp) (by simp) (by simp) (by simp)) ⟨fun b hb h9 => W2_ne (fun z => hb (by simp [z])) h9, fun k hk => ?_, fun _ _ => by rw [W2_2], fun _ _ => by rw [W2_2]⟩, ?_, ?_⟩
    · simp only [List.mem_cons, List.not_mem_nil, or_false, not_or] at hk
      rw [W2_M, upd_ne (by omega), upd_ne (by omega), upd_ne (by omega)]
    · unfold rlS
      rw [if_neg (by rw [ho]; decide)]
      exact ⟨W2_a ha, mvP_hi hB p1 h.2⟩
    · obtain ⟨Q, hQ⟩ := q1
      exact ⟨Q, by unfold isM; rw [W2_ne (Ne.symm ha0) (by decide)]; exact hQ⟩
theorem c_play {q o : Nat} (hq : isPos q) (hq51 : q + 2 < 51) (ho : isRule o) (hB : okB c L (P 14) P) (h : isAt w q c P) (h51 : ∃ c' P', isAt w 51 c' P') (hj : JR w o V) : ∃ w', D_X4_play q o (nI L) w = some (if overS c P = true then 0 else 1, w') ∧ isAt w' q c (rlS c L P V) ∧ but [q, q + 1, q + 2, 51, 52, 53, 85, 86, o + 2] w w' ∧ ∃ c' P', isAt w' 51 c' P' := by
  have ho2 : 53 < o ∧ o ≠ 85 ∧ o ≠ 86 ∧ o + 1 ≠ 85 ∧ o + 1 ≠ 86 := by rcases ho with z | z | z <;> subst z <;> decide
  obtain ⟨w1, e1, e2, b1, c1, P1, a1⟩ := c_choose hq hq51 ho hB h h51 hj
  have i1 : isAt w1 q c P := at_but b1 (by simp; omega) (by simp; omega) (by simp; omega) h
  unfold D_X4_play
  rw [e1, bc_eq]
  cases hov : overS c P with
  | true =>
    have hn : D_X1_make 86 q (-1) (nI L) w1 = some (0, w1) := by
      unfold D_X1_make
      rw [d_canMove_no (isAt_c i1) (Or.inl (by decide)), bc_eq, if_pos rfl]
    rw [pick_no hB hov, hn, bc_eq, if_pos (show b01 0 = true by decide), if_pos rfl]
    refine ⟨w1, rfl, ?_, but_sub b1 (by simp), c1, P1, a1⟩
    unfold rlS
    rw [if_pos hov]
    exact i1
  | false =>
    obtain ⟨p1, p2, p3⟩ := pick_ok (V := V) hB hov
    have hmk := d_make (w := w1) (v := 86) (q := q) (f := w1.1 86) (by omega) hB p1 p2
    rw [VW_same i1] at hmk
    rw [p3, hmk, bc_eq, if_pos (show b01 1 = true by decide), if_neg (by decide)]
    refine ⟨_, rfl, ?_, but_tr (but_sub b1 (by simp)) (but_VW (by simp) (by simp) (by simp) (by simp)), c1, P1, ?_⟩
    · unfold rlS
      rw [if_neg (by rw [hov]; decide)]
      exact VW_at (by omega)
    · unfold isAt
      rw [VW_ne (by decide) (by omega) (by omega) (by omega), VW_ne (by decide) (by omega) (by omega) (by omega), VW_ne (by decide) (by omega) (by omega) (by omega)]
      exact a1
end BO
