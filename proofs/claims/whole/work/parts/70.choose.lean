/-! how good a MOVE is, of the class and of the reference; the class's choice -/
theorem blk_uniq {cd : List Int32} {V U : (Nat → Int32) → Int32} (hV : Blk cd V) (hU : Blk cd U) (hl : cd.length ≤ 40) {f : Nat → Int32} (h1 : f 1 = 0 ∨ f 1 = 1) (h6 : ∀ k, 6 ≤ k → f k = f 6) : V f = U f := by
  let w : Wd := (fun a k => if a = 103 then nI cd.length else if a = 104 then cd.getD k 0 else if k = 4 then f 0 else if k = 7 then f 1 else if k = 2 then f 2 else if k = 3 then f 3 else if k = 5 then f 4 else if k = 8 then f 5 else f 6, fun _ _ => 0, fun _ => 0)
  have hj : juH w 103 84 cd := by
    refine ⟨fun i x hx => ?_, rfl, hl, by decide⟩
    show cd.getD i 0 = x
    rw [List.getD_eq_getElem?_getD, hx]
    rfl
  obtain ⟨g1, e1⟩ := d_judge hj hV
  obtain ⟨g2, e2⟩ := d_judge hj hU
  rw [e1] at e2
  have e3 : V (fM w 84) = U (fM w 84) := congrArg Prod.fst (Option.some.inj e2)
  have e4 : fM w 84 = f := by
    funext k
    unfold fM
    by_cases k0 : k = 0
    · subst k0; rfl
    · by_cases k1 : k = 1
      · subst k1
        show (if f 1 = 0 then 0 else 1) = f 1
        rcases h1 with h | h <;> rw [h] <;> rfl
      · by_cases k2 : k = 2
        · subst k2; rfl
        · by_cases k3 : k = 3
          · subst k3; rfl
          · by_cases k4 : k = 4
            · subst k4; rfl
            · by_cases k5 : k = 5
              · subst k5; rfl
              · rw [if_neg k0, if_neg k1, if_neg k2, if_neg k3, if_neg k4, if_neg k5, h6 k (by omega)]
                rfl
  rw [e4] at e3
  exact e3
/-- what a rule asks of the MOVE by PIT p -/
def askS (c L : Nat) (P : Nat → Nat) (p k : Nat) : Int32 := if k = 0 then gainS c L (P 14) p P else if k = 1 then nI (staysS L (mv1 c L (P 14) p P).1) else if k = 2 then nI p else if k = 3 then nI (P (P 14 * c + p)) else if k = 4 then nI (mv1 c L (P 14) p P).2.2 else if k = 5 then nI (emS (mvB c L (P 14) p P) (P 14 * c) c) else nI (sumS (mvB c L (P 14) p P) ((1 - P 14) * c) c)
theorem stays_01 (L q : Nat) : staysS L q = 0 ∨ staysS L q = 1 := by
  unfold staysS
  split
  · exact Or.inr rfl
  · exact Or.inl rfl
theorem ask_rz {c L p : Nat} {P : Nat → Nat} : (askS c L P p 1 = 0 ∨ askS c L P p 1 = 1) ∧ ∀ k, 6 ≤ k → askS c L P p k = askS c L P p 6 := by
  refine ⟨?_, fun k hk => ?_⟩
  · show nI (staysS L (mv1 c L (P 14) p P).1) = 0 ∨ nI (staysS L (mv1 c L (P 14) p P).1) = 1
    rcases stays_01 L (mv1 c L (P 14) p P).1 with h | h <;> rw [h]
    · exact Or.inl rfl
    · exact Or.inr rfl
  · unfold askS
    rw [if_neg (by omega), if_neg (by omega), if_neg (by omega), if_neg (by omega), if_neg (by omega), if_neg (by omega)]
    rfl
def JR (w : Wd) (o : Nat) (V : (Nat → Int32) → Int32) : Prop := (w.1 o 2 = 0 ∧ V = V0) ∨ ∃ cd, (∀ i x, cd[i]? = some x → w.1 (o + 1) i = x) ∧ w.1 o 2 = nI cd.length ∧ cd.length ≤ 40 ∧ Blk cd V
theorem JR_but {E : List Nat} {w w' : Wd} {o : Nat} {V : (Nat → Int32) → Int32} (h : JR w o V) (hb : but E w w') (h0 : o ∉ E) (h1 : o + 1 ∉ E) : JR w' o V := by
  unfold JR at h ⊢
  rw [hb.1 o h0, hb.1 (o + 1) h1]
  exact h
theorem d_judgeV {w : Wd} {o mv : Nat} {V : (Nat → Int32) → Int32} (h : JR w o V) (hm : mv ≠ o + 2) : ∃ g, D_X6_judge o mv w = some (V (fM w mv), wR w (o + 2) g) := by
  rcases h with ⟨h1, h2⟩ | ⟨cd, h1, h2, h3, h4⟩
  · refine ⟨w.1 (o + 2), ?_⟩
    rw [d_judge0 h1, wR_id, h2]
    rfl
  · exact d_judge ⟨h1, h2, h3, hm⟩ h4
/-- the choice among PITS 0 to p - 1, and how good it is -/
def chF (P : Nat → Nat) (b : Nat) (v : Nat → Int32) : Nat → Int32 × Int32
  | 0 => (-1, 0)
  | p + 1 => if P (b + p) = 0 then chF P b v p else if (chF P b v p).1 = -1 ∨ (chF P b v p).2 < v p then (nI p, v p) else chF P b v p
section CC
variable {w : Wd} {q o c L : Nat} {P : Nat → Nat} {V : (Nat → Int32) → Int32}
theorem but_wR {E : List Nat} {i : Nat} {f : Nat → Int32} (hi : i ∈ E) : but E w (wR w i f) := ⟨fun a ha => wR_ne (fun e => ha (e ▸ hi)), rfl⟩
theorem but_VW {E : List Nat} {v : Nat} {f : Nat → Int32} (h0 : q ∈ E) (h1 : q + 1 ∈ E) (h2 : q + 2 ∈ E) (hv : v ∈ E) : but E w (VW w v q c P f) := ⟨fun a ha => VW_ne (fun e => ha (e ▸ hv)) (fun e => ha (e ▸ h0)) (fun e => ha (e ▸ h1)) (fun e => ha (e ▸ h2)), rfl⟩
/-- a MOVE is tried on the position at r -/
theorem c_try {v r p : Nat} (hr : isPos r) (hq : isPos q) (hrq : r ≠ q) (hv : r + 2 < v) (hvq : q + 2 < v) (h : isAt w q c P) (h51 : ∃ c' P', isAt w r c' P') (hB : okB c L (P 14) P) (hp : p < c) : ∃ w1, D_X5_take r q w = some w1 ∧ isAt w1 r c P ∧ (P (P 14 * c + p) = 0 → D_X1_make v r (nI p) (nI L) w1 = some (0, w1)) ∧ but [r, r + 1, r + 2] w w1 ∧ (P (P 14 * c + p) ≠ 0 → ∃ w2, D_X1_make v r (nI p) (nI L) w1 = some (1, w2) ∧ isAt w2 r c (mvP c L (P 14) p P) ∧ fM w2 v = askS c L P p ∧ w2.1 v 7 = nI (staysS L (mv1 c L (P 14) p P).1) ∧ w2.1 v 6 = nI (mv1 c L (P 14) p P).1 ∧ w2.1 v 5 = nI (mv1 c L (P 14) p P).2.2 ∧ w2.1 v 4 = gainS c L (P 14) p P ∧ but [r, r + 1, r + 2, v] w w2) := by
  obtain ⟨c', P', h51⟩ := h51
  have b1 : but [r, r + 1, r + 2] w (pW w r c P) := pW_but
  refine ⟨pW w r c P, d_take hr.2 hq.2 hrq h51 h, pW_at _ _ _ _, fun h0 => ?_, b1, fun hne => ?_⟩
  · unfold D_X1_make
    rw [d_canMove (pW_at _ _ _ _) hB.2.1 hB.2.2.2.1 hB.2.2.2.2.2 hp, if_pos h0, bc_eq, if_pos rfl]
  · have hmk := d_make (w := pW w r c P) (v := v) (q := r) (f := (pW w r c P).1 v) hv hB hp hne
    rw [VW_same (pW_at _ _ _ _)] at hmk
    refine ⟨_, hmk, VW_at hv, ?_, ?_, ?_, ?_, ?_, but_tr (but_sub b1 (by simp)) (but_VW (by simp) (by simp) (by simp) (by simp))⟩
    · funext k
      unfold fM askS
      rw [VW_v]
      by_cases k1 : k = 1
      · subst k1
        show (if nI (staysS L (mv1 c L (P 14) p P).1) = 0 then 0 else 1) = nI (staysS L (mv1 c L (P 14) p P).1)
        rcases stays_01 L (mv1 c L (P 14) p P).1 with h | h <;> rw [h] <;> rfl
      · rw [if_neg k1, if_neg k1]
        rfl
    · rw [VW_v]; rfl
    · rw [VW_v]; rfl
    · rw [VW_v]; rfl
    · rw [VW_v]; rfl
theorem c_chloop (hq : isPos q) (hq51 : q + 2 < 51) (ho : isRule o) (hB : okB c L (P 14) P) : ∀ (m p fu : Nat) (w : Wd), m + p = c → m < fu → isAt w q c P → (∃ c' P', isAt w 51 c' P') → JR w o V → w.1 85 2 = (chF P (P 14 * c) (fun p => V (askS c L P p)) p).2 → ∃ w', L_X4_choose_11 q o (nI L) J_X4_choose_x86_3 fu (chF P (P 14 * c) (fun p => V (askS c L P p)) p).1 (nI p) w = some ((chF P (P 14 * c) (fun p => V (askS c L P p)) c).1, w') ∧ w'.1 85 2 = (chF P (P 14 * c) (fun p => V (askS c L P p)) c).2 ∧ but [51, 52, 53, 85, 86, o + 2] w w' ∧ ∃ c' P', isAt w' 51 c' P' := by
  intro m
  induction m with
  | zero =>
    intro p fu w hp hf h h51 hj h85
    obtain ⟨fu, rfl⟩ : ∃ n', fu = n' + 1 := ⟨fu - 1, by omega⟩
    have : p = c := by omega
    subst this
    refine ⟨w, ?_, h85, but_rf w, h51⟩
    unfold L_X4_choose_11
    rw [isAt_c h, if_pos (nI_le (Nat.le_refl _) (by have := hB.2.1; omega))]
    rfl
  | succ m ih =>
    intro p fu w hp hf h h51 hj h85
    obtain ⟨fu, rfl⟩ : ∃ n', fu = n' + 1 := ⟨fu - 1, by omega⟩
    have h6 := hB.2.1
    have ho2 : o + 2 ≠ 86 ∧ o + 2 ≠ 85 ∧ 53 < o ∧ o ≠ 85 ∧ o ≠ 86 ∧ o + 1 ≠ 85 ∧ o + 1 ≠ 86 := by rcases ho with z | z | z <;> subst z <;> decide
    have hat : ∀ {w' : Wd}, but [51, 52, 53, 85, 86, o + 2] w w' → isAt w' q c P ∧ JR w' o V := fun hb => ⟨at_but hb (by simp; omega) (by simp; omega) (by simp; omega) h, JR_but hj hb (by simp; omega) (by simp; omega)⟩
    obtain ⟨w1, t1, t2, t3, t4, t5⟩ := c_try (r := 51) (v := 86) (p := p) (by decide) hq (by omega) (by decide) (by omega) h h51 hB (by omega)
    unfold L_X4_choose_11
    rw [isAt_c h, if_neg (nI_ge (by omega) (by omega)), t1, bv_eq]
    by_cases h0 : P (P 14 * c + p) = 0
    · rw [t3 h0, bc_eq, bd_eq, if_pos rfl]
      unfold J_X4_choose_j80_2
      rw [bd_eq, nI_1]
      have e : chF P (P 14 * c) (fun p => V (askS c L P p)) (p + 1) = chF P (P 14 * c) (fun p => V (askS c L P p)) p := by
        show (if P (P 14 * c + p) = 0 then _ else _) = _
        rw [if_pos h0]
      have hb : but [51, 52, 53, 85, 86, o + 2] w w1 := but_sub t4 (by simp)
      obtain ⟨w', g1, g2, g3, g4⟩ := ih (p + 1) fu w1 (by omega) (by omega) (hat hb).1 ⟨_, _, t2⟩ (hat hb).2 (by rw [t4.1 85 (by decide), e]; exact h85)
      rw [e] at g1
      exact ⟨w', g1, g2, but_tr hb g3, g4⟩
    · obtain ⟨w2, s1, s2, s3, -, -, -, -, s4⟩ := t5 h0
      have hb : but [51, 52, 53, 85, 86, o + 2] w w2 := but_sub s4 (by simp)
      rw [s1, bc_eq, bd_eq, if_neg (by decide)]
      obtain ⟨g, j1⟩ := d_judgeV (mv := 86) (hat hb).2 (by omega)
      rw [j1, bc_eq, bd_eq, s3]
      have hb3 : but [51, 52, 53, 85, 86, o + 2] w (wR w2 (o + 2) g) := but_tr hb (but_wR (by simp))
      have at3 : ∃ c' P', isAt (wR w2 (o + 2) g) 51 c' P' := ⟨_, _, at_but (E := [o + 2]) (but_wR (by simp)) (by simp; omega) (by simp; omega) (by simp; omega) s2⟩
      have e85 : (wR w2 (o + 2) g).1 85 2 = (chF P (P 14 * c) (fun p => V (askS c L P p)) p).2 := by
        rw [wR_ne (by omega), s4.1 85 (by decide)]
        exact h85
      have ef : chF P (P 14 * c) (fun p => V (askS c L P p)) (p + 1) = if (chF P (P 14 * c) (fun p => V (askS c L P p)) p).1 = -1 ∨ (chF P (P 14 * c) (fun p => V (askS c L P p)) p).2 < V (askS c L P p) then (nI p, V (askS c L P p)) else chF P (P 14 * c) (fun p => V (askS c L P p)) p := by
        show (if P (P 14 * c + p) = 0 then _ else _) = _
        rw [if_neg h0]
      have take : (chF P (P 14 * c) (fun p => V (askS c L P p)) p).1 = -1 ∨ (chF P (P 14 * c) (fun p => V (askS c L P p)) p).2 < V (askS c L P p) → ∃ w', J_X4_choose_j70_1 (V (askS c L P p)) (J_X4_choose_j80_2 (L_X4_choose_11 q o (nI L) J_X4_choose_x86_3 fu) (nI p)) (nI p) (wR w2 (o + 2) g) = some ((chF P (P 14 * c) (fun p => V (askS c L P p)) c).1, w') ∧ w'.1 85 2 = (chF P (P 14 * c) (fun p => V (askS c L P p)) c).2 ∧ but [51, 52, 53, 85, 86, o + 2] w w' ∧ ∃ c' P', isAt w' 51 c' P' := by
        intro hc
        rw [if_pos hc] at ef
        unfold J_X4_choose_j70_1 J_X4_choose_j80_2
        rw [bd_eq, bd_eq, nI_1]
        have hb4 : but [51, 52, 53, 85, 86, o + 2] w (wI (wR w2 (o + 2) g) 85 2 (V (askS c L P p))) := but_tr hb3 (but_wI (by simp))
        obtain ⟨c1, P1, a3⟩ := at3
        obtain ⟨w', g1, g2, g3, g4⟩ := ih (p + 1) fu (wI (wR w2 (o + 2) g) 85 2 (V (askS c L P p))) (by omega) (by omega) (hat hb4).1 ⟨c1, P1, isAt_wI (by decide) a3⟩ (hat hb4).2 (by rw [wI_at, ef])
        rw [ef] at g1
        exact ⟨w', g1, g2, but_tr hb4 g3, g4⟩
      by_cases c1 : (chF P (P 14 * c) (fun p => V (askS c L P p)) p).1 = -1
      · rw [if_pos c1]
        exact take (Or.inl c1)
      · rw [if_neg c1, e85]
        by_cases c2 : V (askS c L P p) ≤ (chF P (P 14 * c) (fun p => V (askS c L P p)) p).2
        · rw [if_pos c2]
          have hn : ¬ ((chF P (P 14 * c) (fun p => V (askS c L P p)) p).1 = -1 ∨ (chF P (P 14 * c) (fun p => V (askS c L P p)) p).2 < V (askS c L P p)) := by
            rintro (z | z)
            · exact c1 z
            · exact absurd c2 (Int32.not_le.mpr z)
          rw [if_neg hn] at ef
          unfold J_X4_choose_j80_2
          rw [bd_eq, nI_1]
          obtain ⟨w', g1, g2, g3, g4⟩ := ih (p + 1) fu (wR w2 (o + 2) g) (by omega) (by omega) (hat hb3).1 at3 (hat hb3).2 (by rw [e85, ef])
          rw [ef] at g1
          exact ⟨w', g1, g2, but_tr hb3 g3, g4⟩
        · rw [if_neg c2]
          exact take (Or.inr (Int32.not_le.mp c2))
/-- Player.choose -/
theorem c_choose (hq : isPos q) (hq51 : q + 2 < 51) (ho : isRule o) (hB : okB c L (P 14) P) (h : isAt w q c P) (h51 : ∃ c' P', isAt w 51 c' P') (hj : JR w o V) : ∃ w', D_X4_choose q o (nI L) w = some ((chF P (P 14 * c) (fun p => V (askS c L P p)) c).1, w') ∧ w'.1 85 2 = (chF P (P 14 * c) (fun p => V (askS c L P p)) c).2 ∧ but [51, 52, 53, 85, 86, o + 2] w w' ∧ ∃ c' P', isAt w' 51 c' P' := by
  have ho2 : 53 < o ∧ o ≠ 85 ∧ o + 1 ≠ 85 := by rcases ho with z | z | z <;> subst z <;> decide
  have hb : but [51, 52, 53, 85, 86, o + 2] w (wI w 85 2 0) := but_wI (by simp)
  have h85 : but [85] w (wI w 85 2 0) := but_wI (by simp)
  obtain ⟨c1, P1, a1⟩ := h51
  obtain ⟨w', g1, g2, g3, g4⟩ := c_chloop hq hq51 ho hB c 0 FU (wI w 85 2 0) rfl (by have := hB.2.1; unfold FU; omega) (isAt_wI (by omega) h) ⟨c1, P1, isAt_wI (by decide) a1⟩ (JR_but hj h85 (by simp; omega) (by simp; omega)) (by rw [wI_at]; rfl)
  refine ⟨w', ?_, g2, but_tr hb g3, g4⟩
  unfold D_X4_choose
  rw [bd_eq]
  rw [nI_0] at g1
  exact g1
end CC
